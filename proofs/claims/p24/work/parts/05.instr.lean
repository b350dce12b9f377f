/-! each instruction: forty places at a time -/
set_option maxRecDepth 100000 in
set_option maxHeartbeats 4000000 in
theorem zz_u0_0 : zz_okU 0 0 = true := by decide +kernel
set_option maxRecDepth 100000 in
set_option maxHeartbeats 4000000 in
theorem zz_u0_1 : zz_okU 0 1 = true := by decide +kernel
set_option maxRecDepth 100000 in
set_option maxHeartbeats 4000000 in
theorem zz_u0_2 : zz_okU 0 2 = true := by decide +kernel
set_option maxRecDepth 100000 in
set_option maxHeartbeats 4000000 in
theorem zz_u0_3 : zz_okU 0 3 = true := by decide +kernel
set_option maxRecDepth 100000 in
set_option maxHeartbeats 4000000 in
theorem zz_u0_4 : zz_okU 0 4 = true := by decide +kernel
set_option maxRecDepth 100000 in
set_option maxHeartbeats 4000000 in
theorem zz_u0_5 : zz_okU 0 5 = true := by decide +kernel
set_option maxRecDepth 100000 in
set_option maxHeartbeats 4000000 in
theorem zz_u0_6 : zz_okU 0 6 = true := by decide +kernel
set_option maxRecDepth 100000 in
set_option maxHeartbeats 4000000 in
theorem zz_u0_7 : zz_okU 0 7 = true := by decide +kernel
set_option maxRecDepth 100000 in
set_option maxHeartbeats 4000000 in
theorem zz_u0_8 : zz_okU 0 8 = true := by decide +kernel
set_option maxRecDepth 100000 in
set_option maxHeartbeats 4000000 in
theorem zz_u0_9 : zz_okU 0 9 = true := by decide +kernel
set_option maxRecDepth 100000 in
set_option maxHeartbeats 4000000 in
theorem zz_u0_10 : zz_okU 0 10 = true := by decide +kernel
set_option maxRecDepth 100000 in
set_option maxHeartbeats 4000000 in
theorem zz_u0_11 : zz_okU 0 11 = true := by decide +kernel
set_option maxRecDepth 100000 in
set_option maxHeartbeats 4000000 in
theorem zz_u0_12 : zz_okU 0 12 = true := by decide +kernel
set_option maxRecDepth 100000 in
set_option maxHeartbeats 4000000 in
theorem zz_u0_13 : zz_okU 0 13 = true := by decide +kernel
set_option maxRecDepth 100000 in
set_option maxHeartbeats 4000000 in
theorem zz_u0_14 : zz_okU 0 14 = true := by decide +kernel
set_option maxRecDepth 100000 in
set_option maxHeartbeats 4000000 in
theorem zz_u0_15 : zz_okU 0 15 = true := by decide +kernel
set_option maxRecDepth 100000 in
set_option maxHeartbeats 4000000 in
theorem zz_u0_16 : zz_okU 0 16 = true := by decide +kernel
set_option maxRecDepth 100000 in
set_option maxHeartbeats 4000000 in
theorem zz_u0_17 : zz_okU 0 17 = true := by decide +kernel
set_option maxRecDepth 100000 in
set_option maxHeartbeats 4000000 in
theorem zz_u0_18 : zz_okU 0 18 = true := by decide +kernel
set_option maxRecDepth 100000 in
set_option maxHeartbeats 4000000 in
theorem zz_u0_19 : zz_okU 0 19 = true := by decide +kernel
set_option maxRecDepth 100000 in
set_option maxHeartbeats 4000000 in
theorem zz_u0_20 : zz_okU 0 20 = true := by decide +kernel
set_option maxRecDepth 100000 in
set_option maxHeartbeats 4000000 in
theorem zz_u0_21 : zz_okU 0 21 = true := by decide +kernel
set_option maxRecDepth 100000 in
set_option maxHeartbeats 4000000 in
theorem zz_u0_22 : zz_okU 0 22 = true := by decide +kernel
set_option maxRecDepth 100000 in
set_option maxHeartbeats 4000000 in
theorem zz_u0_23 : zz_okU 0 23 = true := by decide +kernel
set_option maxRecDepth 100000 in
set_option maxHeartbeats 4000000 in
theorem zz_u0_24 : zz_okU 0 24 = true := by decide +kernel
set_option maxRecDepth 100000 in
set_option maxHeartbeats 4000000 in
theorem zz_u0_25 : zz_okU 0 25 = true := by decide +kernel
set_option maxRecDepth 100000 in
set_option maxHeartbeats 4000000 in
theorem zz_u0_26 : zz_okU 0 26 = true := by decide +kernel
set_option maxRecDepth 100000 in
set_option maxHeartbeats 4000000 in
theorem zz_u0_27 : zz_okU 0 27 = true := by decide +kernel
set_option maxRecDepth 100000 in
set_option maxHeartbeats 4000000 in
theorem zz_u0_28 : zz_okU 0 28 = true := by decide +kernel
set_option maxRecDepth 100000 in
set_option maxHeartbeats 4000000 in
theorem zz_u0_29 : zz_okU 0 29 = true := by decide +kernel
set_option maxRecDepth 100000 in
set_option maxHeartbeats 4000000 in
theorem zz_u0_30 : zz_okU 0 30 = true := by decide +kernel
set_option maxRecDepth 100000 in
set_option maxHeartbeats 4000000 in
theorem zz_u0_31 : zz_okU 0 31 = true := by decide +kernel
set_option maxRecDepth 100000 in
set_option maxHeartbeats 4000000 in
theorem zz_u0_32 : zz_okU 0 32 = true := by decide +kernel
set_option maxRecDepth 100000 in
set_option maxHeartbeats 4000000 in
theorem zz_u0_33 : zz_okU 0 33 = true := by decide +kernel
set_option maxRecDepth 100000 in
set_option maxHeartbeats 4000000 in
theorem zz_u0_34 : zz_okU 0 34 = true := by decide +kernel
set_option maxRecDepth 100000 in
set_option maxHeartbeats 4000000 in
theorem zz_u0_35 : zz_okU 0 35 = true := by decide +kernel
set_option maxRecDepth 100000 in
set_option maxHeartbeats 4000000 in
theorem zz_u0_36 : zz_okU 0 36 = true := by decide +kernel
set_option maxRecDepth 100000 in
set_option maxHeartbeats 4000000 in
theorem zz_u0_37 : zz_okU 0 37 = true := by decide +kernel
set_option maxRecDepth 100000 in
set_option maxHeartbeats 4000000 in
theorem zz_u0_38 : zz_okU 0 38 = true := by decide +kernel
set_option maxRecDepth 100000 in
set_option maxHeartbeats 4000000 in
theorem zz_u0_39 : zz_okU 0 39 = true := by decide +kernel
set_option maxRecDepth 100000 in
set_option maxHeartbeats 4000000 in
theorem zz_u0_40 : zz_okU 0 40 = true := by decide +kernel
set_option maxRecDepth 100000 in
set_option maxHeartbeats 4000000 in
theorem zz_u0_41 : zz_okU 0 41 = true := by decide +kernel
set_option maxRecDepth 100000 in
set_option maxHeartbeats 4000000 in
theorem zz_u0_42 : zz_okU 0 42 = true := by decide +kernel
set_option maxRecDepth 100000 in
set_option maxHeartbeats 4000000 in
theorem zz_u0_43 : zz_okU 0 43 = true := by decide +kernel
set_option maxRecDepth 100000 in
set_option maxHeartbeats 4000000 in
theorem zz_u0_44 : zz_okU 0 44 = true := by decide +kernel
set_option maxRecDepth 100000 in
set_option maxHeartbeats 4000000 in
theorem zz_u0_45 : zz_okU 0 45 = true := by decide +kernel
set_option maxRecDepth 100000 in
set_option maxHeartbeats 4000000 in
theorem zz_u0_46 : zz_okU 0 46 = true := by decide +kernel
set_option maxRecDepth 100000 in
set_option maxHeartbeats 4000000 in
theorem zz_u0_47 : zz_okU 0 47 = true := by decide +kernel
set_option maxRecDepth 100000 in
set_option maxHeartbeats 4000000 in
theorem zz_u0_48 : zz_okU 0 48 = true := by decide +kernel
set_option maxRecDepth 100000 in
set_option maxHeartbeats 4000000 in
theorem zz_u0_49 : zz_okU 0 49 = true := by decide +kernel
set_option maxRecDepth 100000 in
set_option maxHeartbeats 4000000 in
theorem zz_u0_50 : zz_okU 0 50 = true := by decide +kernel
set_option maxRecDepth 100000 in
set_option maxHeartbeats 4000000 in
theorem zz_u0_51 : zz_okU 0 51 = true := by decide +kernel
set_option maxRecDepth 100000 in
set_option maxHeartbeats 4000000 in
theorem zz_u0_52 : zz_okU 0 52 = true := by decide +kernel
set_option maxRecDepth 100000 in
set_option maxHeartbeats 4000000 in
theorem zz_u0_53 : zz_okU 0 53 = true := by decide +kernel
set_option maxRecDepth 100000 in
set_option maxHeartbeats 4000000 in
theorem zz_u0_54 : zz_okU 0 54 = true := by decide +kernel
set_option maxRecDepth 100000 in
set_option maxHeartbeats 4000000 in
theorem zz_u0_55 : zz_okU 0 55 = true := by decide +kernel
set_option maxRecDepth 100000 in
set_option maxHeartbeats 4000000 in
theorem zz_u0_56 : zz_okU 0 56 = true := by decide +kernel
set_option maxRecDepth 100000 in
set_option maxHeartbeats 4000000 in
theorem zz_u0_57 : zz_okU 0 57 = true := by decide +kernel
set_option maxRecDepth 100000 in
set_option maxHeartbeats 4000000 in
theorem zz_u0_58 : zz_okU 0 58 = true := by decide +kernel
theorem zz_v0 : zz_vv 0 := zz_okU_all (n := 59) (lt_s (lt_s (lt_s (lt_s (lt_s (lt_s (lt_s (lt_s (lt_s (lt_s (lt_s (lt_s (lt_s (lt_s (lt_s (lt_s (lt_s (lt_s (lt_s (lt_s (lt_s (lt_s (lt_s (lt_s (lt_s (lt_s (lt_s (lt_s (lt_s (lt_s (lt_s (lt_s (lt_s (lt_s (lt_s (lt_s (lt_s (lt_s (lt_s (lt_s (lt_s (lt_s (lt_s (lt_s (lt_s (lt_s (lt_s (lt_s (lt_s (lt_s (lt_s (lt_s (lt_s (lt_s (lt_s (lt_s (lt_s (lt_s (lt_s (lt_0) zz_u0_0) zz_u0_1) zz_u0_2) zz_u0_3) zz_u0_4) zz_u0_5) zz_u0_6) zz_u0_7) zz_u0_8) zz_u0_9) zz_u0_10) zz_u0_11) zz_u0_12) zz_u0_13) zz_u0_14) zz_u0_15) zz_u0_16) zz_u0_17) zz_u0_18) zz_u0_19) zz_u0_20) zz_u0_21) zz_u0_22) zz_u0_23) zz_u0_24) zz_u0_25) zz_u0_26) zz_u0_27) zz_u0_28) zz_u0_29) zz_u0_30) zz_u0_31) zz_u0_32) zz_u0_33) zz_u0_34) zz_u0_35) zz_u0_36) zz_u0_37) zz_u0_38) zz_u0_39) zz_u0_40) zz_u0_41) zz_u0_42) zz_u0_43) zz_u0_44) zz_u0_45) zz_u0_46) zz_u0_47) zz_u0_48) zz_u0_49) zz_u0_50) zz_u0_51) zz_u0_52) zz_u0_53) zz_u0_54) zz_u0_55) zz_u0_56) zz_u0_57) zz_u0_58) (Nat.le_of_ble_eq_true rfl)
set_option maxRecDepth 100000 in
set_option maxHeartbeats 4000000 in
theorem zz_u1_0 : zz_okU 1 0 = true := by decide +kernel
set_option maxRecDepth 100000 in
set_option maxHeartbeats 4000000 in
theorem zz_u1_1 : zz_okU 1 1 = true := by decide +kernel
set_option maxRecDepth 100000 in
set_option maxHeartbeats 4000000 in
theorem zz_u1_2 : zz_okU 1 2 = true := by decide +kernel
set_option maxRecDepth 100000 in
set_option maxHeartbeats 4000000 in
theorem zz_u1_3 : zz_okU 1 3 = true := by decide +kernel
set_option maxRecDepth 100000 in
set_option maxHeartbeats 4000000 in
theorem zz_u1_4 : zz_okU 1 4 = true := by decide +kernel
theorem zz_v1 : zz_vv 1 := zz_okU_all (n := 5) (lt_s (lt_s (lt_s (lt_s (lt_s (lt_0) zz_u1_0) zz_u1_1) zz_u1_2) zz_u1_3) zz_u1_4) (Nat.le_of_ble_eq_true rfl)
set_option maxRecDepth 100000 in
set_option maxHeartbeats 4000000 in
theorem zz_u2_0 : zz_okU 2 0 = true := by decide +kernel
set_option maxRecDepth 100000 in
set_option maxHeartbeats 4000000 in
theorem zz_u2_1 : zz_okU 2 1 = true := by decide +kernel
theorem zz_v2 : zz_vv 2 := zz_okU_all (n := 2) (lt_s (lt_s (lt_0) zz_u2_0) zz_u2_1) (Nat.le_of_ble_eq_true rfl)
set_option maxRecDepth 100000 in
set_option maxHeartbeats 4000000 in
theorem zz_u3_0 : zz_okU 3 0 = true := by decide +kernel
set_option maxRecDepth 100000 in
set_option maxHeartbeats 4000000 in
theorem zz_u3_1 : zz_okU 3 1 = true := by decide +kernel
theorem zz_v3 : zz_vv 3 := zz_okU_all (n := 2) (lt_s (lt_s (lt_0) zz_u3_0) zz_u3_1) (Nat.le_of_ble_eq_true rfl)
set_option maxRecDepth 100000 in
set_option maxHeartbeats 4000000 in
theorem zz_u4_0 : zz_okU 4 0 = true := by decide +kernel
theorem zz_v4 : zz_vv 4 := zz_okU_all (n := 1) (lt_s (lt_0) zz_u4_0) (Nat.le_of_ble_eq_true rfl)
set_option maxRecDepth 100000 in
set_option maxHeartbeats 4000000 in
theorem zz_u5_0 : zz_okU 5 0 = true := by decide +kernel
set_option maxRecDepth 100000 in
set_option maxHeartbeats 4000000 in
theorem zz_u5_1 : zz_okU 5 1 = true := by decide +kernel
theorem zz_v5 : zz_vv 5 := zz_okU_all (n := 2) (lt_s (lt_s (lt_0) zz_u5_0) zz_u5_1) (Nat.le_of_ble_eq_true rfl)
set_option maxRecDepth 100000 in
set_option maxHeartbeats 4000000 in
theorem zz_u6_0 : zz_okU 6 0 = true := by decide +kernel
theorem zz_v6 : zz_vv 6 := zz_okU_all (n := 1) (lt_s (lt_0) zz_u6_0) (Nat.le_of_ble_eq_true rfl)
set_option maxRecDepth 100000 in
set_option maxHeartbeats 4000000 in
theorem zz_u7_0 : zz_okU 7 0 = true := by decide +kernel
theorem zz_v7 : zz_vv 7 := zz_okU_all (n := 1) (lt_s (lt_0) zz_u7_0) (Nat.le_of_ble_eq_true rfl)
set_option maxRecDepth 100000 in
set_option maxHeartbeats 4000000 in
theorem zz_u8_0 : zz_okU 8 0 = true := by decide +kernel
theorem zz_v8 : zz_vv 8 := zz_okU_all (n := 1) (lt_s (lt_0) zz_u8_0) (Nat.le_of_ble_eq_true rfl)
set_option maxRecDepth 100000 in
set_option maxHeartbeats 4000000 in
theorem zz_u9_0 : zz_okU 9 0 = true := by decide +kernel
theorem zz_v9 : zz_vv 9 := zz_okU_all (n := 1) (lt_s (lt_0) zz_u9_0) (Nat.le_of_ble_eq_true rfl)
set_option maxRecDepth 100000 in
set_option maxHeartbeats 4000000 in
theorem zz_u10_0 : zz_okU 10 0 = true := by decide +kernel
set_option maxRecDepth 100000 in
set_option maxHeartbeats 4000000 in
theorem zz_u10_1 : zz_okU 10 1 = true := by decide +kernel
theorem zz_v10 : zz_vv 10 := zz_okU_all (n := 2) (lt_s (lt_s (lt_0) zz_u10_0) zz_u10_1) (Nat.le_of_ble_eq_true rfl)
set_option maxRecDepth 100000 in
set_option maxHeartbeats 4000000 in
theorem zz_u11_0 : zz_okU 11 0 = true := by decide +kernel
set_option maxRecDepth 100000 in
set_option maxHeartbeats 4000000 in
theorem zz_u11_1 : zz_okU 11 1 = true := by decide +kernel
theorem zz_v11 : zz_vv 11 := zz_okU_all (n := 2) (lt_s (lt_s (lt_0) zz_u11_0) zz_u11_1) (Nat.le_of_ble_eq_true rfl)
set_option maxRecDepth 100000 in
set_option maxHeartbeats 4000000 in
theorem zz_u12_0 : zz_okU 12 0 = true := by decide +kernel
set_option maxRecDepth 100000 in
set_option maxHeartbeats 4000000 in
theorem zz_u12_1 : zz_okU 12 1 = true := by decide +kernel
theorem zz_v12 : zz_vv 12 := zz_okU_all (n := 2) (lt_s (lt_s (lt_0) zz_u12_0) zz_u12_1) (Nat.le_of_ble_eq_true rfl)
set_option maxRecDepth 100000 in
set_option maxHeartbeats 4000000 in
theorem zz_u13_0 : zz_okU 13 0 = true := by decide +kernel
theorem zz_v13 : zz_vv 13 := zz_okU_all (n := 1) (lt_s (lt_0) zz_u13_0) (Nat.le_of_ble_eq_true rfl)
set_option maxRecDepth 100000 in
set_option maxHeartbeats 4000000 in
theorem zz_u14_0 : zz_okU 14 0 = true := by decide +kernel
theorem zz_v14 : zz_vv 14 := zz_okU_all (n := 1) (lt_s (lt_0) zz_u14_0) (Nat.le_of_ble_eq_true rfl)
set_option maxRecDepth 100000 in
set_option maxHeartbeats 4000000 in
theorem zz_u15_0 : zz_okU 15 0 = true := by decide +kernel
set_option maxRecDepth 100000 in
set_option maxHeartbeats 4000000 in
theorem zz_u15_1 : zz_okU 15 1 = true := by decide +kernel
theorem zz_v15 : zz_vv 15 := zz_okU_all (n := 2) (lt_s (lt_s (lt_0) zz_u15_0) zz_u15_1) (Nat.le_of_ble_eq_true rfl)
set_option maxRecDepth 100000 in
set_option maxHeartbeats 4000000 in
theorem zz_u16_0 : zz_okU 16 0 = true := by decide +kernel
set_option maxRecDepth 100000 in
set_option maxHeartbeats 4000000 in
theorem zz_u16_1 : zz_okU 16 1 = true := by decide +kernel
theorem zz_v16 : zz_vv 16 := zz_okU_all (n := 2) (lt_s (lt_s (lt_0) zz_u16_0) zz_u16_1) (Nat.le_of_ble_eq_true rfl)
set_option maxRecDepth 100000 in
set_option maxHeartbeats 4000000 in
theorem zz_u17_0 : zz_okU 17 0 = true := by decide +kernel
set_option maxRecDepth 100000 in
set_option maxHeartbeats 4000000 in
theorem zz_u17_1 : zz_okU 17 1 = true := by decide +kernel
theorem zz_v17 : zz_vv 17 := zz_okU_all (n := 2) (lt_s (lt_s (lt_0) zz_u17_0) zz_u17_1) (Nat.le_of_ble_eq_true rfl)
set_option maxRecDepth 100000 in
set_option maxHeartbeats 4000000 in
theorem zz_u18_0 : zz_okU 18 0 = true := by decide +kernel
set_option maxRecDepth 100000 in
set_option maxHeartbeats 4000000 in
theorem zz_u18_1 : zz_okU 18 1 = true := by decide +kernel
set_option maxRecDepth 100000 in
set_option maxHeartbeats 4000000 in
theorem zz_u18_2 : zz_okU 18 2 = true := by decide +kernel
set_option maxRecDepth 100000 in
set_option maxHeartbeats 4000000 in
theorem zz_u18_3 : zz_okU 18 3 = true := by decide +kernel
theorem zz_v18 : zz_vv 18 := zz_okU_all (n := 4) (lt_s (lt_s (lt_s (lt_s (lt_0) zz_u18_0) zz_u18_1) zz_u18_2) zz_u18_3) (Nat.le_of_ble_eq_true rfl)
set_option maxRecDepth 100000 in
set_option maxHeartbeats 4000000 in
theorem zz_u19_0 : zz_okU 19 0 = true := by decide +kernel
set_option maxRecDepth 100000 in
set_option maxHeartbeats 4000000 in
theorem zz_u19_1 : zz_okU 19 1 = true := by decide +kernel
theorem zz_v19 : zz_vv 19 := zz_okU_all (n := 2) (lt_s (lt_s (lt_0) zz_u19_0) zz_u19_1) (Nat.le_of_ble_eq_true rfl)
set_option maxRecDepth 100000 in
set_option maxHeartbeats 4000000 in
theorem zz_u20_0 : zz_okU 20 0 = true := by decide +kernel
theorem zz_v20 : zz_vv 20 := zz_okU_all (n := 1) (lt_s (lt_0) zz_u20_0) (Nat.le_of_ble_eq_true rfl)
set_option maxRecDepth 100000 in
set_option maxHeartbeats 4000000 in
theorem zz_u21_0 : zz_okU 21 0 = true := by decide +kernel
set_option maxRecDepth 100000 in
set_option maxHeartbeats 4000000 in
theorem zz_u21_1 : zz_okU 21 1 = true := by decide +kernel
theorem zz_v21 : zz_vv 21 := zz_okU_all (n := 2) (lt_s (lt_s (lt_0) zz_u21_0) zz_u21_1) (Nat.le_of_ble_eq_true rfl)
set_option maxRecDepth 100000 in
set_option maxHeartbeats 4000000 in
theorem zz_u22_0 : zz_okU 22 0 = true := by decide +kernel
theorem zz_v22 : zz_vv 22 := zz_okU_all (n := 1) (lt_s (lt_0) zz_u22_0) (Nat.le_of_ble_eq_true rfl)
set_option maxRecDepth 100000 in
set_option maxHeartbeats 4000000 in
theorem zz_u23_0 : zz_okU 23 0 = true := by decide +kernel
set_option maxRecDepth 100000 in
set_option maxHeartbeats 4000000 in
theorem zz_u23_1 : zz_okU 23 1 = true := by decide +kernel
set_option maxRecDepth 100000 in
set_option maxHeartbeats 4000000 in
theorem zz_u23_2 : zz_okU 23 2 = true := by decide +kernel
set_option maxRecDepth 100000 in
set_option maxHeartbeats 4000000 in
theorem zz_u23_3 : zz_okU 23 3 = true := by decide +kernel
theorem zz_v23 : zz_vv 23 := zz_okU_all (n := 4) (lt_s (lt_s (lt_s (lt_s (lt_0) zz_u23_0) zz_u23_1) zz_u23_2) zz_u23_3) (Nat.le_of_ble_eq_true rfl)
set_option maxRecDepth 100000 in
set_option maxHeartbeats 4000000 in
theorem zz_u24_0 : zz_okU 24 0 = true := by decide +kernel
set_option maxRecDepth 100000 in
set_option maxHeartbeats 4000000 in
theorem zz_u24_1 : zz_okU 24 1 = true := by decide +kernel
theorem zz_v24 : zz_vv 24 := zz_okU_all (n := 2) (lt_s (lt_s (lt_0) zz_u24_0) zz_u24_1) (Nat.le_of_ble_eq_true rfl)
set_option maxRecDepth 100000 in
set_option maxHeartbeats 4000000 in
theorem zz_u25_0 : zz_okU 25 0 = true := by decide +kernel
theorem zz_v25 : zz_vv 25 := zz_okU_all (n := 1) (lt_s (lt_0) zz_u25_0) (Nat.le_of_ble_eq_true rfl)
set_option maxRecDepth 100000 in
set_option maxHeartbeats 4000000 in
theorem zz_u26_0 : zz_okU 26 0 = true := by decide +kernel
set_option maxRecDepth 100000 in
set_option maxHeartbeats 4000000 in
theorem zz_u26_1 : zz_okU 26 1 = true := by decide +kernel
set_option maxRecDepth 100000 in
set_option maxHeartbeats 4000000 in
theorem zz_u26_2 : zz_okU 26 2 = true := by decide +kernel
set_option maxRecDepth 100000 in
set_option maxHeartbeats 4000000 in
theorem zz_u26_3 : zz_okU 26 3 = true := by decide +kernel
theorem zz_v26 : zz_vv 26 := zz_okU_all (n := 4) (lt_s (lt_s (lt_s (lt_s (lt_0) zz_u26_0) zz_u26_1) zz_u26_2) zz_u26_3) (Nat.le_of_ble_eq_true rfl)
set_option maxRecDepth 100000 in
set_option maxHeartbeats 4000000 in
theorem zz_u27_0 : zz_okU 27 0 = true := by decide +kernel
theorem zz_v27 : zz_vv 27 := zz_okU_all (n := 1) (lt_s (lt_0) zz_u27_0) (Nat.le_of_ble_eq_true rfl)
set_option maxRecDepth 100000 in
set_option maxHeartbeats 4000000 in
theorem zz_u28_0 : zz_okU 28 0 = true := by decide +kernel
theorem zz_v28 : zz_vv 28 := zz_okU_all (n := 1) (lt_s (lt_0) zz_u28_0) (Nat.le_of_ble_eq_true rfl)
set_option maxRecDepth 100000 in
set_option maxHeartbeats 4000000 in
theorem zz_u29_0 : zz_okU 29 0 = true := by decide +kernel
theorem zz_v29 : zz_vv 29 := zz_okU_all (n := 1) (lt_s (lt_0) zz_u29_0) (Nat.le_of_ble_eq_true rfl)
set_option maxRecDepth 100000 in
set_option maxHeartbeats 4000000 in
theorem zz_u30_0 : zz_okU 30 0 = true := by decide +kernel
theorem zz_v30 : zz_vv 30 := zz_okU_all (n := 1) (lt_s (lt_0) zz_u30_0) (Nat.le_of_ble_eq_true rfl)
set_option maxRecDepth 100000 in
set_option maxHeartbeats 4000000 in
theorem zz_u31_0 : zz_okU 31 0 = true := by decide +kernel
theorem zz_v31 : zz_vv 31 := zz_okU_all (n := 1) (lt_s (lt_0) zz_u31_0) (Nat.le_of_ble_eq_true rfl)
set_option maxRecDepth 100000 in
set_option maxHeartbeats 4000000 in
theorem zz_u32_0 : zz_okU 32 0 = true := by decide +kernel
theorem zz_v32 : zz_vv 32 := zz_okU_all (n := 1) (lt_s (lt_0) zz_u32_0) (Nat.le_of_ble_eq_true rfl)
set_option maxRecDepth 100000 in
set_option maxHeartbeats 4000000 in
theorem zz_u33_0 : zz_okU 33 0 = true := by decide +kernel
theorem zz_v33 : zz_vv 33 := zz_okU_all (n := 1) (lt_s (lt_0) zz_u33_0) (Nat.le_of_ble_eq_true rfl)
set_option maxRecDepth 100000 in
set_option maxHeartbeats 4000000 in
theorem zz_u34_0 : zz_okU 34 0 = true := by decide +kernel
set_option maxRecDepth 100000 in
set_option maxHeartbeats 4000000 in
theorem zz_u34_1 : zz_okU 34 1 = true := by decide +kernel
theorem zz_v34 : zz_vv 34 := zz_okU_all (n := 2) (lt_s (lt_s (lt_0) zz_u34_0) zz_u34_1) (Nat.le_of_ble_eq_true rfl)
set_option maxRecDepth 100000 in
set_option maxHeartbeats 4000000 in
theorem zz_u35_0 : zz_okU 35 0 = true := by decide +kernel
theorem zz_v35 : zz_vv 35 := zz_okU_all (n := 1) (lt_s (lt_0) zz_u35_0) (Nat.le_of_ble_eq_true rfl)
set_option maxRecDepth 100000 in
set_option maxHeartbeats 4000000 in
theorem zz_u36_0 : zz_okU 36 0 = true := by decide +kernel
set_option maxRecDepth 100000 in
set_option maxHeartbeats 4000000 in
theorem zz_u36_1 : zz_okU 36 1 = true := by decide +kernel
theorem zz_v36 : zz_vv 36 := zz_okU_all (n := 2) (lt_s (lt_s (lt_0) zz_u36_0) zz_u36_1) (Nat.le_of_ble_eq_true rfl)
set_option maxRecDepth 100000 in
set_option maxHeartbeats 4000000 in
theorem zz_u37_0 : zz_okU 37 0 = true := by decide +kernel
theorem zz_v37 : zz_vv 37 := zz_okU_all (n := 1) (lt_s (lt_0) zz_u37_0) (Nat.le_of_ble_eq_true rfl)
set_option maxRecDepth 100000 in
set_option maxHeartbeats 4000000 in
theorem zz_u38_0 : zz_okU 38 0 = true := by decide +kernel
theorem zz_v38 : zz_vv 38 := zz_okU_all (n := 1) (lt_s (lt_0) zz_u38_0) (Nat.le_of_ble_eq_true rfl)
set_option maxRecDepth 100000 in
set_option maxHeartbeats 4000000 in
theorem zz_u39_0 : zz_okU 39 0 = true := by decide +kernel
theorem zz_v39 : zz_vv 39 := zz_okU_all (n := 1) (lt_s (lt_0) zz_u39_0) (Nat.le_of_ble_eq_true rfl)
set_option maxRecDepth 100000 in
set_option maxHeartbeats 4000000 in
theorem zz_u40_0 : zz_okU 40 0 = true := by decide +kernel
set_option maxRecDepth 100000 in
set_option maxHeartbeats 4000000 in
theorem zz_u40_1 : zz_okU 40 1 = true := by decide +kernel
theorem zz_v40 : zz_vv 40 := zz_okU_all (n := 2) (lt_s (lt_s (lt_0) zz_u40_0) zz_u40_1) (Nat.le_of_ble_eq_true rfl)
set_option maxRecDepth 100000 in
set_option maxHeartbeats 4000000 in
theorem zz_u41_0 : zz_okU 41 0 = true := by decide +kernel
set_option maxRecDepth 100000 in
set_option maxHeartbeats 4000000 in
theorem zz_u41_1 : zz_okU 41 1 = true := by decide +kernel
theorem zz_v41 : zz_vv 41 := zz_okU_all (n := 2) (lt_s (lt_s (lt_0) zz_u41_0) zz_u41_1) (Nat.le_of_ble_eq_true rfl)
set_option maxRecDepth 100000 in
set_option maxHeartbeats 4000000 in
theorem zz_u42_0 : zz_okU 42 0 = true := by decide +kernel
set_option maxRecDepth 100000 in
set_option maxHeartbeats 4000000 in
theorem zz_u42_1 : zz_okU 42 1 = true := by decide +kernel
theorem zz_v42 : zz_vv 42 := zz_okU_all (n := 2) (lt_s (lt_s (lt_0) zz_u42_0) zz_u42_1) (Nat.le_of_ble_eq_true rfl)
set_option maxRecDepth 100000 in
set_option maxHeartbeats 4000000 in
theorem zz_u43_0 : zz_okU 43 0 = true := by decide +kernel
theorem zz_v43 : zz_vv 43 := zz_okU_all (n := 1) (lt_s (lt_0) zz_u43_0) (Nat.le_of_ble_eq_true rfl)
set_option maxRecDepth 100000 in
set_option maxHeartbeats 4000000 in
theorem zz_u44_0 : zz_okU 44 0 = true := by decide +kernel
set_option maxRecDepth 100000 in
set_option maxHeartbeats 4000000 in
theorem zz_u44_1 : zz_okU 44 1 = true := by decide +kernel
set_option maxRecDepth 100000 in
set_option maxHeartbeats 4000000 in
theorem zz_u44_2 : zz_okU 44 2 = true := by decide +kernel
set_option maxRecDepth 100000 in
set_option maxHeartbeats 4000000 in
theorem zz_u44_3 : zz_okU 44 3 = true := by decide +kernel
theorem zz_v44 : zz_vv 44 := zz_okU_all (n := 4) (lt_s (lt_s (lt_s (lt_s (lt_0) zz_u44_0) zz_u44_1) zz_u44_2) zz_u44_3) (Nat.le_of_ble_eq_true rfl)
set_option maxRecDepth 100000 in
set_option maxHeartbeats 4000000 in
theorem zz_u45_0 : zz_okU 45 0 = true := by decide +kernel
set_option maxRecDepth 100000 in
set_option maxHeartbeats 4000000 in
theorem zz_u45_1 : zz_okU 45 1 = true := by decide +kernel
set_option maxRecDepth 100000 in
set_option maxHeartbeats 4000000 in
theorem zz_u45_2 : zz_okU 45 2 = true := by decide +kernel
theorem zz_v45 : zz_vv 45 := zz_okU_all (n := 3) (lt_s (lt_s (lt_s (lt_0) zz_u45_0) zz_u45_1) zz_u45_2) (Nat.le_of_ble_eq_true rfl)
set_option maxRecDepth 100000 in
set_option maxHeartbeats 4000000 in
theorem zz_u46_0 : zz_okU 46 0 = true := by decide +kernel
set_option maxRecDepth 100000 in
set_option maxHeartbeats 4000000 in
theorem zz_u46_1 : zz_okU 46 1 = true := by decide +kernel
set_option maxRecDepth 100000 in
set_option maxHeartbeats 4000000 in
theorem zz_u46_2 : zz_okU 46 2 = true := by decide +kernel
set_option maxRecDepth 100000 in
set_option maxHeartbeats 4000000 in
theorem zz_u46_3 : zz_okU 46 3 = true := by decide +kernel
theorem zz_v46 : zz_vv 46 := zz_okU_all (n := 4) (lt_s (lt_s (lt_s (lt_s (lt_0) zz_u46_0) zz_u46_1) zz_u46_2) zz_u46_3) (Nat.le_of_ble_eq_true rfl)
set_option maxRecDepth 100000 in
set_option maxHeartbeats 4000000 in
theorem zz_u47_0 : zz_okU 47 0 = true := by decide +kernel
set_option maxRecDepth 100000 in
set_option maxHeartbeats 4000000 in
theorem zz_u47_1 : zz_okU 47 1 = true := by decide +kernel
set_option maxRecDepth 100000 in
set_option maxHeartbeats 4000000 in
theorem zz_u47_2 : zz_okU 47 2 = true := by decide +kernel
theorem zz_v47 : zz_vv 47 := zz_okU_all (n := 3) (lt_s (lt_s (lt_s (lt_0) zz_u47_0) zz_u47_1) zz_u47_2) (Nat.le_of_ble_eq_true rfl)
set_option maxRecDepth 100000 in
set_option maxHeartbeats 4000000 in
theorem zz_u48_0 : zz_okU 48 0 = true := by decide +kernel
set_option maxRecDepth 100000 in
set_option maxHeartbeats 4000000 in
theorem zz_u48_1 : zz_okU 48 1 = true := by decide +kernel
theorem zz_v48 : zz_vv 48 := zz_okU_all (n := 2) (lt_s (lt_s (lt_0) zz_u48_0) zz_u48_1) (Nat.le_of_ble_eq_true rfl)
set_option maxRecDepth 100000 in
set_option maxHeartbeats 4000000 in
theorem zz_u49_0 : zz_okU 49 0 = true := by decide +kernel
theorem zz_v49 : zz_vv 49 := zz_okU_all (n := 1) (lt_s (lt_0) zz_u49_0) (Nat.le_of_ble_eq_true rfl)
set_option maxRecDepth 100000 in
set_option maxHeartbeats 4000000 in
theorem zz_u50_0 : zz_okU 50 0 = true := by decide +kernel
theorem zz_v50 : zz_vv 50 := zz_okU_all (n := 1) (lt_s (lt_0) zz_u50_0) (Nat.le_of_ble_eq_true rfl)
set_option maxRecDepth 100000 in
set_option maxHeartbeats 4000000 in
theorem zz_u51_0 : zz_okU 51 0 = true := by decide +kernel
theorem zz_v51 : zz_vv 51 := zz_okU_all (n := 1) (lt_s (lt_0) zz_u51_0) (Nat.le_of_ble_eq_true rfl)
set_option maxRecDepth 100000 in
set_option maxHeartbeats 4000000 in
theorem zz_u52_0 : zz_okU 52 0 = true := by decide +kernel
theorem zz_v52 : zz_vv 52 := zz_okU_all (n := 1) (lt_s (lt_0) zz_u52_0) (Nat.le_of_ble_eq_true rfl)
set_option maxRecDepth 100000 in
set_option maxHeartbeats 4000000 in
theorem zz_u53_0 : zz_okU 53 0 = true := by decide +kernel
set_option maxRecDepth 100000 in
set_option maxHeartbeats 4000000 in
theorem zz_u53_1 : zz_okU 53 1 = true := by decide +kernel
theorem zz_v53 : zz_vv 53 := zz_okU_all (n := 2) (lt_s (lt_s (lt_0) zz_u53_0) zz_u53_1) (Nat.le_of_ble_eq_true rfl)
set_option maxRecDepth 100000 in
set_option maxHeartbeats 4000000 in
theorem zz_u54_0 : zz_okU 54 0 = true := by decide +kernel
set_option maxRecDepth 100000 in
set_option maxHeartbeats 4000000 in
theorem zz_u54_1 : zz_okU 54 1 = true := by decide +kernel
theorem zz_v54 : zz_vv 54 := zz_okU_all (n := 2) (lt_s (lt_s (lt_0) zz_u54_0) zz_u54_1) (Nat.le_of_ble_eq_true rfl)
set_option maxRecDepth 100000 in
set_option maxHeartbeats 4000000 in
theorem zz_u55_0 : zz_okU 55 0 = true := by decide +kernel
set_option maxRecDepth 100000 in
set_option maxHeartbeats 4000000 in
theorem zz_u55_1 : zz_okU 55 1 = true := by decide +kernel
set_option maxRecDepth 100000 in
set_option maxHeartbeats 4000000 in
theorem zz_u55_2 : zz_okU 55 2 = true := by decide +kernel
theorem zz_v55 : zz_vv 55 := zz_okU_all (n := 3) (lt_s (lt_s (lt_s (lt_0) zz_u55_0) zz_u55_1) zz_u55_2) (Nat.le_of_ble_eq_true rfl)
set_option maxRecDepth 100000 in
set_option maxHeartbeats 4000000 in
theorem zz_u56_0 : zz_okU 56 0 = true := by decide +kernel
set_option maxRecDepth 100000 in
set_option maxHeartbeats 4000000 in
theorem zz_u56_1 : zz_okU 56 1 = true := by decide +kernel
theorem zz_v56 : zz_vv 56 := zz_okU_all (n := 2) (lt_s (lt_s (lt_0) zz_u56_0) zz_u56_1) (Nat.le_of_ble_eq_true rfl)
set_option maxRecDepth 100000 in
set_option maxHeartbeats 4000000 in
theorem zz_u57_0 : zz_okU 57 0 = true := by decide +kernel
set_option maxRecDepth 100000 in
set_option maxHeartbeats 4000000 in
theorem zz_u57_1 : zz_okU 57 1 = true := by decide +kernel
set_option maxRecDepth 100000 in
set_option maxHeartbeats 4000000 in
theorem zz_u57_2 : zz_okU 57 2 = true := by decide +kernel
set_option maxRecDepth 100000 in
set_option maxHeartbeats 4000000 in
theorem zz_u57_3 : zz_okU 57 3 = true := by decide +kernel
theorem zz_v57 : zz_vv 57 := zz_okU_all (n := 4) (lt_s (lt_s (lt_s (lt_s (lt_0) zz_u57_0) zz_u57_1) zz_u57_2) zz_u57_3) (Nat.le_of_ble_eq_true rfl)
set_option maxRecDepth 100000 in
set_option maxHeartbeats 4000000 in
theorem zz_u58_0 : zz_okU 58 0 = true := by decide +kernel
theorem zz_v58 : zz_vv 58 := zz_okU_all (n := 1) (lt_s (lt_0) zz_u58_0) (Nat.le_of_ble_eq_true rfl)
set_option maxRecDepth 100000 in
set_option maxHeartbeats 4000000 in
theorem zz_u59_0 : zz_okU 59 0 = true := by decide +kernel
theorem zz_v59 : zz_vv 59 := zz_okU_all (n := 1) (lt_s (lt_0) zz_u59_0) (Nat.le_of_ble_eq_true rfl)
set_option maxRecDepth 100000 in
set_option maxHeartbeats 4000000 in
theorem zz_u60_0 : zz_okU 60 0 = true := by decide +kernel
set_option maxRecDepth 100000 in
set_option maxHeartbeats 4000000 in
theorem zz_u60_1 : zz_okU 60 1 = true := by decide +kernel
theorem zz_v60 : zz_vv 60 := zz_okU_all (n := 2) (lt_s (lt_s (lt_0) zz_u60_0) zz_u60_1) (Nat.le_of_ble_eq_true rfl)
set_option maxRecDepth 100000 in
set_option maxHeartbeats 4000000 in
theorem zz_u61_0 : zz_okU 61 0 = true := by decide +kernel
set_option maxRecDepth 100000 in
set_option maxHeartbeats 4000000 in
theorem zz_u61_1 : zz_okU 61 1 = true := by decide +kernel
theorem zz_v61 : zz_vv 61 := zz_okU_all (n := 2) (lt_s (lt_s (lt_0) zz_u61_0) zz_u61_1) (Nat.le_of_ble_eq_true rfl)
set_option maxRecDepth 100000 in
set_option maxHeartbeats 4000000 in
theorem zz_u62_0 : zz_okU 62 0 = true := by decide +kernel
set_option maxRecDepth 100000 in
set_option maxHeartbeats 4000000 in
theorem zz_u62_1 : zz_okU 62 1 = true := by decide +kernel
theorem zz_v62 : zz_vv 62 := zz_okU_all (n := 2) (lt_s (lt_s (lt_0) zz_u62_0) zz_u62_1) (Nat.le_of_ble_eq_true rfl)
set_option maxRecDepth 100000 in
set_option maxHeartbeats 4000000 in
theorem zz_u63_0 : zz_okU 63 0 = true := by decide +kernel
theorem zz_v63 : zz_vv 63 := zz_okU_all (n := 1) (lt_s (lt_0) zz_u63_0) (Nat.le_of_ble_eq_true rfl)
set_option maxRecDepth 100000 in
set_option maxHeartbeats 4000000 in
theorem zz_u64_0 : zz_okU 64 0 = true := by decide +kernel
set_option maxRecDepth 100000 in
set_option maxHeartbeats 4000000 in
theorem zz_u64_1 : zz_okU 64 1 = true := by decide +kernel
set_option maxRecDepth 100000 in
set_option maxHeartbeats 4000000 in
theorem zz_u64_2 : zz_okU 64 2 = true := by decide +kernel
theorem zz_v64 : zz_vv 64 := zz_okU_all (n := 3) (lt_s (lt_s (lt_s (lt_0) zz_u64_0) zz_u64_1) zz_u64_2) (Nat.le_of_ble_eq_true rfl)
set_option maxRecDepth 100000 in
set_option maxHeartbeats 4000000 in
theorem zz_u65_0 : zz_okU 65 0 = true := by decide +kernel
set_option maxRecDepth 100000 in
set_option maxHeartbeats 4000000 in
theorem zz_u65_1 : zz_okU 65 1 = true := by decide +kernel
set_option maxRecDepth 100000 in
set_option maxHeartbeats 4000000 in
theorem zz_u65_2 : zz_okU 65 2 = true := by decide +kernel
theorem zz_v65 : zz_vv 65 := zz_okU_all (n := 3) (lt_s (lt_s (lt_s (lt_0) zz_u65_0) zz_u65_1) zz_u65_2) (Nat.le_of_ble_eq_true rfl)
set_option maxRecDepth 100000 in
set_option maxHeartbeats 4000000 in
theorem zz_u66_0 : zz_okU 66 0 = true := by decide +kernel
theorem zz_v66 : zz_vv 66 := zz_okU_all (n := 1) (lt_s (lt_0) zz_u66_0) (Nat.le_of_ble_eq_true rfl)
set_option maxRecDepth 100000 in
set_option maxHeartbeats 4000000 in
theorem zz_u67_0 : zz_okU 67 0 = true := by decide +kernel
set_option maxRecDepth 100000 in
set_option maxHeartbeats 4000000 in
theorem zz_u67_1 : zz_okU 67 1 = true := by decide +kernel
theorem zz_v67 : zz_vv 67 := zz_okU_all (n := 2) (lt_s (lt_s (lt_0) zz_u67_0) zz_u67_1) (Nat.le_of_ble_eq_true rfl)
set_option maxRecDepth 100000 in
set_option maxHeartbeats 4000000 in
theorem zz_u68_0 : zz_okU 68 0 = true := by decide +kernel
set_option maxRecDepth 100000 in
set_option maxHeartbeats 4000000 in
theorem zz_u68_1 : zz_okU 68 1 = true := by decide +kernel
theorem zz_v68 : zz_vv 68 := zz_okU_all (n := 2) (lt_s (lt_s (lt_0) zz_u68_0) zz_u68_1) (Nat.le_of_ble_eq_true rfl)
set_option maxRecDepth 100000 in
set_option maxHeartbeats 4000000 in
theorem zz_u69_0 : zz_okU 69 0 = true := by decide +kernel
theorem zz_v69 : zz_vv 69 := zz_okU_all (n := 1) (lt_s (lt_0) zz_u69_0) (Nat.le_of_ble_eq_true rfl)
set_option maxRecDepth 100000 in
set_option maxHeartbeats 4000000 in
theorem zz_u70_0 : zz_okU 70 0 = true := by decide +kernel
theorem zz_v70 : zz_vv 70 := zz_okU_all (n := 1) (lt_s (lt_0) zz_u70_0) (Nat.le_of_ble_eq_true rfl)
set_option maxRecDepth 100000 in
set_option maxHeartbeats 4000000 in
theorem zz_u71_0 : zz_okU 71 0 = true := by decide +kernel
set_option maxRecDepth 100000 in
set_option maxHeartbeats 4000000 in
theorem zz_u71_1 : zz_okU 71 1 = true := by decide +kernel
set_option maxRecDepth 100000 in
set_option maxHeartbeats 4000000 in
theorem zz_u71_2 : zz_okU 71 2 = true := by decide +kernel
theorem zz_v71 : zz_vv 71 := zz_okU_all (n := 3) (lt_s (lt_s (lt_s (lt_0) zz_u71_0) zz_u71_1) zz_u71_2) (Nat.le_of_ble_eq_true rfl)
set_option maxRecDepth 100000 in
set_option maxHeartbeats 4000000 in
theorem zz_u72_0 : zz_okU 72 0 = true := by decide +kernel
set_option maxRecDepth 100000 in
set_option maxHeartbeats 4000000 in
theorem zz_u72_1 : zz_okU 72 1 = true := by decide +kernel
theorem zz_v72 : zz_vv 72 := zz_okU_all (n := 2) (lt_s (lt_s (lt_0) zz_u72_0) zz_u72_1) (Nat.le_of_ble_eq_true rfl)
set_option maxRecDepth 100000 in
set_option maxHeartbeats 4000000 in
theorem zz_u73_0 : zz_okU 73 0 = true := by decide +kernel
theorem zz_v73 : zz_vv 73 := zz_okU_all (n := 1) (lt_s (lt_0) zz_u73_0) (Nat.le_of_ble_eq_true rfl)
set_option maxRecDepth 100000 in
set_option maxHeartbeats 4000000 in
theorem zz_u74_0 : zz_okU 74 0 = true := by decide +kernel
set_option maxRecDepth 100000 in
set_option maxHeartbeats 4000000 in
theorem zz_u74_1 : zz_okU 74 1 = true := by decide +kernel
theorem zz_v74 : zz_vv 74 := zz_okU_all (n := 2) (lt_s (lt_s (lt_0) zz_u74_0) zz_u74_1) (Nat.le_of_ble_eq_true rfl)
set_option maxRecDepth 100000 in
set_option maxHeartbeats 4000000 in
theorem zz_u75_0 : zz_okU 75 0 = true := by decide +kernel
set_option maxRecDepth 100000 in
set_option maxHeartbeats 4000000 in
theorem zz_u75_1 : zz_okU 75 1 = true := by decide +kernel
theorem zz_v75 : zz_vv 75 := zz_okU_all (n := 2) (lt_s (lt_s (lt_0) zz_u75_0) zz_u75_1) (Nat.le_of_ble_eq_true rfl)
set_option maxRecDepth 100000 in
set_option maxHeartbeats 4000000 in
theorem zz_u76_0 : zz_okU 76 0 = true := by decide +kernel
set_option maxRecDepth 100000 in
set_option maxHeartbeats 4000000 in
theorem zz_u76_1 : zz_okU 76 1 = true := by decide +kernel
set_option maxRecDepth 100000 in
set_option maxHeartbeats 4000000 in
theorem zz_u76_2 : zz_okU 76 2 = true := by decide +kernel
set_option maxRecDepth 100000 in
set_option maxHeartbeats 4000000 in
theorem zz_u76_3 : zz_okU 76 3 = true := by decide +kernel
theorem zz_v76 : zz_vv 76 := zz_okU_all (n := 4) (lt_s (lt_s (lt_s (lt_s (lt_0) zz_u76_0) zz_u76_1) zz_u76_2) zz_u76_3) (Nat.le_of_ble_eq_true rfl)
set_option maxRecDepth 100000 in
set_option maxHeartbeats 4000000 in
theorem zz_u77_0 : zz_okU 77 0 = true := by decide +kernel
theorem zz_v77 : zz_vv 77 := zz_okU_all (n := 1) (lt_s (lt_0) zz_u77_0) (Nat.le_of_ble_eq_true rfl)
set_option maxRecDepth 100000 in
set_option maxHeartbeats 4000000 in
theorem zz_u78_0 : zz_okU 78 0 = true := by decide +kernel
set_option maxRecDepth 100000 in
set_option maxHeartbeats 4000000 in
theorem zz_u78_1 : zz_okU 78 1 = true := by decide +kernel
set_option maxRecDepth 100000 in
set_option maxHeartbeats 4000000 in
theorem zz_u78_2 : zz_okU 78 2 = true := by decide +kernel
set_option maxRecDepth 100000 in
set_option maxHeartbeats 4000000 in
theorem zz_u78_3 : zz_okU 78 3 = true := by decide +kernel
set_option maxRecDepth 100000 in
set_option maxHeartbeats 4000000 in
theorem zz_u78_4 : zz_okU 78 4 = true := by decide +kernel
theorem zz_v78 : zz_vv 78 := zz_okU_all (n := 5) (lt_s (lt_s (lt_s (lt_s (lt_s (lt_0) zz_u78_0) zz_u78_1) zz_u78_2) zz_u78_3) zz_u78_4) (Nat.le_of_ble_eq_true rfl)
set_option maxRecDepth 100000 in
set_option maxHeartbeats 4000000 in
theorem zz_u79_0 : zz_okU 79 0 = true := by decide +kernel
set_option maxRecDepth 100000 in
set_option maxHeartbeats 4000000 in
theorem zz_u79_1 : zz_okU 79 1 = true := by decide +kernel
set_option maxRecDepth 100000 in
set_option maxHeartbeats 4000000 in
theorem zz_u79_2 : zz_okU 79 2 = true := by decide +kernel
theorem zz_v79 : zz_vv 79 := zz_okU_all (n := 3) (lt_s (lt_s (lt_s (lt_0) zz_u79_0) zz_u79_1) zz_u79_2) (Nat.le_of_ble_eq_true rfl)
set_option maxRecDepth 100000 in
set_option maxHeartbeats 4000000 in
theorem zz_u80_0 : zz_okU 80 0 = true := by decide +kernel
set_option maxRecDepth 100000 in
set_option maxHeartbeats 4000000 in
theorem zz_u80_1 : zz_okU 80 1 = true := by decide +kernel
set_option maxRecDepth 100000 in
set_option maxHeartbeats 4000000 in
theorem zz_u80_2 : zz_okU 80 2 = true := by decide +kernel
set_option maxRecDepth 100000 in
set_option maxHeartbeats 4000000 in
theorem zz_u80_3 : zz_okU 80 3 = true := by decide +kernel
theorem zz_v80 : zz_vv 80 := zz_okU_all (n := 4) (lt_s (lt_s (lt_s (lt_s (lt_0) zz_u80_0) zz_u80_1) zz_u80_2) zz_u80_3) (Nat.le_of_ble_eq_true rfl)
set_option maxRecDepth 100000 in
set_option maxHeartbeats 4000000 in
theorem zz_u81_0 : zz_okU 81 0 = true := by decide +kernel
theorem zz_v81 : zz_vv 81 := zz_okU_all (n := 1) (lt_s (lt_0) zz_u81_0) (Nat.le_of_ble_eq_true rfl)
set_option maxRecDepth 100000 in
set_option maxHeartbeats 4000000 in
theorem zz_u82_0 : zz_okU 82 0 = true := by decide +kernel
theorem zz_v82 : zz_vv 82 := zz_okU_all (n := 1) (lt_s (lt_0) zz_u82_0) (Nat.le_of_ble_eq_true rfl)
set_option maxRecDepth 100000 in
set_option maxHeartbeats 4000000 in
theorem zz_u83_0 : zz_okU 83 0 = true := by decide +kernel
theorem zz_v83 : zz_vv 83 := zz_okU_all (n := 1) (lt_s (lt_0) zz_u83_0) (Nat.le_of_ble_eq_true rfl)
set_option maxRecDepth 100000 in
set_option maxHeartbeats 4000000 in
theorem zz_u84_0 : zz_okU 84 0 = true := by decide +kernel
set_option maxRecDepth 100000 in
set_option maxHeartbeats 4000000 in
theorem zz_u84_1 : zz_okU 84 1 = true := by decide +kernel
set_option maxRecDepth 100000 in
set_option maxHeartbeats 4000000 in
theorem zz_u84_2 : zz_okU 84 2 = true := by decide +kernel
theorem zz_v84 : zz_vv 84 := zz_okU_all (n := 3) (lt_s (lt_s (lt_s (lt_0) zz_u84_0) zz_u84_1) zz_u84_2) (Nat.le_of_ble_eq_true rfl)
set_option maxRecDepth 100000 in
set_option maxHeartbeats 4000000 in
theorem zz_u85_0 : zz_okU 85 0 = true := by decide +kernel
set_option maxRecDepth 100000 in
set_option maxHeartbeats 4000000 in
theorem zz_u85_1 : zz_okU 85 1 = true := by decide +kernel
set_option maxRecDepth 100000 in
set_option maxHeartbeats 4000000 in
theorem zz_u85_2 : zz_okU 85 2 = true := by decide +kernel
set_option maxRecDepth 100000 in
set_option maxHeartbeats 4000000 in
theorem zz_u85_3 : zz_okU 85 3 = true := by decide +kernel
set_option maxRecDepth 100000 in
set_option maxHeartbeats 4000000 in
theorem zz_u85_4 : zz_okU 85 4 = true := by decide +kernel
theorem zz_v85 : zz_vv 85 := zz_okU_all (n := 5) (lt_s (lt_s (lt_s (lt_s (lt_s (lt_0) zz_u85_0) zz_u85_1) zz_u85_2) zz_u85_3) zz_u85_4) (Nat.le_of_ble_eq_true rfl)
set_option maxRecDepth 100000 in
set_option maxHeartbeats 4000000 in
theorem zz_u86_0 : zz_okU 86 0 = true := by decide +kernel
set_option maxRecDepth 100000 in
set_option maxHeartbeats 4000000 in
theorem zz_u86_1 : zz_okU 86 1 = true := by decide +kernel
theorem zz_v86 : zz_vv 86 := zz_okU_all (n := 2) (lt_s (lt_s (lt_0) zz_u86_0) zz_u86_1) (Nat.le_of_ble_eq_true rfl)
set_option maxRecDepth 100000 in
set_option maxHeartbeats 4000000 in
theorem zz_u87_0 : zz_okU 87 0 = true := by decide +kernel
theorem zz_v87 : zz_vv 87 := zz_okU_all (n := 1) (lt_s (lt_0) zz_u87_0) (Nat.le_of_ble_eq_true rfl)
set_option maxRecDepth 100000 in
set_option maxHeartbeats 4000000 in
theorem zz_u88_0 : zz_okU 88 0 = true := by decide +kernel
theorem zz_v88 : zz_vv 88 := zz_okU_all (n := 1) (lt_s (lt_0) zz_u88_0) (Nat.le_of_ble_eq_true rfl)
set_option maxRecDepth 100000 in
set_option maxHeartbeats 4000000 in
theorem zz_u89_0 : zz_okU 89 0 = true := by decide +kernel
theorem zz_v89 : zz_vv 89 := zz_okU_all (n := 1) (lt_s (lt_0) zz_u89_0) (Nat.le_of_ble_eq_true rfl)
set_option maxRecDepth 100000 in
set_option maxHeartbeats 4000000 in
theorem zz_u90_0 : zz_okU 90 0 = true := by decide +kernel
set_option maxRecDepth 100000 in
set_option maxHeartbeats 4000000 in
theorem zz_u90_1 : zz_okU 90 1 = true := by decide +kernel
theorem zz_v90 : zz_vv 90 := zz_okU_all (n := 2) (lt_s (lt_s (lt_0) zz_u90_0) zz_u90_1) (Nat.le_of_ble_eq_true rfl)
set_option maxRecDepth 100000 in
set_option maxHeartbeats 4000000 in
theorem zz_u91_0 : zz_okU 91 0 = true := by decide +kernel
theorem zz_v91 : zz_vv 91 := zz_okU_all (n := 1) (lt_s (lt_0) zz_u91_0) (Nat.le_of_ble_eq_true rfl)
set_option maxRecDepth 100000 in
set_option maxHeartbeats 4000000 in
theorem zz_u92_0 : zz_okU 92 0 = true := by decide +kernel
set_option maxRecDepth 100000 in
set_option maxHeartbeats 4000000 in
theorem zz_u92_1 : zz_okU 92 1 = true := by decide +kernel
theorem zz_v92 : zz_vv 92 := zz_okU_all (n := 2) (lt_s (lt_s (lt_0) zz_u92_0) zz_u92_1) (Nat.le_of_ble_eq_true rfl)
set_option maxRecDepth 100000 in
set_option maxHeartbeats 4000000 in
theorem zz_u93_0 : zz_okU 93 0 = true := by decide +kernel
set_option maxRecDepth 100000 in
set_option maxHeartbeats 4000000 in
theorem zz_u93_1 : zz_okU 93 1 = true := by decide +kernel
set_option maxRecDepth 100000 in
set_option maxHeartbeats 4000000 in
theorem zz_u93_2 : zz_okU 93 2 = true := by decide +kernel
theorem zz_v93 : zz_vv 93 := zz_okU_all (n := 3) (lt_s (lt_s (lt_s (lt_0) zz_u93_0) zz_u93_1) zz_u93_2) (Nat.le_of_ble_eq_true rfl)
set_option maxRecDepth 100000 in
set_option maxHeartbeats 4000000 in
theorem zz_u94_0 : zz_okU 94 0 = true := by decide +kernel
theorem zz_v94 : zz_vv 94 := zz_okU_all (n := 1) (lt_s (lt_0) zz_u94_0) (Nat.le_of_ble_eq_true rfl)
set_option maxRecDepth 100000 in
set_option maxHeartbeats 4000000 in
theorem zz_u95_0 : zz_okU 95 0 = true := by decide +kernel
set_option maxRecDepth 100000 in
set_option maxHeartbeats 4000000 in
theorem zz_u95_1 : zz_okU 95 1 = true := by decide +kernel
set_option maxRecDepth 100000 in
set_option maxHeartbeats 4000000 in
theorem zz_u95_2 : zz_okU 95 2 = true := by decide +kernel
set_option maxRecDepth 100000 in
set_option maxHeartbeats 4000000 in
theorem zz_u95_3 : zz_okU 95 3 = true := by decide +kernel
theorem zz_v95 : zz_vv 95 := zz_okU_all (n := 4) (lt_s (lt_s (lt_s (lt_s (lt_0) zz_u95_0) zz_u95_1) zz_u95_2) zz_u95_3) (Nat.le_of_ble_eq_true rfl)
set_option maxRecDepth 100000 in
set_option maxHeartbeats 4000000 in
theorem zz_u96_0 : zz_okU 96 0 = true := by decide +kernel
set_option maxRecDepth 100000 in
set_option maxHeartbeats 4000000 in
theorem zz_u96_1 : zz_okU 96 1 = true := by decide +kernel
set_option maxRecDepth 100000 in
set_option maxHeartbeats 4000000 in
theorem zz_u96_2 : zz_okU 96 2 = true := by decide +kernel
theorem zz_v96 : zz_vv 96 := zz_okU_all (n := 3) (lt_s (lt_s (lt_s (lt_0) zz_u96_0) zz_u96_1) zz_u96_2) (Nat.le_of_ble_eq_true rfl)
set_option maxRecDepth 100000 in
set_option maxHeartbeats 4000000 in
theorem zz_u97_0 : zz_okU 97 0 = true := by decide +kernel
set_option maxRecDepth 100000 in
set_option maxHeartbeats 4000000 in
theorem zz_u97_1 : zz_okU 97 1 = true := by decide +kernel
theorem zz_v97 : zz_vv 97 := zz_okU_all (n := 2) (lt_s (lt_s (lt_0) zz_u97_0) zz_u97_1) (Nat.le_of_ble_eq_true rfl)
set_option maxRecDepth 100000 in
set_option maxHeartbeats 4000000 in
theorem zz_u98_0 : zz_okU 98 0 = true := by decide +kernel
set_option maxRecDepth 100000 in
set_option maxHeartbeats 4000000 in
theorem zz_u98_1 : zz_okU 98 1 = true := by decide +kernel
set_option maxRecDepth 100000 in
set_option maxHeartbeats 4000000 in
theorem zz_u98_2 : zz_okU 98 2 = true := by decide +kernel
set_option maxRecDepth 100000 in
set_option maxHeartbeats 4000000 in
theorem zz_u98_3 : zz_okU 98 3 = true := by decide +kernel
theorem zz_v98 : zz_vv 98 := zz_okU_all (n := 4) (lt_s (lt_s (lt_s (lt_s (lt_0) zz_u98_0) zz_u98_1) zz_u98_2) zz_u98_3) (Nat.le_of_ble_eq_true rfl)
set_option maxRecDepth 100000 in
set_option maxHeartbeats 4000000 in
theorem zz_u99_0 : zz_okU 99 0 = true := by decide +kernel
set_option maxRecDepth 100000 in
set_option maxHeartbeats 4000000 in
theorem zz_u99_1 : zz_okU 99 1 = true := by decide +kernel
set_option maxRecDepth 100000 in
set_option maxHeartbeats 4000000 in
theorem zz_u99_2 : zz_okU 99 2 = true := by decide +kernel
theorem zz_v99 : zz_vv 99 := zz_okU_all (n := 3) (lt_s (lt_s (lt_s (lt_0) zz_u99_0) zz_u99_1) zz_u99_2) (Nat.le_of_ble_eq_true rfl)
set_option maxRecDepth 100000 in
set_option maxHeartbeats 4000000 in
theorem zz_u100_0 : zz_okU 100 0 = true := by decide +kernel
theorem zz_v100 : zz_vv 100 := zz_okU_all (n := 1) (lt_s (lt_0) zz_u100_0) (Nat.le_of_ble_eq_true rfl)
set_option maxRecDepth 100000 in
set_option maxHeartbeats 4000000 in
theorem zz_u101_0 : zz_okU 101 0 = true := by decide +kernel
set_option maxRecDepth 100000 in
set_option maxHeartbeats 4000000 in
theorem zz_u101_1 : zz_okU 101 1 = true := by decide +kernel
set_option maxRecDepth 100000 in
set_option maxHeartbeats 4000000 in
theorem zz_u101_2 : zz_okU 101 2 = true := by decide +kernel
set_option maxRecDepth 100000 in
set_option maxHeartbeats 4000000 in
theorem zz_u101_3 : zz_okU 101 3 = true := by decide +kernel
theorem zz_v101 : zz_vv 101 := zz_okU_all (n := 4) (lt_s (lt_s (lt_s (lt_s (lt_0) zz_u101_0) zz_u101_1) zz_u101_2) zz_u101_3) (Nat.le_of_ble_eq_true rfl)
set_option maxRecDepth 100000 in
set_option maxHeartbeats 4000000 in
theorem zz_u102_0 : zz_okU 102 0 = true := by decide +kernel
set_option maxRecDepth 100000 in
set_option maxHeartbeats 4000000 in
theorem zz_u102_1 : zz_okU 102 1 = true := by decide +kernel
set_option maxRecDepth 100000 in
set_option maxHeartbeats 4000000 in
theorem zz_u102_2 : zz_okU 102 2 = true := by decide +kernel
set_option maxRecDepth 100000 in
set_option maxHeartbeats 4000000 in
theorem zz_u102_3 : zz_okU 102 3 = true := by decide +kernel
theorem zz_v102 : zz_vv 102 := zz_okU_all (n := 4) (lt_s (lt_s (lt_s (lt_s (lt_0) zz_u102_0) zz_u102_1) zz_u102_2) zz_u102_3) (Nat.le_of_ble_eq_true rfl)
set_option maxRecDepth 100000 in
set_option maxHeartbeats 4000000 in
theorem zz_u103_0 : zz_okU 103 0 = true := by decide +kernel
set_option maxRecDepth 100000 in
set_option maxHeartbeats 4000000 in
theorem zz_u103_1 : zz_okU 103 1 = true := by decide +kernel
set_option maxRecDepth 100000 in
set_option maxHeartbeats 4000000 in
theorem zz_u103_2 : zz_okU 103 2 = true := by decide +kernel
set_option maxRecDepth 100000 in
set_option maxHeartbeats 4000000 in
theorem zz_u103_3 : zz_okU 103 3 = true := by decide +kernel
theorem zz_v103 : zz_vv 103 := zz_okU_all (n := 4) (lt_s (lt_s (lt_s (lt_s (lt_0) zz_u103_0) zz_u103_1) zz_u103_2) zz_u103_3) (Nat.le_of_ble_eq_true rfl)
set_option maxRecDepth 100000 in
set_option maxHeartbeats 4000000 in
theorem zz_u104_0 : zz_okU 104 0 = true := by decide +kernel
set_option maxRecDepth 100000 in
set_option maxHeartbeats 4000000 in
theorem zz_u104_1 : zz_okU 104 1 = true := by decide +kernel
set_option maxRecDepth 100000 in
set_option maxHeartbeats 4000000 in
theorem zz_u104_2 : zz_okU 104 2 = true := by decide +kernel
theorem zz_v104 : zz_vv 104 := zz_okU_all (n := 3) (lt_s (lt_s (lt_s (lt_0) zz_u104_0) zz_u104_1) zz_u104_2) (Nat.le_of_ble_eq_true rfl)
set_option maxRecDepth 100000 in
set_option maxHeartbeats 4000000 in
theorem zz_u105_0 : zz_okU 105 0 = true := by decide +kernel
set_option maxRecDepth 100000 in
set_option maxHeartbeats 4000000 in
theorem zz_u105_1 : zz_okU 105 1 = true := by decide +kernel
set_option maxRecDepth 100000 in
set_option maxHeartbeats 4000000 in
theorem zz_u105_2 : zz_okU 105 2 = true := by decide +kernel
set_option maxRecDepth 100000 in
set_option maxHeartbeats 4000000 in
theorem zz_u105_3 : zz_okU 105 3 = true := by decide +kernel
theorem zz_v105 : zz_vv 105 := zz_okU_all (n := 4) (lt_s (lt_s (lt_s (lt_s (lt_0) zz_u105_0) zz_u105_1) zz_u105_2) zz_u105_3) (Nat.le_of_ble_eq_true rfl)
set_option maxRecDepth 100000 in
set_option maxHeartbeats 4000000 in
theorem zz_u106_0 : zz_okU 106 0 = true := by decide +kernel
set_option maxRecDepth 100000 in
set_option maxHeartbeats 4000000 in
theorem zz_u106_1 : zz_okU 106 1 = true := by decide +kernel
set_option maxRecDepth 100000 in
set_option maxHeartbeats 4000000 in
theorem zz_u106_2 : zz_okU 106 2 = true := by decide +kernel
theorem zz_v106 : zz_vv 106 := zz_okU_all (n := 3) (lt_s (lt_s (lt_s (lt_0) zz_u106_0) zz_u106_1) zz_u106_2) (Nat.le_of_ble_eq_true rfl)
set_option maxRecDepth 100000 in
set_option maxHeartbeats 4000000 in
theorem zz_u107_0 : zz_okU 107 0 = true := by decide +kernel
set_option maxRecDepth 100000 in
set_option maxHeartbeats 4000000 in
theorem zz_u107_1 : zz_okU 107 1 = true := by decide +kernel
set_option maxRecDepth 100000 in
set_option maxHeartbeats 4000000 in
theorem zz_u107_2 : zz_okU 107 2 = true := by decide +kernel
theorem zz_v107 : zz_vv 107 := zz_okU_all (n := 3) (lt_s (lt_s (lt_s (lt_0) zz_u107_0) zz_u107_1) zz_u107_2) (Nat.le_of_ble_eq_true rfl)
set_option maxRecDepth 100000 in
set_option maxHeartbeats 4000000 in
theorem zz_u108_0 : zz_okU 108 0 = true := by decide +kernel
set_option maxRecDepth 100000 in
set_option maxHeartbeats 4000000 in
theorem zz_u108_1 : zz_okU 108 1 = true := by decide +kernel
set_option maxRecDepth 100000 in
set_option maxHeartbeats 4000000 in
theorem zz_u108_2 : zz_okU 108 2 = true := by decide +kernel
theorem zz_v108 : zz_vv 108 := zz_okU_all (n := 3) (lt_s (lt_s (lt_s (lt_0) zz_u108_0) zz_u108_1) zz_u108_2) (Nat.le_of_ble_eq_true rfl)
set_option maxRecDepth 100000 in
set_option maxHeartbeats 4000000 in
theorem zz_u109_0 : zz_okU 109 0 = true := by decide +kernel
set_option maxRecDepth 100000 in
set_option maxHeartbeats 4000000 in
theorem zz_u109_1 : zz_okU 109 1 = true := by decide +kernel
theorem zz_v109 : zz_vv 109 := zz_okU_all (n := 2) (lt_s (lt_s (lt_0) zz_u109_0) zz_u109_1) (Nat.le_of_ble_eq_true rfl)
set_option maxRecDepth 100000 in
set_option maxHeartbeats 4000000 in
theorem zz_u110_0 : zz_okU 110 0 = true := by decide +kernel
set_option maxRecDepth 100000 in
set_option maxHeartbeats 4000000 in
theorem zz_u110_1 : zz_okU 110 1 = true := by decide +kernel
set_option maxRecDepth 100000 in
set_option maxHeartbeats 4000000 in
theorem zz_u110_2 : zz_okU 110 2 = true := by decide +kernel
theorem zz_v110 : zz_vv 110 := zz_okU_all (n := 3) (lt_s (lt_s (lt_s (lt_0) zz_u110_0) zz_u110_1) zz_u110_2) (Nat.le_of_ble_eq_true rfl)
set_option maxRecDepth 100000 in
set_option maxHeartbeats 4000000 in
theorem zz_u111_0 : zz_okU 111 0 = true := by decide +kernel
theorem zz_v111 : zz_vv 111 := zz_okU_all (n := 1) (lt_s (lt_0) zz_u111_0) (Nat.le_of_ble_eq_true rfl)
set_option maxRecDepth 100000 in
set_option maxHeartbeats 4000000 in
theorem zz_u112_0 : zz_okU 112 0 = true := by decide +kernel
set_option maxRecDepth 100000 in
set_option maxHeartbeats 4000000 in
theorem zz_u112_1 : zz_okU 112 1 = true := by decide +kernel
theorem zz_v112 : zz_vv 112 := zz_okU_all (n := 2) (lt_s (lt_s (lt_0) zz_u112_0) zz_u112_1) (Nat.le_of_ble_eq_true rfl)
set_option maxRecDepth 100000 in
set_option maxHeartbeats 4000000 in
theorem zz_u113_0 : zz_okU 113 0 = true := by decide +kernel
theorem zz_v113 : zz_vv 113 := zz_okU_all (n := 1) (lt_s (lt_0) zz_u113_0) (Nat.le_of_ble_eq_true rfl)
set_option maxRecDepth 100000 in
set_option maxHeartbeats 4000000 in
theorem zz_u114_0 : zz_okU 114 0 = true := by decide +kernel
set_option maxRecDepth 100000 in
set_option maxHeartbeats 4000000 in
theorem zz_u114_1 : zz_okU 114 1 = true := by decide +kernel
set_option maxRecDepth 100000 in
set_option maxHeartbeats 4000000 in
theorem zz_u114_2 : zz_okU 114 2 = true := by decide +kernel
theorem zz_v114 : zz_vv 114 := zz_okU_all (n := 3) (lt_s (lt_s (lt_s (lt_0) zz_u114_0) zz_u114_1) zz_u114_2) (Nat.le_of_ble_eq_true rfl)
set_option maxRecDepth 100000 in
set_option maxHeartbeats 4000000 in
theorem zz_u115_0 : zz_okU 115 0 = true := by decide +kernel
set_option maxRecDepth 100000 in
set_option maxHeartbeats 4000000 in
theorem zz_u115_1 : zz_okU 115 1 = true := by decide +kernel
set_option maxRecDepth 100000 in
set_option maxHeartbeats 4000000 in
theorem zz_u115_2 : zz_okU 115 2 = true := by decide +kernel
set_option maxRecDepth 100000 in
set_option maxHeartbeats 4000000 in
theorem zz_u115_3 : zz_okU 115 3 = true := by decide +kernel
theorem zz_v115 : zz_vv 115 := zz_okU_all (n := 4) (lt_s (lt_s (lt_s (lt_s (lt_0) zz_u115_0) zz_u115_1) zz_u115_2) zz_u115_3) (Nat.le_of_ble_eq_true rfl)
set_option maxRecDepth 100000 in
set_option maxHeartbeats 4000000 in
theorem zz_u116_0 : zz_okU 116 0 = true := by decide +kernel
set_option maxRecDepth 100000 in
set_option maxHeartbeats 4000000 in
theorem zz_u116_1 : zz_okU 116 1 = true := by decide +kernel
set_option maxRecDepth 100000 in
set_option maxHeartbeats 4000000 in
theorem zz_u116_2 : zz_okU 116 2 = true := by decide +kernel
theorem zz_v116 : zz_vv 116 := zz_okU_all (n := 3) (lt_s (lt_s (lt_s (lt_0) zz_u116_0) zz_u116_1) zz_u116_2) (Nat.le_of_ble_eq_true rfl)
set_option maxRecDepth 100000 in
set_option maxHeartbeats 4000000 in
theorem zz_u117_0 : zz_okU 117 0 = true := by decide +kernel
set_option maxRecDepth 100000 in
set_option maxHeartbeats 4000000 in
theorem zz_u117_1 : zz_okU 117 1 = true := by decide +kernel
set_option maxRecDepth 100000 in
set_option maxHeartbeats 4000000 in
theorem zz_u117_2 : zz_okU 117 2 = true := by decide +kernel
set_option maxRecDepth 100000 in
set_option maxHeartbeats 4000000 in
theorem zz_u117_3 : zz_okU 117 3 = true := by decide +kernel
set_option maxRecDepth 100000 in
set_option maxHeartbeats 4000000 in
theorem zz_u117_4 : zz_okU 117 4 = true := by decide +kernel
theorem zz_v117 : zz_vv 117 := zz_okU_all (n := 5) (lt_s (lt_s (lt_s (lt_s (lt_s (lt_0) zz_u117_0) zz_u117_1) zz_u117_2) zz_u117_3) zz_u117_4) (Nat.le_of_ble_eq_true rfl)
set_option maxRecDepth 100000 in
set_option maxHeartbeats 4000000 in
theorem zz_u118_0 : zz_okU 118 0 = true := by decide +kernel
set_option maxRecDepth 100000 in
set_option maxHeartbeats 4000000 in
theorem zz_u118_1 : zz_okU 118 1 = true := by decide +kernel
theorem zz_v118 : zz_vv 118 := zz_okU_all (n := 2) (lt_s (lt_s (lt_0) zz_u118_0) zz_u118_1) (Nat.le_of_ble_eq_true rfl)
set_option maxRecDepth 100000 in
set_option maxHeartbeats 4000000 in
theorem zz_u119_0 : zz_okU 119 0 = true := by decide +kernel
set_option maxRecDepth 100000 in
set_option maxHeartbeats 4000000 in
theorem zz_u119_1 : zz_okU 119 1 = true := by decide +kernel
set_option maxRecDepth 100000 in
set_option maxHeartbeats 4000000 in
theorem zz_u119_2 : zz_okU 119 2 = true := by decide +kernel
set_option maxRecDepth 100000 in
set_option maxHeartbeats 4000000 in
theorem zz_u119_3 : zz_okU 119 3 = true := by decide +kernel
theorem zz_v119 : zz_vv 119 := zz_okU_all (n := 4) (lt_s (lt_s (lt_s (lt_s (lt_0) zz_u119_0) zz_u119_1) zz_u119_2) zz_u119_3) (Nat.le_of_ble_eq_true rfl)
set_option maxRecDepth 100000 in
set_option maxHeartbeats 4000000 in
theorem zz_u120_0 : zz_okU 120 0 = true := by decide +kernel
set_option maxRecDepth 100000 in
set_option maxHeartbeats 4000000 in
theorem zz_u120_1 : zz_okU 120 1 = true := by decide +kernel
set_option maxRecDepth 100000 in
set_option maxHeartbeats 4000000 in
theorem zz_u120_2 : zz_okU 120 2 = true := by decide +kernel
set_option maxRecDepth 100000 in
set_option maxHeartbeats 4000000 in
theorem zz_u120_3 : zz_okU 120 3 = true := by decide +kernel
set_option maxRecDepth 100000 in
set_option maxHeartbeats 4000000 in
theorem zz_u120_4 : zz_okU 120 4 = true := by decide +kernel
theorem zz_v120 : zz_vv 120 := zz_okU_all (n := 5) (lt_s (lt_s (lt_s (lt_s (lt_s (lt_0) zz_u120_0) zz_u120_1) zz_u120_2) zz_u120_3) zz_u120_4) (Nat.le_of_ble_eq_true rfl)
set_option maxRecDepth 100000 in
set_option maxHeartbeats 4000000 in
theorem zz_u121_0 : zz_okU 121 0 = true := by decide +kernel
set_option maxRecDepth 100000 in
set_option maxHeartbeats 4000000 in
theorem zz_u121_1 : zz_okU 121 1 = true := by decide +kernel
set_option maxRecDepth 100000 in
set_option maxHeartbeats 4000000 in
theorem zz_u121_2 : zz_okU 121 2 = true := by decide +kernel
set_option maxRecDepth 100000 in
set_option maxHeartbeats 4000000 in
theorem zz_u121_3 : zz_okU 121 3 = true := by decide +kernel
theorem zz_v121 : zz_vv 121 := zz_okU_all (n := 4) (lt_s (lt_s (lt_s (lt_s (lt_0) zz_u121_0) zz_u121_1) zz_u121_2) zz_u121_3) (Nat.le_of_ble_eq_true rfl)
set_option maxRecDepth 100000 in
set_option maxHeartbeats 4000000 in
theorem zz_u122_0 : zz_okU 122 0 = true := by decide +kernel
set_option maxRecDepth 100000 in
set_option maxHeartbeats 4000000 in
theorem zz_u122_1 : zz_okU 122 1 = true := by decide +kernel
set_option maxRecDepth 100000 in
set_option maxHeartbeats 4000000 in
theorem zz_u122_2 : zz_okU 122 2 = true := by decide +kernel
set_option maxRecDepth 100000 in
set_option maxHeartbeats 4000000 in
theorem zz_u122_3 : zz_okU 122 3 = true := by decide +kernel
theorem zz_v122 : zz_vv 122 := zz_okU_all (n := 4) (lt_s (lt_s (lt_s (lt_s (lt_0) zz_u122_0) zz_u122_1) zz_u122_2) zz_u122_3) (Nat.le_of_ble_eq_true rfl)
set_option maxRecDepth 100000 in
set_option maxHeartbeats 4000000 in
theorem zz_u123_0 : zz_okU 123 0 = true := by decide +kernel
theorem zz_v123 : zz_vv 123 := zz_okU_all (n := 1) (lt_s (lt_0) zz_u123_0) (Nat.le_of_ble_eq_true rfl)
set_option maxRecDepth 100000 in
set_option maxHeartbeats 4000000 in
theorem zz_u124_0 : zz_okU 124 0 = true := by decide +kernel
set_option maxRecDepth 100000 in
set_option maxHeartbeats 4000000 in
theorem zz_u124_1 : zz_okU 124 1 = true := by decide +kernel
set_option maxRecDepth 100000 in
set_option maxHeartbeats 4000000 in
theorem zz_u124_2 : zz_okU 124 2 = true := by decide +kernel
set_option maxRecDepth 100000 in
set_option maxHeartbeats 4000000 in
theorem zz_u124_3 : zz_okU 124 3 = true := by decide +kernel
set_option maxRecDepth 100000 in
set_option maxHeartbeats 4000000 in
theorem zz_u124_4 : zz_okU 124 4 = true := by decide +kernel
theorem zz_v124 : zz_vv 124 := zz_okU_all (n := 5) (lt_s (lt_s (lt_s (lt_s (lt_s (lt_0) zz_u124_0) zz_u124_1) zz_u124_2) zz_u124_3) zz_u124_4) (Nat.le_of_ble_eq_true rfl)
set_option maxRecDepth 100000 in
set_option maxHeartbeats 4000000 in
theorem zz_u125_0 : zz_okU 125 0 = true := by decide +kernel
theorem zz_v125 : zz_vv 125 := zz_okU_all (n := 1) (lt_s (lt_0) zz_u125_0) (Nat.le_of_ble_eq_true rfl)
set_option maxRecDepth 100000 in
set_option maxHeartbeats 4000000 in
theorem zz_u126_0 : zz_okU 126 0 = true := by decide +kernel
set_option maxRecDepth 100000 in
set_option maxHeartbeats 4000000 in
theorem zz_u126_1 : zz_okU 126 1 = true := by decide +kernel
set_option maxRecDepth 100000 in
set_option maxHeartbeats 4000000 in
theorem zz_u126_2 : zz_okU 126 2 = true := by decide +kernel
set_option maxRecDepth 100000 in
set_option maxHeartbeats 4000000 in
theorem zz_u126_3 : zz_okU 126 3 = true := by decide +kernel
theorem zz_v126 : zz_vv 126 := zz_okU_all (n := 4) (lt_s (lt_s (lt_s (lt_s (lt_0) zz_u126_0) zz_u126_1) zz_u126_2) zz_u126_3) (Nat.le_of_ble_eq_true rfl)
set_option maxRecDepth 100000 in
set_option maxHeartbeats 4000000 in
theorem zz_u127_0 : zz_okU 127 0 = true := by decide +kernel
set_option maxRecDepth 100000 in
set_option maxHeartbeats 4000000 in
theorem zz_u127_1 : zz_okU 127 1 = true := by decide +kernel
set_option maxRecDepth 100000 in
set_option maxHeartbeats 4000000 in
theorem zz_u127_2 : zz_okU 127 2 = true := by decide +kernel
set_option maxRecDepth 100000 in
set_option maxHeartbeats 4000000 in
theorem zz_u127_3 : zz_okU 127 3 = true := by decide +kernel
theorem zz_v127 : zz_vv 127 := zz_okU_all (n := 4) (lt_s (lt_s (lt_s (lt_s (lt_0) zz_u127_0) zz_u127_1) zz_u127_2) zz_u127_3) (Nat.le_of_ble_eq_true rfl)
set_option maxRecDepth 100000 in
set_option maxHeartbeats 4000000 in
theorem zz_u128_0 : zz_okU 128 0 = true := by decide +kernel
set_option maxRecDepth 100000 in
set_option maxHeartbeats 4000000 in
theorem zz_u128_1 : zz_okU 128 1 = true := by decide +kernel
set_option maxRecDepth 100000 in
set_option maxHeartbeats 4000000 in
theorem zz_u128_2 : zz_okU 128 2 = true := by decide +kernel
set_option maxRecDepth 100000 in
set_option maxHeartbeats 4000000 in
theorem zz_u128_3 : zz_okU 128 3 = true := by decide +kernel
set_option maxRecDepth 100000 in
set_option maxHeartbeats 4000000 in
theorem zz_u128_4 : zz_okU 128 4 = true := by decide +kernel
theorem zz_v128 : zz_vv 128 := zz_okU_all (n := 5) (lt_s (lt_s (lt_s (lt_s (lt_s (lt_0) zz_u128_0) zz_u128_1) zz_u128_2) zz_u128_3) zz_u128_4) (Nat.le_of_ble_eq_true rfl)
set_option maxRecDepth 100000 in
set_option maxHeartbeats 4000000 in
theorem zz_u129_0 : zz_okU 129 0 = true := by decide +kernel
set_option maxRecDepth 100000 in
set_option maxHeartbeats 4000000 in
theorem zz_u129_1 : zz_okU 129 1 = true := by decide +kernel
theorem zz_v129 : zz_vv 129 := zz_okU_all (n := 2) (lt_s (lt_s (lt_0) zz_u129_0) zz_u129_1) (Nat.le_of_ble_eq_true rfl)
set_option maxRecDepth 100000 in
set_option maxHeartbeats 4000000 in
theorem zz_u130_0 : zz_okU 130 0 = true := by decide +kernel
set_option maxRecDepth 100000 in
set_option maxHeartbeats 4000000 in
theorem zz_u130_1 : zz_okU 130 1 = true := by decide +kernel
set_option maxRecDepth 100000 in
set_option maxHeartbeats 4000000 in
theorem zz_u130_2 : zz_okU 130 2 = true := by decide +kernel
set_option maxRecDepth 100000 in
set_option maxHeartbeats 4000000 in
theorem zz_u130_3 : zz_okU 130 3 = true := by decide +kernel
theorem zz_v130 : zz_vv 130 := zz_okU_all (n := 4) (lt_s (lt_s (lt_s (lt_s (lt_0) zz_u130_0) zz_u130_1) zz_u130_2) zz_u130_3) (Nat.le_of_ble_eq_true rfl)
set_option maxRecDepth 100000 in
set_option maxHeartbeats 4000000 in
theorem zz_u131_0 : zz_okU 131 0 = true := by decide +kernel
set_option maxRecDepth 100000 in
set_option maxHeartbeats 4000000 in
theorem zz_u131_1 : zz_okU 131 1 = true := by decide +kernel
set_option maxRecDepth 100000 in
set_option maxHeartbeats 4000000 in
theorem zz_u131_2 : zz_okU 131 2 = true := by decide +kernel
set_option maxRecDepth 100000 in
set_option maxHeartbeats 4000000 in
theorem zz_u131_3 : zz_okU 131 3 = true := by decide +kernel
set_option maxRecDepth 100000 in
set_option maxHeartbeats 4000000 in
theorem zz_u131_4 : zz_okU 131 4 = true := by decide +kernel
theorem zz_v131 : zz_vv 131 := zz_okU_all (n := 5) (lt_s (lt_s (lt_s (lt_s (lt_s (lt_0) zz_u131_0) zz_u131_1) zz_u131_2) zz_u131_3) zz_u131_4) (Nat.le_of_ble_eq_true rfl)
set_option maxRecDepth 100000 in
set_option maxHeartbeats 4000000 in
theorem zz_u132_0 : zz_okU 132 0 = true := by decide +kernel
set_option maxRecDepth 100000 in
set_option maxHeartbeats 4000000 in
theorem zz_u132_1 : zz_okU 132 1 = true := by decide +kernel
set_option maxRecDepth 100000 in
set_option maxHeartbeats 4000000 in
theorem zz_u132_2 : zz_okU 132 2 = true := by decide +kernel
set_option maxRecDepth 100000 in
set_option maxHeartbeats 4000000 in
theorem zz_u132_3 : zz_okU 132 3 = true := by decide +kernel
set_option maxRecDepth 100000 in
set_option maxHeartbeats 4000000 in
theorem zz_u132_4 : zz_okU 132 4 = true := by decide +kernel
set_option maxRecDepth 100000 in
set_option maxHeartbeats 4000000 in
theorem zz_u132_5 : zz_okU 132 5 = true := by decide +kernel
set_option maxRecDepth 100000 in
set_option maxHeartbeats 4000000 in
theorem zz_u132_6 : zz_okU 132 6 = true := by decide +kernel
theorem zz_v132 : zz_vv 132 := zz_okU_all (n := 7) (lt_s (lt_s (lt_s (lt_s (lt_s (lt_s (lt_s (lt_0) zz_u132_0) zz_u132_1) zz_u132_2) zz_u132_3) zz_u132_4) zz_u132_5) zz_u132_6) (Nat.le_of_ble_eq_true rfl)
set_option maxRecDepth 100000 in
set_option maxHeartbeats 4000000 in
theorem zz_u133_0 : zz_okU 133 0 = true := by decide +kernel
theorem zz_v133 : zz_vv 133 := zz_okU_all (n := 1) (lt_s (lt_0) zz_u133_0) (Nat.le_of_ble_eq_true rfl)
set_option maxRecDepth 100000 in
set_option maxHeartbeats 4000000 in
theorem zz_u134_0 : zz_okU 134 0 = true := by decide +kernel
theorem zz_v134 : zz_vv 134 := zz_okU_all (n := 1) (lt_s (lt_0) zz_u134_0) (Nat.le_of_ble_eq_true rfl)
set_option maxRecDepth 100000 in
set_option maxHeartbeats 4000000 in
theorem zz_u135_0 : zz_okU 135 0 = true := by decide +kernel
set_option maxRecDepth 100000 in
set_option maxHeartbeats 4000000 in
theorem zz_u135_1 : zz_okU 135 1 = true := by decide +kernel
set_option maxRecDepth 100000 in
set_option maxHeartbeats 4000000 in
theorem zz_u135_2 : zz_okU 135 2 = true := by decide +kernel
set_option maxRecDepth 100000 in
set_option maxHeartbeats 4000000 in
theorem zz_u135_3 : zz_okU 135 3 = true := by decide +kernel
set_option maxRecDepth 100000 in
set_option maxHeartbeats 4000000 in
theorem zz_u135_4 : zz_okU 135 4 = true := by decide +kernel
set_option maxRecDepth 100000 in
set_option maxHeartbeats 4000000 in
theorem zz_u135_5 : zz_okU 135 5 = true := by decide +kernel
theorem zz_v135 : zz_vv 135 := zz_okU_all (n := 6) (lt_s (lt_s (lt_s (lt_s (lt_s (lt_s (lt_0) zz_u135_0) zz_u135_1) zz_u135_2) zz_u135_3) zz_u135_4) zz_u135_5) (Nat.le_of_ble_eq_true rfl)
set_option maxRecDepth 100000 in
set_option maxHeartbeats 4000000 in
theorem zz_u136_0 : zz_okU 136 0 = true := by decide +kernel
set_option maxRecDepth 100000 in
set_option maxHeartbeats 4000000 in
theorem zz_u136_1 : zz_okU 136 1 = true := by decide +kernel
set_option maxRecDepth 100000 in
set_option maxHeartbeats 4000000 in
theorem zz_u136_2 : zz_okU 136 2 = true := by decide +kernel
set_option maxRecDepth 100000 in
set_option maxHeartbeats 4000000 in
theorem zz_u136_3 : zz_okU 136 3 = true := by decide +kernel
theorem zz_v136 : zz_vv 136 := zz_okU_all (n := 4) (lt_s (lt_s (lt_s (lt_s (lt_0) zz_u136_0) zz_u136_1) zz_u136_2) zz_u136_3) (Nat.le_of_ble_eq_true rfl)
set_option maxRecDepth 100000 in
set_option maxHeartbeats 4000000 in
theorem zz_u137_0 : zz_okU 137 0 = true := by decide +kernel
set_option maxRecDepth 100000 in
set_option maxHeartbeats 4000000 in
theorem zz_u137_1 : zz_okU 137 1 = true := by decide +kernel
set_option maxRecDepth 100000 in
set_option maxHeartbeats 4000000 in
theorem zz_u137_2 : zz_okU 137 2 = true := by decide +kernel
theorem zz_v137 : zz_vv 137 := zz_okU_all (n := 3) (lt_s (lt_s (lt_s (lt_0) zz_u137_0) zz_u137_1) zz_u137_2) (Nat.le_of_ble_eq_true rfl)
set_option maxRecDepth 100000 in
set_option maxHeartbeats 4000000 in
theorem zz_u138_0 : zz_okU 138 0 = true := by decide +kernel
set_option maxRecDepth 100000 in
set_option maxHeartbeats 4000000 in
theorem zz_u138_1 : zz_okU 138 1 = true := by decide +kernel
set_option maxRecDepth 100000 in
set_option maxHeartbeats 4000000 in
theorem zz_u138_2 : zz_okU 138 2 = true := by decide +kernel
set_option maxRecDepth 100000 in
set_option maxHeartbeats 4000000 in
theorem zz_u138_3 : zz_okU 138 3 = true := by decide +kernel
theorem zz_v138 : zz_vv 138 := zz_okU_all (n := 4) (lt_s (lt_s (lt_s (lt_s (lt_0) zz_u138_0) zz_u138_1) zz_u138_2) zz_u138_3) (Nat.le_of_ble_eq_true rfl)
set_option maxRecDepth 100000 in
set_option maxHeartbeats 4000000 in
theorem zz_u139_0 : zz_okU 139 0 = true := by decide +kernel
theorem zz_v139 : zz_vv 139 := zz_okU_all (n := 1) (lt_s (lt_0) zz_u139_0) (Nat.le_of_ble_eq_true rfl)
set_option maxRecDepth 100000 in
set_option maxHeartbeats 4000000 in
theorem zz_u140_0 : zz_okU 140 0 = true := by decide +kernel
set_option maxRecDepth 100000 in
set_option maxHeartbeats 4000000 in
theorem zz_u140_1 : zz_okU 140 1 = true := by decide +kernel
set_option maxRecDepth 100000 in
set_option maxHeartbeats 4000000 in
theorem zz_u140_2 : zz_okU 140 2 = true := by decide +kernel
theorem zz_v140 : zz_vv 140 := zz_okU_all (n := 3) (lt_s (lt_s (lt_s (lt_0) zz_u140_0) zz_u140_1) zz_u140_2) (Nat.le_of_ble_eq_true rfl)
set_option maxRecDepth 100000 in
set_option maxHeartbeats 4000000 in
theorem zz_u141_0 : zz_okU 141 0 = true := by decide +kernel
theorem zz_v141 : zz_vv 141 := zz_okU_all (n := 1) (lt_s (lt_0) zz_u141_0) (Nat.le_of_ble_eq_true rfl)
set_option maxRecDepth 100000 in
set_option maxHeartbeats 4000000 in
theorem zz_u142_0 : zz_okU 142 0 = true := by decide +kernel
set_option maxRecDepth 100000 in
set_option maxHeartbeats 4000000 in
theorem zz_u142_1 : zz_okU 142 1 = true := by decide +kernel
theorem zz_v142 : zz_vv 142 := zz_okU_all (n := 2) (lt_s (lt_s (lt_0) zz_u142_0) zz_u142_1) (Nat.le_of_ble_eq_true rfl)
set_option maxRecDepth 100000 in
set_option maxHeartbeats 4000000 in
theorem zz_u143_0 : zz_okU 143 0 = true := by decide +kernel
theorem zz_v143 : zz_vv 143 := zz_okU_all (n := 1) (lt_s (lt_0) zz_u143_0) (Nat.le_of_ble_eq_true rfl)
set_option maxRecDepth 100000 in
set_option maxHeartbeats 4000000 in
theorem zz_u144_0 : zz_okU 144 0 = true := by decide +kernel
theorem zz_v144 : zz_vv 144 := zz_okU_all (n := 1) (lt_s (lt_0) zz_u144_0) (Nat.le_of_ble_eq_true rfl)
set_option maxRecDepth 100000 in
set_option maxHeartbeats 4000000 in
theorem zz_u145_0 : zz_okU 145 0 = true := by decide +kernel
theorem zz_v145 : zz_vv 145 := zz_okU_all (n := 1) (lt_s (lt_0) zz_u145_0) (Nat.le_of_ble_eq_true rfl)
set_option maxRecDepth 100000 in
set_option maxHeartbeats 4000000 in
theorem zz_u146_0 : zz_okU 146 0 = true := by decide +kernel
set_option maxRecDepth 100000 in
set_option maxHeartbeats 4000000 in
theorem zz_u146_1 : zz_okU 146 1 = true := by decide +kernel
set_option maxRecDepth 100000 in
set_option maxHeartbeats 4000000 in
theorem zz_u146_2 : zz_okU 146 2 = true := by decide +kernel
set_option maxRecDepth 100000 in
set_option maxHeartbeats 4000000 in
theorem zz_u146_3 : zz_okU 146 3 = true := by decide +kernel
theorem zz_v146 : zz_vv 146 := zz_okU_all (n := 4) (lt_s (lt_s (lt_s (lt_s (lt_0) zz_u146_0) zz_u146_1) zz_u146_2) zz_u146_3) (Nat.le_of_ble_eq_true rfl)
set_option maxRecDepth 100000 in
set_option maxHeartbeats 4000000 in
theorem zz_u147_0 : zz_okU 147 0 = true := by decide +kernel
theorem zz_v147 : zz_vv 147 := zz_okU_all (n := 1) (lt_s (lt_0) zz_u147_0) (Nat.le_of_ble_eq_true rfl)
set_option maxRecDepth 100000 in
set_option maxHeartbeats 4000000 in
theorem zz_u148_0 : zz_okU 148 0 = true := by decide +kernel
set_option maxRecDepth 100000 in
set_option maxHeartbeats 4000000 in
theorem zz_u148_1 : zz_okU 148 1 = true := by decide +kernel
theorem zz_v148 : zz_vv 148 := zz_okU_all (n := 2) (lt_s (lt_s (lt_0) zz_u148_0) zz_u148_1) (Nat.le_of_ble_eq_true rfl)
set_option maxRecDepth 100000 in
set_option maxHeartbeats 4000000 in
theorem zz_u149_0 : zz_okU 149 0 = true := by decide +kernel
theorem zz_v149 : zz_vv 149 := zz_okU_all (n := 1) (lt_s (lt_0) zz_u149_0) (Nat.le_of_ble_eq_true rfl)
set_option maxRecDepth 100000 in
set_option maxHeartbeats 4000000 in
theorem zz_u150_0 : zz_okU 150 0 = true := by decide +kernel
set_option maxRecDepth 100000 in
set_option maxHeartbeats 4000000 in
theorem zz_u150_1 : zz_okU 150 1 = true := by decide +kernel
set_option maxRecDepth 100000 in
set_option maxHeartbeats 4000000 in
theorem zz_u150_2 : zz_okU 150 2 = true := by decide +kernel
set_option maxRecDepth 100000 in
set_option maxHeartbeats 4000000 in
theorem zz_u150_3 : zz_okU 150 3 = true := by decide +kernel
theorem zz_v150 : zz_vv 150 := zz_okU_all (n := 4) (lt_s (lt_s (lt_s (lt_s (lt_0) zz_u150_0) zz_u150_1) zz_u150_2) zz_u150_3) (Nat.le_of_ble_eq_true rfl)
set_option maxRecDepth 100000 in
set_option maxHeartbeats 4000000 in
theorem zz_u151_0 : zz_okU 151 0 = true := by decide +kernel
theorem zz_v151 : zz_vv 151 := zz_okU_all (n := 1) (lt_s (lt_0) zz_u151_0) (Nat.le_of_ble_eq_true rfl)
set_option maxRecDepth 100000 in
set_option maxHeartbeats 4000000 in
theorem zz_u152_0 : zz_okU 152 0 = true := by decide +kernel
theorem zz_v152 : zz_vv 152 := zz_okU_all (n := 1) (lt_s (lt_0) zz_u152_0) (Nat.le_of_ble_eq_true rfl)
set_option maxRecDepth 100000 in
set_option maxHeartbeats 4000000 in
theorem zz_u153_0 : zz_okU 153 0 = true := by decide +kernel
theorem zz_v153 : zz_vv 153 := zz_okU_all (n := 1) (lt_s (lt_0) zz_u153_0) (Nat.le_of_ble_eq_true rfl)
set_option maxRecDepth 100000 in
set_option maxHeartbeats 4000000 in
theorem zz_u154_0 : zz_okU 154 0 = true := by decide +kernel
theorem zz_v154 : zz_vv 154 := zz_okU_all (n := 1) (lt_s (lt_0) zz_u154_0) (Nat.le_of_ble_eq_true rfl)
set_option maxRecDepth 100000 in
set_option maxHeartbeats 4000000 in
theorem zz_u155_0 : zz_okU 155 0 = true := by decide +kernel
theorem zz_v155 : zz_vv 155 := zz_okU_all (n := 1) (lt_s (lt_0) zz_u155_0) (Nat.le_of_ble_eq_true rfl)
set_option maxRecDepth 100000 in
set_option maxHeartbeats 4000000 in
theorem zz_u156_0 : zz_okU 156 0 = true := by decide +kernel
theorem zz_v156 : zz_vv 156 := zz_okU_all (n := 1) (lt_s (lt_0) zz_u156_0) (Nat.le_of_ble_eq_true rfl)
set_option maxRecDepth 100000 in
set_option maxHeartbeats 4000000 in
theorem zz_u157_0 : zz_okU 157 0 = true := by decide +kernel
set_option maxRecDepth 100000 in
set_option maxHeartbeats 4000000 in
theorem zz_u157_1 : zz_okU 157 1 = true := by decide +kernel
theorem zz_v157 : zz_vv 157 := zz_okU_all (n := 2) (lt_s (lt_s (lt_0) zz_u157_0) zz_u157_1) (Nat.le_of_ble_eq_true rfl)
set_option maxRecDepth 100000 in
set_option maxHeartbeats 4000000 in
theorem zz_u158_0 : zz_okU 158 0 = true := by decide +kernel
set_option maxRecDepth 100000 in
set_option maxHeartbeats 4000000 in
theorem zz_u158_1 : zz_okU 158 1 = true := by decide +kernel
theorem zz_v158 : zz_vv 158 := zz_okU_all (n := 2) (lt_s (lt_s (lt_0) zz_u158_0) zz_u158_1) (Nat.le_of_ble_eq_true rfl)
set_option maxRecDepth 100000 in
set_option maxHeartbeats 4000000 in
theorem zz_u159_0 : zz_okU 159 0 = true := by decide +kernel
theorem zz_v159 : zz_vv 159 := zz_okU_all (n := 1) (lt_s (lt_0) zz_u159_0) (Nat.le_of_ble_eq_true rfl)
set_option maxRecDepth 100000 in
set_option maxHeartbeats 4000000 in
theorem zz_u160_0 : zz_okU 160 0 = true := by decide +kernel
theorem zz_v160 : zz_vv 160 := zz_okU_all (n := 1) (lt_s (lt_0) zz_u160_0) (Nat.le_of_ble_eq_true rfl)
set_option maxRecDepth 100000 in
set_option maxHeartbeats 4000000 in
theorem zz_u161_0 : zz_okU 161 0 = true := by decide +kernel
theorem zz_v161 : zz_vv 161 := zz_okU_all (n := 1) (lt_s (lt_0) zz_u161_0) (Nat.le_of_ble_eq_true rfl)
set_option maxRecDepth 100000 in
set_option maxHeartbeats 4000000 in
theorem zz_u162_0 : zz_okU 162 0 = true := by decide +kernel
set_option maxRecDepth 100000 in
set_option maxHeartbeats 4000000 in
theorem zz_u162_1 : zz_okU 162 1 = true := by decide +kernel
set_option maxRecDepth 100000 in
set_option maxHeartbeats 4000000 in
theorem zz_u162_2 : zz_okU 162 2 = true := by decide +kernel
theorem zz_v162 : zz_vv 162 := zz_okU_all (n := 3) (lt_s (lt_s (lt_s (lt_0) zz_u162_0) zz_u162_1) zz_u162_2) (Nat.le_of_ble_eq_true rfl)
set_option maxRecDepth 100000 in
set_option maxHeartbeats 4000000 in
theorem zz_u163_0 : zz_okU 163 0 = true := by decide +kernel
theorem zz_v163 : zz_vv 163 := zz_okU_all (n := 1) (lt_s (lt_0) zz_u163_0) (Nat.le_of_ble_eq_true rfl)
set_option maxRecDepth 100000 in
set_option maxHeartbeats 4000000 in
theorem zz_u164_0 : zz_okU 164 0 = true := by decide +kernel
theorem zz_v164 : zz_vv 164 := zz_okU_all (n := 1) (lt_s (lt_0) zz_u164_0) (Nat.le_of_ble_eq_true rfl)
set_option maxRecDepth 100000 in
set_option maxHeartbeats 4000000 in
theorem zz_u165_0 : zz_okU 165 0 = true := by decide +kernel
theorem zz_v165 : zz_vv 165 := zz_okU_all (n := 1) (lt_s (lt_0) zz_u165_0) (Nat.le_of_ble_eq_true rfl)
set_option maxRecDepth 100000 in
set_option maxHeartbeats 4000000 in
theorem zz_u166_0 : zz_okU 166 0 = true := by decide +kernel
set_option maxRecDepth 100000 in
set_option maxHeartbeats 4000000 in
theorem zz_u166_1 : zz_okU 166 1 = true := by decide +kernel
theorem zz_v166 : zz_vv 166 := zz_okU_all (n := 2) (lt_s (lt_s (lt_0) zz_u166_0) zz_u166_1) (Nat.le_of_ble_eq_true rfl)
set_option maxRecDepth 100000 in
set_option maxHeartbeats 4000000 in
theorem zz_u167_0 : zz_okU 167 0 = true := by decide +kernel
theorem zz_v167 : zz_vv 167 := zz_okU_all (n := 1) (lt_s (lt_0) zz_u167_0) (Nat.le_of_ble_eq_true rfl)
set_option maxRecDepth 100000 in
set_option maxHeartbeats 4000000 in
theorem zz_u168_0 : zz_okU 168 0 = true := by decide +kernel
set_option maxRecDepth 100000 in
set_option maxHeartbeats 4000000 in
theorem zz_u168_1 : zz_okU 168 1 = true := by decide +kernel
set_option maxRecDepth 100000 in
set_option maxHeartbeats 4000000 in
theorem zz_u168_2 : zz_okU 168 2 = true := by decide +kernel
theorem zz_v168 : zz_vv 168 := zz_okU_all (n := 3) (lt_s (lt_s (lt_s (lt_0) zz_u168_0) zz_u168_1) zz_u168_2) (Nat.le_of_ble_eq_true rfl)
set_option maxRecDepth 100000 in
set_option maxHeartbeats 4000000 in
theorem zz_u169_0 : zz_okU 169 0 = true := by decide +kernel
theorem zz_v169 : zz_vv 169 := zz_okU_all (n := 1) (lt_s (lt_0) zz_u169_0) (Nat.le_of_ble_eq_true rfl)
set_option maxRecDepth 100000 in
set_option maxHeartbeats 4000000 in
theorem zz_u170_0 : zz_okU 170 0 = true := by decide +kernel
set_option maxRecDepth 100000 in
set_option maxHeartbeats 4000000 in
theorem zz_u170_1 : zz_okU 170 1 = true := by decide +kernel
set_option maxRecDepth 100000 in
set_option maxHeartbeats 4000000 in
theorem zz_u170_2 : zz_okU 170 2 = true := by decide +kernel
theorem zz_v170 : zz_vv 170 := zz_okU_all (n := 3) (lt_s (lt_s (lt_s (lt_0) zz_u170_0) zz_u170_1) zz_u170_2) (Nat.le_of_ble_eq_true rfl)
set_option maxRecDepth 100000 in
set_option maxHeartbeats 4000000 in
theorem zz_u171_0 : zz_okU 171 0 = true := by decide +kernel
set_option maxRecDepth 100000 in
set_option maxHeartbeats 4000000 in
theorem zz_u171_1 : zz_okU 171 1 = true := by decide +kernel
set_option maxRecDepth 100000 in
set_option maxHeartbeats 4000000 in
theorem zz_u171_2 : zz_okU 171 2 = true := by decide +kernel
theorem zz_v171 : zz_vv 171 := zz_okU_all (n := 3) (lt_s (lt_s (lt_s (lt_0) zz_u171_0) zz_u171_1) zz_u171_2) (Nat.le_of_ble_eq_true rfl)
set_option maxRecDepth 100000 in
set_option maxHeartbeats 4000000 in
theorem zz_u172_0 : zz_okU 172 0 = true := by decide +kernel
theorem zz_v172 : zz_vv 172 := zz_okU_all (n := 1) (lt_s (lt_0) zz_u172_0) (Nat.le_of_ble_eq_true rfl)
set_option maxRecDepth 100000 in
set_option maxHeartbeats 4000000 in
theorem zz_u173_0 : zz_okU 173 0 = true := by decide +kernel
theorem zz_v173 : zz_vv 173 := zz_okU_all (n := 1) (lt_s (lt_0) zz_u173_0) (Nat.le_of_ble_eq_true rfl)
set_option maxRecDepth 100000 in
set_option maxHeartbeats 4000000 in
theorem zz_u174_0 : zz_okU 174 0 = true := by decide +kernel
set_option maxRecDepth 100000 in
set_option maxHeartbeats 4000000 in
theorem zz_u174_1 : zz_okU 174 1 = true := by decide +kernel
set_option maxRecDepth 100000 in
set_option maxHeartbeats 4000000 in
theorem zz_u174_2 : zz_okU 174 2 = true := by decide +kernel
set_option maxRecDepth 100000 in
set_option maxHeartbeats 4000000 in
theorem zz_u174_3 : zz_okU 174 3 = true := by decide +kernel
set_option maxRecDepth 100000 in
set_option maxHeartbeats 4000000 in
theorem zz_u174_4 : zz_okU 174 4 = true := by decide +kernel
set_option maxRecDepth 100000 in
set_option maxHeartbeats 4000000 in
theorem zz_u174_5 : zz_okU 174 5 = true := by decide +kernel
theorem zz_v174 : zz_vv 174 := zz_okU_all (n := 6) (lt_s (lt_s (lt_s (lt_s (lt_s (lt_s (lt_0) zz_u174_0) zz_u174_1) zz_u174_2) zz_u174_3) zz_u174_4) zz_u174_5) (Nat.le_of_ble_eq_true rfl)
set_option maxRecDepth 100000 in
set_option maxHeartbeats 4000000 in
theorem zz_u175_0 : zz_okU 175 0 = true := by decide +kernel
theorem zz_v175 : zz_vv 175 := zz_okU_all (n := 1) (lt_s (lt_0) zz_u175_0) (Nat.le_of_ble_eq_true rfl)
set_option maxRecDepth 100000 in
set_option maxHeartbeats 4000000 in
theorem zz_u176_0 : zz_okU 176 0 = true := by decide +kernel
theorem zz_v176 : zz_vv 176 := zz_okU_all (n := 1) (lt_s (lt_0) zz_u176_0) (Nat.le_of_ble_eq_true rfl)
set_option maxRecDepth 100000 in
set_option maxHeartbeats 4000000 in
theorem zz_u177_0 : zz_okU 177 0 = true := by decide +kernel
theorem zz_v177 : zz_vv 177 := zz_okU_all (n := 1) (lt_s (lt_0) zz_u177_0) (Nat.le_of_ble_eq_true rfl)
set_option maxRecDepth 100000 in
set_option maxHeartbeats 4000000 in
theorem zz_u178_0 : zz_okU 178 0 = true := by decide +kernel
set_option maxRecDepth 100000 in
set_option maxHeartbeats 4000000 in
theorem zz_u178_1 : zz_okU 178 1 = true := by decide +kernel
set_option maxRecDepth 100000 in
set_option maxHeartbeats 4000000 in
theorem zz_u178_2 : zz_okU 178 2 = true := by decide +kernel
set_option maxRecDepth 100000 in
set_option maxHeartbeats 4000000 in
theorem zz_u178_3 : zz_okU 178 3 = true := by decide +kernel
theorem zz_v178 : zz_vv 178 := zz_okU_all (n := 4) (lt_s (lt_s (lt_s (lt_s (lt_0) zz_u178_0) zz_u178_1) zz_u178_2) zz_u178_3) (Nat.le_of_ble_eq_true rfl)
set_option maxRecDepth 100000 in
set_option maxHeartbeats 4000000 in
theorem zz_u179_0 : zz_okU 179 0 = true := by decide +kernel
set_option maxRecDepth 100000 in
set_option maxHeartbeats 4000000 in
theorem zz_u179_1 : zz_okU 179 1 = true := by decide +kernel
set_option maxRecDepth 100000 in
set_option maxHeartbeats 4000000 in
theorem zz_u179_2 : zz_okU 179 2 = true := by decide +kernel
set_option maxRecDepth 100000 in
set_option maxHeartbeats 4000000 in
theorem zz_u179_3 : zz_okU 179 3 = true := by decide +kernel
set_option maxRecDepth 100000 in
set_option maxHeartbeats 4000000 in
theorem zz_u179_4 : zz_okU 179 4 = true := by decide +kernel
set_option maxRecDepth 100000 in
set_option maxHeartbeats 4000000 in
theorem zz_u179_5 : zz_okU 179 5 = true := by decide +kernel
set_option maxRecDepth 100000 in
set_option maxHeartbeats 4000000 in
theorem zz_u179_6 : zz_okU 179 6 = true := by decide +kernel
theorem zz_v179 : zz_vv 179 := zz_okU_all (n := 7) (lt_s (lt_s (lt_s (lt_s (lt_s (lt_s (lt_s (lt_0) zz_u179_0) zz_u179_1) zz_u179_2) zz_u179_3) zz_u179_4) zz_u179_5) zz_u179_6) (Nat.le_of_ble_eq_true rfl)
set_option maxRecDepth 100000 in
set_option maxHeartbeats 4000000 in
theorem zz_u180_0 : zz_okU 180 0 = true := by decide +kernel
theorem zz_v180 : zz_vv 180 := zz_okU_all (n := 1) (lt_s (lt_0) zz_u180_0) (Nat.le_of_ble_eq_true rfl)
set_option maxRecDepth 100000 in
set_option maxHeartbeats 4000000 in
theorem zz_u181_0 : zz_okU 181 0 = true := by decide +kernel
set_option maxRecDepth 100000 in
set_option maxHeartbeats 4000000 in
theorem zz_u181_1 : zz_okU 181 1 = true := by decide +kernel
theorem zz_v181 : zz_vv 181 := zz_okU_all (n := 2) (lt_s (lt_s (lt_0) zz_u181_0) zz_u181_1) (Nat.le_of_ble_eq_true rfl)
set_option maxRecDepth 100000 in
set_option maxHeartbeats 4000000 in
theorem zz_u182_0 : zz_okU 182 0 = true := by decide +kernel
set_option maxRecDepth 100000 in
set_option maxHeartbeats 4000000 in
theorem zz_u182_1 : zz_okU 182 1 = true := by decide +kernel
theorem zz_v182 : zz_vv 182 := zz_okU_all (n := 2) (lt_s (lt_s (lt_0) zz_u182_0) zz_u182_1) (Nat.le_of_ble_eq_true rfl)
set_option maxRecDepth 100000 in
set_option maxHeartbeats 4000000 in
theorem zz_u183_0 : zz_okU 183 0 = true := by decide +kernel
set_option maxRecDepth 100000 in
set_option maxHeartbeats 4000000 in
theorem zz_u183_1 : zz_okU 183 1 = true := by decide +kernel
theorem zz_v183 : zz_vv 183 := zz_okU_all (n := 2) (lt_s (lt_s (lt_0) zz_u183_0) zz_u183_1) (Nat.le_of_ble_eq_true rfl)
set_option maxRecDepth 100000 in
set_option maxHeartbeats 4000000 in
theorem zz_u184_0 : zz_okU 184 0 = true := by decide +kernel
set_option maxRecDepth 100000 in
set_option maxHeartbeats 4000000 in
theorem zz_u184_1 : zz_okU 184 1 = true := by decide +kernel
theorem zz_v184 : zz_vv 184 := zz_okU_all (n := 2) (lt_s (lt_s (lt_0) zz_u184_0) zz_u184_1) (Nat.le_of_ble_eq_true rfl)
set_option maxRecDepth 100000 in
set_option maxHeartbeats 4000000 in
theorem zz_u185_0 : zz_okU 185 0 = true := by decide +kernel
set_option maxRecDepth 100000 in
set_option maxHeartbeats 4000000 in
theorem zz_u185_1 : zz_okU 185 1 = true := by decide +kernel
theorem zz_v185 : zz_vv 185 := zz_okU_all (n := 2) (lt_s (lt_s (lt_0) zz_u185_0) zz_u185_1) (Nat.le_of_ble_eq_true rfl)
set_option maxRecDepth 100000 in
set_option maxHeartbeats 4000000 in
theorem zz_u186_0 : zz_okU 186 0 = true := by decide +kernel
set_option maxRecDepth 100000 in
set_option maxHeartbeats 4000000 in
theorem zz_u186_1 : zz_okU 186 1 = true := by decide +kernel
set_option maxRecDepth 100000 in
set_option maxHeartbeats 4000000 in
theorem zz_u186_2 : zz_okU 186 2 = true := by decide +kernel
theorem zz_v186 : zz_vv 186 := zz_okU_all (n := 3) (lt_s (lt_s (lt_s (lt_0) zz_u186_0) zz_u186_1) zz_u186_2) (Nat.le_of_ble_eq_true rfl)
set_option maxRecDepth 100000 in
set_option maxHeartbeats 4000000 in
theorem zz_u187_0 : zz_okU 187 0 = true := by decide +kernel
set_option maxRecDepth 100000 in
set_option maxHeartbeats 4000000 in
theorem zz_u187_1 : zz_okU 187 1 = true := by decide +kernel
theorem zz_v187 : zz_vv 187 := zz_okU_all (n := 2) (lt_s (lt_s (lt_0) zz_u187_0) zz_u187_1) (Nat.le_of_ble_eq_true rfl)
set_option maxRecDepth 100000 in
set_option maxHeartbeats 4000000 in
theorem zz_u188_0 : zz_okU 188 0 = true := by decide +kernel
theorem zz_v188 : zz_vv 188 := zz_okU_all (n := 1) (lt_s (lt_0) zz_u188_0) (Nat.le_of_ble_eq_true rfl)
set_option maxRecDepth 100000 in
set_option maxHeartbeats 4000000 in
theorem zz_u189_0 : zz_okU 189 0 = true := by decide +kernel
set_option maxRecDepth 100000 in
set_option maxHeartbeats 4000000 in
theorem zz_u189_1 : zz_okU 189 1 = true := by decide +kernel
theorem zz_v189 : zz_vv 189 := zz_okU_all (n := 2) (lt_s (lt_s (lt_0) zz_u189_0) zz_u189_1) (Nat.le_of_ble_eq_true rfl)
set_option maxRecDepth 100000 in
set_option maxHeartbeats 4000000 in
theorem zz_u190_0 : zz_okU 190 0 = true := by decide +kernel
set_option maxRecDepth 100000 in
set_option maxHeartbeats 4000000 in
theorem zz_u190_1 : zz_okU 190 1 = true := by decide +kernel
set_option maxRecDepth 100000 in
set_option maxHeartbeats 4000000 in
theorem zz_u190_2 : zz_okU 190 2 = true := by decide +kernel
theorem zz_v190 : zz_vv 190 := zz_okU_all (n := 3) (lt_s (lt_s (lt_s (lt_0) zz_u190_0) zz_u190_1) zz_u190_2) (Nat.le_of_ble_eq_true rfl)
set_option maxRecDepth 100000 in
set_option maxHeartbeats 4000000 in
theorem zz_u191_0 : zz_okU 191 0 = true := by decide +kernel
theorem zz_v191 : zz_vv 191 := zz_okU_all (n := 1) (lt_s (lt_0) zz_u191_0) (Nat.le_of_ble_eq_true rfl)
set_option maxRecDepth 100000 in
set_option maxHeartbeats 4000000 in
theorem zz_u192_0 : zz_okU 192 0 = true := by decide +kernel
theorem zz_v192 : zz_vv 192 := zz_okU_all (n := 1) (lt_s (lt_0) zz_u192_0) (Nat.le_of_ble_eq_true rfl)
set_option maxRecDepth 100000 in
set_option maxHeartbeats 4000000 in
theorem zz_u193_0 : zz_okU 193 0 = true := by decide +kernel
theorem zz_v193 : zz_vv 193 := zz_okU_all (n := 1) (lt_s (lt_0) zz_u193_0) (Nat.le_of_ble_eq_true rfl)
set_option maxRecDepth 100000 in
set_option maxHeartbeats 4000000 in
theorem zz_u194_0 : zz_okU 194 0 = true := by decide +kernel
set_option maxRecDepth 100000 in
set_option maxHeartbeats 4000000 in
theorem zz_u194_1 : zz_okU 194 1 = true := by decide +kernel
set_option maxRecDepth 100000 in
set_option maxHeartbeats 4000000 in
theorem zz_u194_2 : zz_okU 194 2 = true := by decide +kernel
theorem zz_v194 : zz_vv 194 := zz_okU_all (n := 3) (lt_s (lt_s (lt_s (lt_0) zz_u194_0) zz_u194_1) zz_u194_2) (Nat.le_of_ble_eq_true rfl)
set_option maxRecDepth 100000 in
set_option maxHeartbeats 4000000 in
theorem zz_u195_0 : zz_okU 195 0 = true := by decide +kernel
set_option maxRecDepth 100000 in
set_option maxHeartbeats 4000000 in
theorem zz_u195_1 : zz_okU 195 1 = true := by decide +kernel
set_option maxRecDepth 100000 in
set_option maxHeartbeats 4000000 in
theorem zz_u195_2 : zz_okU 195 2 = true := by decide +kernel
set_option maxRecDepth 100000 in
set_option maxHeartbeats 4000000 in
theorem zz_u195_3 : zz_okU 195 3 = true := by decide +kernel
set_option maxRecDepth 100000 in
set_option maxHeartbeats 4000000 in
theorem zz_u195_4 : zz_okU 195 4 = true := by decide +kernel
set_option maxRecDepth 100000 in
set_option maxHeartbeats 4000000 in
theorem zz_u195_5 : zz_okU 195 5 = true := by decide +kernel
set_option maxRecDepth 100000 in
set_option maxHeartbeats 4000000 in
theorem zz_u195_6 : zz_okU 195 6 = true := by decide +kernel
theorem zz_v195 : zz_vv 195 := zz_okU_all (n := 7) (lt_s (lt_s (lt_s (lt_s (lt_s (lt_s (lt_s (lt_0) zz_u195_0) zz_u195_1) zz_u195_2) zz_u195_3) zz_u195_4) zz_u195_5) zz_u195_6) (Nat.le_of_ble_eq_true rfl)
set_option maxRecDepth 100000 in
set_option maxHeartbeats 4000000 in
theorem zz_u196_0 : zz_okU 196 0 = true := by decide +kernel
set_option maxRecDepth 100000 in
set_option maxHeartbeats 4000000 in
theorem zz_u196_1 : zz_okU 196 1 = true := by decide +kernel
set_option maxRecDepth 100000 in
set_option maxHeartbeats 4000000 in
theorem zz_u196_2 : zz_okU 196 2 = true := by decide +kernel
theorem zz_v196 : zz_vv 196 := zz_okU_all (n := 3) (lt_s (lt_s (lt_s (lt_0) zz_u196_0) zz_u196_1) zz_u196_2) (Nat.le_of_ble_eq_true rfl)
set_option maxRecDepth 100000 in
set_option maxHeartbeats 4000000 in
theorem zz_u197_0 : zz_okU 197 0 = true := by decide +kernel
theorem zz_v197 : zz_vv 197 := zz_okU_all (n := 1) (lt_s (lt_0) zz_u197_0) (Nat.le_of_ble_eq_true rfl)
set_option maxRecDepth 100000 in
set_option maxHeartbeats 4000000 in
theorem zz_u198_0 : zz_okU 198 0 = true := by decide +kernel
set_option maxRecDepth 100000 in
set_option maxHeartbeats 4000000 in
theorem zz_u198_1 : zz_okU 198 1 = true := by decide +kernel
theorem zz_v198 : zz_vv 198 := zz_okU_all (n := 2) (lt_s (lt_s (lt_0) zz_u198_0) zz_u198_1) (Nat.le_of_ble_eq_true rfl)
set_option maxRecDepth 100000 in
set_option maxHeartbeats 4000000 in
theorem zz_u199_0 : zz_okU 199 0 = true := by decide +kernel
theorem zz_v199 : zz_vv 199 := zz_okU_all (n := 1) (lt_s (lt_0) zz_u199_0) (Nat.le_of_ble_eq_true rfl)
set_option maxRecDepth 100000 in
set_option maxHeartbeats 4000000 in
theorem zz_u200_0 : zz_okU 200 0 = true := by decide +kernel
set_option maxRecDepth 100000 in
set_option maxHeartbeats 4000000 in
theorem zz_u200_1 : zz_okU 200 1 = true := by decide +kernel
set_option maxRecDepth 100000 in
set_option maxHeartbeats 4000000 in
theorem zz_u200_2 : zz_okU 200 2 = true := by decide +kernel
theorem zz_v200 : zz_vv 200 := zz_okU_all (n := 3) (lt_s (lt_s (lt_s (lt_0) zz_u200_0) zz_u200_1) zz_u200_2) (Nat.le_of_ble_eq_true rfl)
set_option maxRecDepth 100000 in
set_option maxHeartbeats 4000000 in
theorem zz_u201_0 : zz_okU 201 0 = true := by decide +kernel
set_option maxRecDepth 100000 in
set_option maxHeartbeats 4000000 in
theorem zz_u201_1 : zz_okU 201 1 = true := by decide +kernel
set_option maxRecDepth 100000 in
set_option maxHeartbeats 4000000 in
theorem zz_u201_2 : zz_okU 201 2 = true := by decide +kernel
theorem zz_v201 : zz_vv 201 := zz_okU_all (n := 3) (lt_s (lt_s (lt_s (lt_0) zz_u201_0) zz_u201_1) zz_u201_2) (Nat.le_of_ble_eq_true rfl)
set_option maxRecDepth 100000 in
set_option maxHeartbeats 4000000 in
theorem zz_u202_0 : zz_okU 202 0 = true := by decide +kernel
theorem zz_v202 : zz_vv 202 := zz_okU_all (n := 1) (lt_s (lt_0) zz_u202_0) (Nat.le_of_ble_eq_true rfl)
set_option maxRecDepth 100000 in
set_option maxHeartbeats 4000000 in
theorem zz_u203_0 : zz_okU 203 0 = true := by decide +kernel
theorem zz_v203 : zz_vv 203 := zz_okU_all (n := 1) (lt_s (lt_0) zz_u203_0) (Nat.le_of_ble_eq_true rfl)
set_option maxRecDepth 100000 in
set_option maxHeartbeats 4000000 in
theorem zz_u204_0 : zz_okU 204 0 = true := by decide +kernel
theorem zz_v204 : zz_vv 204 := zz_okU_all (n := 1) (lt_s (lt_0) zz_u204_0) (Nat.le_of_ble_eq_true rfl)
set_option maxRecDepth 100000 in
set_option maxHeartbeats 4000000 in
theorem zz_u205_0 : zz_okU 205 0 = true := by decide +kernel
set_option maxRecDepth 100000 in
set_option maxHeartbeats 4000000 in
theorem zz_u205_1 : zz_okU 205 1 = true := by decide +kernel
theorem zz_v205 : zz_vv 205 := zz_okU_all (n := 2) (lt_s (lt_s (lt_0) zz_u205_0) zz_u205_1) (Nat.le_of_ble_eq_true rfl)
set_option maxRecDepth 100000 in
set_option maxHeartbeats 4000000 in
theorem zz_u206_0 : zz_okU 206 0 = true := by decide +kernel
theorem zz_v206 : zz_vv 206 := zz_okU_all (n := 1) (lt_s (lt_0) zz_u206_0) (Nat.le_of_ble_eq_true rfl)
set_option maxRecDepth 100000 in
set_option maxHeartbeats 4000000 in
theorem zz_u207_0 : zz_okU 207 0 = true := by decide +kernel
set_option maxRecDepth 100000 in
set_option maxHeartbeats 4000000 in
theorem zz_u207_1 : zz_okU 207 1 = true := by decide +kernel
theorem zz_v207 : zz_vv 207 := zz_okU_all (n := 2) (lt_s (lt_s (lt_0) zz_u207_0) zz_u207_1) (Nat.le_of_ble_eq_true rfl)
set_option maxRecDepth 100000 in
set_option maxHeartbeats 4000000 in
theorem zz_u208_0 : zz_okU 208 0 = true := by decide +kernel
set_option maxRecDepth 100000 in
set_option maxHeartbeats 4000000 in
theorem zz_u208_1 : zz_okU 208 1 = true := by decide +kernel
theorem zz_v208 : zz_vv 208 := zz_okU_all (n := 2) (lt_s (lt_s (lt_0) zz_u208_0) zz_u208_1) (Nat.le_of_ble_eq_true rfl)
set_option maxRecDepth 100000 in
set_option maxHeartbeats 4000000 in
theorem zz_u209_0 : zz_okU 209 0 = true := by decide +kernel
theorem zz_v209 : zz_vv 209 := zz_okU_all (n := 1) (lt_s (lt_0) zz_u209_0) (Nat.le_of_ble_eq_true rfl)
set_option maxRecDepth 100000 in
set_option maxHeartbeats 4000000 in
theorem zz_u210_0 : zz_okU 210 0 = true := by decide +kernel
set_option maxRecDepth 100000 in
set_option maxHeartbeats 4000000 in
theorem zz_u210_1 : zz_okU 210 1 = true := by decide +kernel
set_option maxRecDepth 100000 in
set_option maxHeartbeats 4000000 in
theorem zz_u210_2 : zz_okU 210 2 = true := by decide +kernel
theorem zz_v210 : zz_vv 210 := zz_okU_all (n := 3) (lt_s (lt_s (lt_s (lt_0) zz_u210_0) zz_u210_1) zz_u210_2) (Nat.le_of_ble_eq_true rfl)
set_option maxRecDepth 100000 in
set_option maxHeartbeats 4000000 in
theorem zz_u211_0 : zz_okU 211 0 = true := by decide +kernel
set_option maxRecDepth 100000 in
set_option maxHeartbeats 4000000 in
theorem zz_u211_1 : zz_okU 211 1 = true := by decide +kernel
set_option maxRecDepth 100000 in
set_option maxHeartbeats 4000000 in
theorem zz_u211_2 : zz_okU 211 2 = true := by decide +kernel
theorem zz_v211 : zz_vv 211 := zz_okU_all (n := 3) (lt_s (lt_s (lt_s (lt_0) zz_u211_0) zz_u211_1) zz_u211_2) (Nat.le_of_ble_eq_true rfl)
set_option maxRecDepth 100000 in
set_option maxHeartbeats 4000000 in
theorem zz_u212_0 : zz_okU 212 0 = true := by decide +kernel
set_option maxRecDepth 100000 in
set_option maxHeartbeats 4000000 in
theorem zz_u212_1 : zz_okU 212 1 = true := by decide +kernel
set_option maxRecDepth 100000 in
set_option maxHeartbeats 4000000 in
theorem zz_u212_2 : zz_okU 212 2 = true := by decide +kernel
set_option maxRecDepth 100000 in
set_option maxHeartbeats 4000000 in
theorem zz_u212_3 : zz_okU 212 3 = true := by decide +kernel
theorem zz_v212 : zz_vv 212 := zz_okU_all (n := 4) (lt_s (lt_s (lt_s (lt_s (lt_0) zz_u212_0) zz_u212_1) zz_u212_2) zz_u212_3) (Nat.le_of_ble_eq_true rfl)
set_option maxRecDepth 100000 in
set_option maxHeartbeats 4000000 in
theorem zz_u213_0 : zz_okU 213 0 = true := by decide +kernel
set_option maxRecDepth 100000 in
set_option maxHeartbeats 4000000 in
theorem zz_u213_1 : zz_okU 213 1 = true := by decide +kernel
set_option maxRecDepth 100000 in
set_option maxHeartbeats 4000000 in
theorem zz_u213_2 : zz_okU 213 2 = true := by decide +kernel
set_option maxRecDepth 100000 in
set_option maxHeartbeats 4000000 in
theorem zz_u213_3 : zz_okU 213 3 = true := by decide +kernel
theorem zz_v213 : zz_vv 213 := zz_okU_all (n := 4) (lt_s (lt_s (lt_s (lt_s (lt_0) zz_u213_0) zz_u213_1) zz_u213_2) zz_u213_3) (Nat.le_of_ble_eq_true rfl)
set_option maxRecDepth 100000 in
set_option maxHeartbeats 4000000 in
theorem zz_u214_0 : zz_okU 214 0 = true := by decide +kernel
set_option maxRecDepth 100000 in
set_option maxHeartbeats 4000000 in
theorem zz_u214_1 : zz_okU 214 1 = true := by decide +kernel
set_option maxRecDepth 100000 in
set_option maxHeartbeats 4000000 in
theorem zz_u214_2 : zz_okU 214 2 = true := by decide +kernel
set_option maxRecDepth 100000 in
set_option maxHeartbeats 4000000 in
theorem zz_u214_3 : zz_okU 214 3 = true := by decide +kernel
theorem zz_v214 : zz_vv 214 := zz_okU_all (n := 4) (lt_s (lt_s (lt_s (lt_s (lt_0) zz_u214_0) zz_u214_1) zz_u214_2) zz_u214_3) (Nat.le_of_ble_eq_true rfl)
set_option maxRecDepth 100000 in
set_option maxHeartbeats 4000000 in
theorem zz_u215_0 : zz_okU 215 0 = true := by decide +kernel
set_option maxRecDepth 100000 in
set_option maxHeartbeats 4000000 in
theorem zz_u215_1 : zz_okU 215 1 = true := by decide +kernel
set_option maxRecDepth 100000 in
set_option maxHeartbeats 4000000 in
theorem zz_u215_2 : zz_okU 215 2 = true := by decide +kernel
set_option maxRecDepth 100000 in
set_option maxHeartbeats 4000000 in
theorem zz_u215_3 : zz_okU 215 3 = true := by decide +kernel
set_option maxRecDepth 100000 in
set_option maxHeartbeats 4000000 in
theorem zz_u215_4 : zz_okU 215 4 = true := by decide +kernel
theorem zz_v215 : zz_vv 215 := zz_okU_all (n := 5) (lt_s (lt_s (lt_s (lt_s (lt_s (lt_0) zz_u215_0) zz_u215_1) zz_u215_2) zz_u215_3) zz_u215_4) (Nat.le_of_ble_eq_true rfl)
set_option maxRecDepth 100000 in
set_option maxHeartbeats 4000000 in
theorem zz_u216_0 : zz_okU 216 0 = true := by decide +kernel
set_option maxRecDepth 100000 in
set_option maxHeartbeats 4000000 in
theorem zz_u216_1 : zz_okU 216 1 = true := by decide +kernel
theorem zz_v216 : zz_vv 216 := zz_okU_all (n := 2) (lt_s (lt_s (lt_0) zz_u216_0) zz_u216_1) (Nat.le_of_ble_eq_true rfl)
set_option maxRecDepth 100000 in
set_option maxHeartbeats 4000000 in
theorem zz_u217_0 : zz_okU 217 0 = true := by decide +kernel
theorem zz_v217 : zz_vv 217 := zz_okU_all (n := 1) (lt_s (lt_0) zz_u217_0) (Nat.le_of_ble_eq_true rfl)
set_option maxRecDepth 100000 in
set_option maxHeartbeats 4000000 in
theorem zz_u218_0 : zz_okU 218 0 = true := by decide +kernel
set_option maxRecDepth 100000 in
set_option maxHeartbeats 4000000 in
theorem zz_u218_1 : zz_okU 218 1 = true := by decide +kernel
theorem zz_v218 : zz_vv 218 := zz_okU_all (n := 2) (lt_s (lt_s (lt_0) zz_u218_0) zz_u218_1) (Nat.le_of_ble_eq_true rfl)
set_option maxRecDepth 100000 in
set_option maxHeartbeats 4000000 in
theorem zz_u219_0 : zz_okU 219 0 = true := by decide +kernel
set_option maxRecDepth 100000 in
set_option maxHeartbeats 4000000 in
theorem zz_u219_1 : zz_okU 219 1 = true := by decide +kernel
set_option maxRecDepth 100000 in
set_option maxHeartbeats 4000000 in
theorem zz_u219_2 : zz_okU 219 2 = true := by decide +kernel
theorem zz_v219 : zz_vv 219 := zz_okU_all (n := 3) (lt_s (lt_s (lt_s (lt_0) zz_u219_0) zz_u219_1) zz_u219_2) (Nat.le_of_ble_eq_true rfl)
set_option maxRecDepth 100000 in
set_option maxHeartbeats 4000000 in
theorem zz_u220_0 : zz_okU 220 0 = true := by decide +kernel
set_option maxRecDepth 100000 in
set_option maxHeartbeats 4000000 in
theorem zz_u220_1 : zz_okU 220 1 = true := by decide +kernel
set_option maxRecDepth 100000 in
set_option maxHeartbeats 4000000 in
theorem zz_u220_2 : zz_okU 220 2 = true := by decide +kernel
theorem zz_v220 : zz_vv 220 := zz_okU_all (n := 3) (lt_s (lt_s (lt_s (lt_0) zz_u220_0) zz_u220_1) zz_u220_2) (Nat.le_of_ble_eq_true rfl)
set_option maxRecDepth 100000 in
set_option maxHeartbeats 4000000 in
theorem zz_u221_0 : zz_okU 221 0 = true := by decide +kernel
set_option maxRecDepth 100000 in
set_option maxHeartbeats 4000000 in
theorem zz_u221_1 : zz_okU 221 1 = true := by decide +kernel
set_option maxRecDepth 100000 in
set_option maxHeartbeats 4000000 in
theorem zz_u221_2 : zz_okU 221 2 = true := by decide +kernel
set_option maxRecDepth 100000 in
set_option maxHeartbeats 4000000 in
theorem zz_u221_3 : zz_okU 221 3 = true := by decide +kernel
theorem zz_v221 : zz_vv 221 := zz_okU_all (n := 4) (lt_s (lt_s (lt_s (lt_s (lt_0) zz_u221_0) zz_u221_1) zz_u221_2) zz_u221_3) (Nat.le_of_ble_eq_true rfl)
set_option maxRecDepth 100000 in
set_option maxHeartbeats 4000000 in
theorem zz_u222_0 : zz_okU 222 0 = true := by decide +kernel
theorem zz_v222 : zz_vv 222 := zz_okU_all (n := 1) (lt_s (lt_0) zz_u222_0) (Nat.le_of_ble_eq_true rfl)
set_option maxRecDepth 100000 in
set_option maxHeartbeats 4000000 in
theorem zz_u223_0 : zz_okU 223 0 = true := by decide +kernel
set_option maxRecDepth 100000 in
set_option maxHeartbeats 4000000 in
theorem zz_u223_1 : zz_okU 223 1 = true := by decide +kernel
set_option maxRecDepth 100000 in
set_option maxHeartbeats 4000000 in
theorem zz_u223_2 : zz_okU 223 2 = true := by decide +kernel
theorem zz_v223 : zz_vv 223 := zz_okU_all (n := 3) (lt_s (lt_s (lt_s (lt_0) zz_u223_0) zz_u223_1) zz_u223_2) (Nat.le_of_ble_eq_true rfl)
set_option maxRecDepth 100000 in
set_option maxHeartbeats 4000000 in
theorem zz_u224_0 : zz_okU 224 0 = true := by decide +kernel
theorem zz_v224 : zz_vv 224 := zz_okU_all (n := 1) (lt_s (lt_0) zz_u224_0) (Nat.le_of_ble_eq_true rfl)
set_option maxRecDepth 100000 in
set_option maxHeartbeats 4000000 in
theorem zz_u225_0 : zz_okU 225 0 = true := by decide +kernel
theorem zz_v225 : zz_vv 225 := zz_okU_all (n := 1) (lt_s (lt_0) zz_u225_0) (Nat.le_of_ble_eq_true rfl)
set_option maxRecDepth 100000 in
set_option maxHeartbeats 4000000 in
theorem zz_u226_0 : zz_okU 226 0 = true := by decide +kernel
set_option maxRecDepth 100000 in
set_option maxHeartbeats 4000000 in
theorem zz_u226_1 : zz_okU 226 1 = true := by decide +kernel
set_option maxRecDepth 100000 in
set_option maxHeartbeats 4000000 in
theorem zz_u226_2 : zz_okU 226 2 = true := by decide +kernel
set_option maxRecDepth 100000 in
set_option maxHeartbeats 4000000 in
theorem zz_u226_3 : zz_okU 226 3 = true := by decide +kernel
theorem zz_v226 : zz_vv 226 := zz_okU_all (n := 4) (lt_s (lt_s (lt_s (lt_s (lt_0) zz_u226_0) zz_u226_1) zz_u226_2) zz_u226_3) (Nat.le_of_ble_eq_true rfl)
set_option maxRecDepth 100000 in
set_option maxHeartbeats 4000000 in
theorem zz_u227_0 : zz_okU 227 0 = true := by decide +kernel
theorem zz_v227 : zz_vv 227 := zz_okU_all (n := 1) (lt_s (lt_0) zz_u227_0) (Nat.le_of_ble_eq_true rfl)
set_option maxRecDepth 100000 in
set_option maxHeartbeats 4000000 in
theorem zz_u228_0 : zz_okU 228 0 = true := by decide +kernel
set_option maxRecDepth 100000 in
set_option maxHeartbeats 4000000 in
theorem zz_u228_1 : zz_okU 228 1 = true := by decide +kernel
set_option maxRecDepth 100000 in
set_option maxHeartbeats 4000000 in
theorem zz_u228_2 : zz_okU 228 2 = true := by decide +kernel
set_option maxRecDepth 100000 in
set_option maxHeartbeats 4000000 in
theorem zz_u228_3 : zz_okU 228 3 = true := by decide +kernel
set_option maxRecDepth 100000 in
set_option maxHeartbeats 4000000 in
theorem zz_u228_4 : zz_okU 228 4 = true := by decide +kernel
set_option maxRecDepth 100000 in
set_option maxHeartbeats 4000000 in
theorem zz_u228_5 : zz_okU 228 5 = true := by decide +kernel
set_option maxRecDepth 100000 in
set_option maxHeartbeats 4000000 in
theorem zz_u228_6 : zz_okU 228 6 = true := by decide +kernel
set_option maxRecDepth 100000 in
set_option maxHeartbeats 4000000 in
theorem zz_u228_7 : zz_okU 228 7 = true := by decide +kernel
theorem zz_v228 : zz_vv 228 := zz_okU_all (n := 8) (lt_s (lt_s (lt_s (lt_s (lt_s (lt_s (lt_s (lt_s (lt_0) zz_u228_0) zz_u228_1) zz_u228_2) zz_u228_3) zz_u228_4) zz_u228_5) zz_u228_6) zz_u228_7) (Nat.le_of_ble_eq_true rfl)
set_option maxRecDepth 100000 in
set_option maxHeartbeats 4000000 in
theorem zz_u229_0 : zz_okU 229 0 = true := by decide +kernel
set_option maxRecDepth 100000 in
set_option maxHeartbeats 4000000 in
theorem zz_u229_1 : zz_okU 229 1 = true := by decide +kernel
theorem zz_v229 : zz_vv 229 := zz_okU_all (n := 2) (lt_s (lt_s (lt_0) zz_u229_0) zz_u229_1) (Nat.le_of_ble_eq_true rfl)
set_option maxRecDepth 100000 in
set_option maxHeartbeats 4000000 in
theorem zz_u230_0 : zz_okU 230 0 = true := by decide +kernel
set_option maxRecDepth 100000 in
set_option maxHeartbeats 4000000 in
theorem zz_u230_1 : zz_okU 230 1 = true := by decide +kernel
theorem zz_v230 : zz_vv 230 := zz_okU_all (n := 2) (lt_s (lt_s (lt_0) zz_u230_0) zz_u230_1) (Nat.le_of_ble_eq_true rfl)
set_option maxRecDepth 100000 in
set_option maxHeartbeats 4000000 in
theorem zz_u231_0 : zz_okU 231 0 = true := by decide +kernel
set_option maxRecDepth 100000 in
set_option maxHeartbeats 4000000 in
theorem zz_u231_1 : zz_okU 231 1 = true := by decide +kernel
set_option maxRecDepth 100000 in
set_option maxHeartbeats 4000000 in
theorem zz_u231_2 : zz_okU 231 2 = true := by decide +kernel
theorem zz_v231 : zz_vv 231 := zz_okU_all (n := 3) (lt_s (lt_s (lt_s (lt_0) zz_u231_0) zz_u231_1) zz_u231_2) (Nat.le_of_ble_eq_true rfl)
set_option maxRecDepth 100000 in
set_option maxHeartbeats 4000000 in
theorem zz_u232_0 : zz_okU 232 0 = true := by decide +kernel
set_option maxRecDepth 100000 in
set_option maxHeartbeats 4000000 in
theorem zz_u232_1 : zz_okU 232 1 = true := by decide +kernel
set_option maxRecDepth 100000 in
set_option maxHeartbeats 4000000 in
theorem zz_u232_2 : zz_okU 232 2 = true := by decide +kernel
set_option maxRecDepth 100000 in
set_option maxHeartbeats 4000000 in
theorem zz_u232_3 : zz_okU 232 3 = true := by decide +kernel
theorem zz_v232 : zz_vv 232 := zz_okU_all (n := 4) (lt_s (lt_s (lt_s (lt_s (lt_0) zz_u232_0) zz_u232_1) zz_u232_2) zz_u232_3) (Nat.le_of_ble_eq_true rfl)
set_option maxRecDepth 100000 in
set_option maxHeartbeats 4000000 in
theorem zz_u233_0 : zz_okU 233 0 = true := by decide +kernel
set_option maxRecDepth 100000 in
set_option maxHeartbeats 4000000 in
theorem zz_u233_1 : zz_okU 233 1 = true := by decide +kernel
set_option maxRecDepth 100000 in
set_option maxHeartbeats 4000000 in
theorem zz_u233_2 : zz_okU 233 2 = true := by decide +kernel
theorem zz_v233 : zz_vv 233 := zz_okU_all (n := 3) (lt_s (lt_s (lt_s (lt_0) zz_u233_0) zz_u233_1) zz_u233_2) (Nat.le_of_ble_eq_true rfl)
set_option maxRecDepth 100000 in
set_option maxHeartbeats 4000000 in
theorem zz_u234_0 : zz_okU 234 0 = true := by decide +kernel
theorem zz_v234 : zz_vv 234 := zz_okU_all (n := 1) (lt_s (lt_0) zz_u234_0) (Nat.le_of_ble_eq_true rfl)
set_option maxRecDepth 100000 in
set_option maxHeartbeats 4000000 in
theorem zz_u235_0 : zz_okU 235 0 = true := by decide +kernel
set_option maxRecDepth 100000 in
set_option maxHeartbeats 4000000 in
theorem zz_u235_1 : zz_okU 235 1 = true := by decide +kernel
set_option maxRecDepth 100000 in
set_option maxHeartbeats 4000000 in
theorem zz_u235_2 : zz_okU 235 2 = true := by decide +kernel
set_option maxRecDepth 100000 in
set_option maxHeartbeats 4000000 in
theorem zz_u235_3 : zz_okU 235 3 = true := by decide +kernel
set_option maxRecDepth 100000 in
set_option maxHeartbeats 4000000 in
theorem zz_u235_4 : zz_okU 235 4 = true := by decide +kernel
set_option maxRecDepth 100000 in
set_option maxHeartbeats 4000000 in
theorem zz_u235_5 : zz_okU 235 5 = true := by decide +kernel
theorem zz_v235 : zz_vv 235 := zz_okU_all (n := 6) (lt_s (lt_s (lt_s (lt_s (lt_s (lt_s (lt_0) zz_u235_0) zz_u235_1) zz_u235_2) zz_u235_3) zz_u235_4) zz_u235_5) (Nat.le_of_ble_eq_true rfl)
set_option maxRecDepth 100000 in
set_option maxHeartbeats 4000000 in
theorem zz_u236_0 : zz_okU 236 0 = true := by decide +kernel
set_option maxRecDepth 100000 in
set_option maxHeartbeats 4000000 in
theorem zz_u236_1 : zz_okU 236 1 = true := by decide +kernel
set_option maxRecDepth 100000 in
set_option maxHeartbeats 4000000 in
theorem zz_u236_2 : zz_okU 236 2 = true := by decide +kernel
set_option maxRecDepth 100000 in
set_option maxHeartbeats 4000000 in
theorem zz_u236_3 : zz_okU 236 3 = true := by decide +kernel
set_option maxRecDepth 100000 in
set_option maxHeartbeats 4000000 in
theorem zz_u236_4 : zz_okU 236 4 = true := by decide +kernel
theorem zz_v236 : zz_vv 236 := zz_okU_all (n := 5) (lt_s (lt_s (lt_s (lt_s (lt_s (lt_0) zz_u236_0) zz_u236_1) zz_u236_2) zz_u236_3) zz_u236_4) (Nat.le_of_ble_eq_true rfl)
set_option maxRecDepth 100000 in
set_option maxHeartbeats 4000000 in
theorem zz_u237_0 : zz_okU 237 0 = true := by decide +kernel
set_option maxRecDepth 100000 in
set_option maxHeartbeats 4000000 in
theorem zz_u237_1 : zz_okU 237 1 = true := by decide +kernel
set_option maxRecDepth 100000 in
set_option maxHeartbeats 4000000 in
theorem zz_u237_2 : zz_okU 237 2 = true := by decide +kernel
set_option maxRecDepth 100000 in
set_option maxHeartbeats 4000000 in
theorem zz_u237_3 : zz_okU 237 3 = true := by decide +kernel
set_option maxRecDepth 100000 in
set_option maxHeartbeats 4000000 in
theorem zz_u237_4 : zz_okU 237 4 = true := by decide +kernel
theorem zz_v237 : zz_vv 237 := zz_okU_all (n := 5) (lt_s (lt_s (lt_s (lt_s (lt_s (lt_0) zz_u237_0) zz_u237_1) zz_u237_2) zz_u237_3) zz_u237_4) (Nat.le_of_ble_eq_true rfl)
set_option maxRecDepth 100000 in
set_option maxHeartbeats 4000000 in
theorem zz_u238_0 : zz_okU 238 0 = true := by decide +kernel
set_option maxRecDepth 100000 in
set_option maxHeartbeats 4000000 in
theorem zz_u238_1 : zz_okU 238 1 = true := by decide +kernel
set_option maxRecDepth 100000 in
set_option maxHeartbeats 4000000 in
theorem zz_u238_2 : zz_okU 238 2 = true := by decide +kernel
set_option maxRecDepth 100000 in
set_option maxHeartbeats 4000000 in
theorem zz_u238_3 : zz_okU 238 3 = true := by decide +kernel
theorem zz_v238 : zz_vv 238 := zz_okU_all (n := 4) (lt_s (lt_s (lt_s (lt_s (lt_0) zz_u238_0) zz_u238_1) zz_u238_2) zz_u238_3) (Nat.le_of_ble_eq_true rfl)
set_option maxRecDepth 100000 in
set_option maxHeartbeats 4000000 in
theorem zz_u239_0 : zz_okU 239 0 = true := by decide +kernel
theorem zz_v239 : zz_vv 239 := zz_okU_all (n := 1) (lt_s (lt_0) zz_u239_0) (Nat.le_of_ble_eq_true rfl)
set_option maxRecDepth 100000 in
set_option maxHeartbeats 4000000 in
theorem zz_u240_0 : zz_okU 240 0 = true := by decide +kernel
set_option maxRecDepth 100000 in
set_option maxHeartbeats 4000000 in
theorem zz_u240_1 : zz_okU 240 1 = true := by decide +kernel
set_option maxRecDepth 100000 in
set_option maxHeartbeats 4000000 in
theorem zz_u240_2 : zz_okU 240 2 = true := by decide +kernel
theorem zz_v240 : zz_vv 240 := zz_okU_all (n := 3) (lt_s (lt_s (lt_s (lt_0) zz_u240_0) zz_u240_1) zz_u240_2) (Nat.le_of_ble_eq_true rfl)
set_option maxRecDepth 100000 in
set_option maxHeartbeats 4000000 in
theorem zz_u241_0 : zz_okU 241 0 = true := by decide +kernel
set_option maxRecDepth 100000 in
set_option maxHeartbeats 4000000 in
theorem zz_u241_1 : zz_okU 241 1 = true := by decide +kernel
set_option maxRecDepth 100000 in
set_option maxHeartbeats 4000000 in
theorem zz_u241_2 : zz_okU 241 2 = true := by decide +kernel
theorem zz_v241 : zz_vv 241 := zz_okU_all (n := 3) (lt_s (lt_s (lt_s (lt_0) zz_u241_0) zz_u241_1) zz_u241_2) (Nat.le_of_ble_eq_true rfl)
set_option maxRecDepth 100000 in
set_option maxHeartbeats 4000000 in
theorem zz_u242_0 : zz_okU 242 0 = true := by decide +kernel
set_option maxRecDepth 100000 in
set_option maxHeartbeats 4000000 in
theorem zz_u242_1 : zz_okU 242 1 = true := by decide +kernel
theorem zz_v242 : zz_vv 242 := zz_okU_all (n := 2) (lt_s (lt_s (lt_0) zz_u242_0) zz_u242_1) (Nat.le_of_ble_eq_true rfl)
set_option maxRecDepth 100000 in
set_option maxHeartbeats 4000000 in
theorem zz_u243_0 : zz_okU 243 0 = true := by decide +kernel
set_option maxRecDepth 100000 in
set_option maxHeartbeats 4000000 in
theorem zz_u243_1 : zz_okU 243 1 = true := by decide +kernel
set_option maxRecDepth 100000 in
set_option maxHeartbeats 4000000 in
theorem zz_u243_2 : zz_okU 243 2 = true := by decide +kernel
set_option maxRecDepth 100000 in
set_option maxHeartbeats 4000000 in
theorem zz_u243_3 : zz_okU 243 3 = true := by decide +kernel
set_option maxRecDepth 100000 in
set_option maxHeartbeats 4000000 in
theorem zz_u243_4 : zz_okU 243 4 = true := by decide +kernel
theorem zz_v243 : zz_vv 243 := zz_okU_all (n := 5) (lt_s (lt_s (lt_s (lt_s (lt_s (lt_0) zz_u243_0) zz_u243_1) zz_u243_2) zz_u243_3) zz_u243_4) (Nat.le_of_ble_eq_true rfl)
set_option maxRecDepth 100000 in
set_option maxHeartbeats 4000000 in
theorem zz_u244_0 : zz_okU 244 0 = true := by decide +kernel
set_option maxRecDepth 100000 in
set_option maxHeartbeats 4000000 in
theorem zz_u244_1 : zz_okU 244 1 = true := by decide +kernel
set_option maxRecDepth 100000 in
set_option maxHeartbeats 4000000 in
theorem zz_u244_2 : zz_okU 244 2 = true := by decide +kernel
theorem zz_v244 : zz_vv 244 := zz_okU_all (n := 3) (lt_s (lt_s (lt_s (lt_0) zz_u244_0) zz_u244_1) zz_u244_2) (Nat.le_of_ble_eq_true rfl)
set_option maxRecDepth 100000 in
set_option maxHeartbeats 4000000 in
theorem zz_u245_0 : zz_okU 245 0 = true := by decide +kernel
set_option maxRecDepth 100000 in
set_option maxHeartbeats 4000000 in
theorem zz_u245_1 : zz_okU 245 1 = true := by decide +kernel
set_option maxRecDepth 100000 in
set_option maxHeartbeats 4000000 in
theorem zz_u245_2 : zz_okU 245 2 = true := by decide +kernel
set_option maxRecDepth 100000 in
set_option maxHeartbeats 4000000 in
theorem zz_u245_3 : zz_okU 245 3 = true := by decide +kernel
theorem zz_v245 : zz_vv 245 := zz_okU_all (n := 4) (lt_s (lt_s (lt_s (lt_s (lt_0) zz_u245_0) zz_u245_1) zz_u245_2) zz_u245_3) (Nat.le_of_ble_eq_true rfl)
set_option maxRecDepth 100000 in
set_option maxHeartbeats 4000000 in
theorem zz_u246_0 : zz_okU 246 0 = true := by decide +kernel
set_option maxRecDepth 100000 in
set_option maxHeartbeats 4000000 in
theorem zz_u246_1 : zz_okU 246 1 = true := by decide +kernel
set_option maxRecDepth 100000 in
set_option maxHeartbeats 4000000 in
theorem zz_u246_2 : zz_okU 246 2 = true := by decide +kernel
theorem zz_v246 : zz_vv 246 := zz_okU_all (n := 3) (lt_s (lt_s (lt_s (lt_0) zz_u246_0) zz_u246_1) zz_u246_2) (Nat.le_of_ble_eq_true rfl)
set_option maxRecDepth 100000 in
set_option maxHeartbeats 4000000 in
theorem zz_u247_0 : zz_okU 247 0 = true := by decide +kernel
set_option maxRecDepth 100000 in
set_option maxHeartbeats 4000000 in
theorem zz_u247_1 : zz_okU 247 1 = true := by decide +kernel
set_option maxRecDepth 100000 in
set_option maxHeartbeats 4000000 in
theorem zz_u247_2 : zz_okU 247 2 = true := by decide +kernel
set_option maxRecDepth 100000 in
set_option maxHeartbeats 4000000 in
theorem zz_u247_3 : zz_okU 247 3 = true := by decide +kernel
theorem zz_v247 : zz_vv 247 := zz_okU_all (n := 4) (lt_s (lt_s (lt_s (lt_s (lt_0) zz_u247_0) zz_u247_1) zz_u247_2) zz_u247_3) (Nat.le_of_ble_eq_true rfl)
set_option maxRecDepth 100000 in
set_option maxHeartbeats 4000000 in
theorem zz_u248_0 : zz_okU 248 0 = true := by decide +kernel
set_option maxRecDepth 100000 in
set_option maxHeartbeats 4000000 in
theorem zz_u248_1 : zz_okU 248 1 = true := by decide +kernel
set_option maxRecDepth 100000 in
set_option maxHeartbeats 4000000 in
theorem zz_u248_2 : zz_okU 248 2 = true := by decide +kernel
set_option maxRecDepth 100000 in
set_option maxHeartbeats 4000000 in
theorem zz_u248_3 : zz_okU 248 3 = true := by decide +kernel
theorem zz_v248 : zz_vv 248 := zz_okU_all (n := 4) (lt_s (lt_s (lt_s (lt_s (lt_0) zz_u248_0) zz_u248_1) zz_u248_2) zz_u248_3) (Nat.le_of_ble_eq_true rfl)
set_option maxRecDepth 100000 in
set_option maxHeartbeats 4000000 in
theorem zz_u249_0 : zz_okU 249 0 = true := by decide +kernel
set_option maxRecDepth 100000 in
set_option maxHeartbeats 4000000 in
theorem zz_u249_1 : zz_okU 249 1 = true := by decide +kernel
theorem zz_v249 : zz_vv 249 := zz_okU_all (n := 2) (lt_s (lt_s (lt_0) zz_u249_0) zz_u249_1) (Nat.le_of_ble_eq_true rfl)
set_option maxRecDepth 100000 in
set_option maxHeartbeats 4000000 in
theorem zz_u250_0 : zz_okU 250 0 = true := by decide +kernel
set_option maxRecDepth 100000 in
set_option maxHeartbeats 4000000 in
theorem zz_u250_1 : zz_okU 250 1 = true := by decide +kernel
set_option maxRecDepth 100000 in
set_option maxHeartbeats 4000000 in
theorem zz_u250_2 : zz_okU 250 2 = true := by decide +kernel
theorem zz_v250 : zz_vv 250 := zz_okU_all (n := 3) (lt_s (lt_s (lt_s (lt_0) zz_u250_0) zz_u250_1) zz_u250_2) (Nat.le_of_ble_eq_true rfl)
set_option maxRecDepth 100000 in
set_option maxHeartbeats 4000000 in
theorem zz_u251_0 : zz_okU 251 0 = true := by decide +kernel
set_option maxRecDepth 100000 in
set_option maxHeartbeats 4000000 in
theorem zz_u251_1 : zz_okU 251 1 = true := by decide +kernel
set_option maxRecDepth 100000 in
set_option maxHeartbeats 4000000 in
theorem zz_u251_2 : zz_okU 251 2 = true := by decide +kernel
theorem zz_v251 : zz_vv 251 := zz_okU_all (n := 3) (lt_s (lt_s (lt_s (lt_0) zz_u251_0) zz_u251_1) zz_u251_2) (Nat.le_of_ble_eq_true rfl)
set_option maxRecDepth 100000 in
set_option maxHeartbeats 4000000 in
theorem zz_u252_0 : zz_okU 252 0 = true := by decide +kernel
set_option maxRecDepth 100000 in
set_option maxHeartbeats 4000000 in
theorem zz_u252_1 : zz_okU 252 1 = true := by decide +kernel
set_option maxRecDepth 100000 in
set_option maxHeartbeats 4000000 in
theorem zz_u252_2 : zz_okU 252 2 = true := by decide +kernel
set_option maxRecDepth 100000 in
set_option maxHeartbeats 4000000 in
theorem zz_u252_3 : zz_okU 252 3 = true := by decide +kernel
theorem zz_v252 : zz_vv 252 := zz_okU_all (n := 4) (lt_s (lt_s (lt_s (lt_s (lt_0) zz_u252_0) zz_u252_1) zz_u252_2) zz_u252_3) (Nat.le_of_ble_eq_true rfl)
set_option maxRecDepth 100000 in
set_option maxHeartbeats 4000000 in
theorem zz_u253_0 : zz_okU 253 0 = true := by decide +kernel
set_option maxRecDepth 100000 in
set_option maxHeartbeats 4000000 in
theorem zz_u253_1 : zz_okU 253 1 = true := by decide +kernel
theorem zz_v253 : zz_vv 253 := zz_okU_all (n := 2) (lt_s (lt_s (lt_0) zz_u253_0) zz_u253_1) (Nat.le_of_ble_eq_true rfl)
set_option maxRecDepth 100000 in
set_option maxHeartbeats 4000000 in
theorem zz_u254_0 : zz_okU 254 0 = true := by decide +kernel
theorem zz_v254 : zz_vv 254 := zz_okU_all (n := 1) (lt_s (lt_0) zz_u254_0) (Nat.le_of_ble_eq_true rfl)
set_option maxRecDepth 100000 in
set_option maxHeartbeats 4000000 in
theorem zz_u255_0 : zz_okU 255 0 = true := by decide +kernel
theorem zz_v255 : zz_vv 255 := zz_okU_all (n := 1) (lt_s (lt_0) zz_u255_0) (Nat.le_of_ble_eq_true rfl)
set_option maxRecDepth 100000 in
set_option maxHeartbeats 4000000 in
theorem zz_u256_0 : zz_okU 256 0 = true := by decide +kernel
theorem zz_v256 : zz_vv 256 := zz_okU_all (n := 1) (lt_s (lt_0) zz_u256_0) (Nat.le_of_ble_eq_true rfl)
set_option maxRecDepth 100000 in
set_option maxHeartbeats 4000000 in
theorem zz_u257_0 : zz_okU 257 0 = true := by decide +kernel
set_option maxRecDepth 100000 in
set_option maxHeartbeats 4000000 in
theorem zz_u257_1 : zz_okU 257 1 = true := by decide +kernel
set_option maxRecDepth 100000 in
set_option maxHeartbeats 4000000 in
theorem zz_u257_2 : zz_okU 257 2 = true := by decide +kernel
set_option maxRecDepth 100000 in
set_option maxHeartbeats 4000000 in
theorem zz_u257_3 : zz_okU 257 3 = true := by decide +kernel
set_option maxRecDepth 100000 in
set_option maxHeartbeats 4000000 in
theorem zz_u257_4 : zz_okU 257 4 = true := by decide +kernel
set_option maxRecDepth 100000 in
set_option maxHeartbeats 4000000 in
theorem zz_u257_5 : zz_okU 257 5 = true := by decide +kernel
theorem zz_v257 : zz_vv 257 := zz_okU_all (n := 6) (lt_s (lt_s (lt_s (lt_s (lt_s (lt_s (lt_0) zz_u257_0) zz_u257_1) zz_u257_2) zz_u257_3) zz_u257_4) zz_u257_5) (Nat.le_of_ble_eq_true rfl)
set_option maxRecDepth 100000 in
set_option maxHeartbeats 4000000 in
theorem zz_u258_0 : zz_okU 258 0 = true := by decide +kernel
theorem zz_v258 : zz_vv 258 := zz_okU_all (n := 1) (lt_s (lt_0) zz_u258_0) (Nat.le_of_ble_eq_true rfl)
set_option maxRecDepth 100000 in
set_option maxHeartbeats 4000000 in
theorem zz_u259_0 : zz_okU 259 0 = true := by decide +kernel
set_option maxRecDepth 100000 in
set_option maxHeartbeats 4000000 in
theorem zz_u259_1 : zz_okU 259 1 = true := by decide +kernel
set_option maxRecDepth 100000 in
set_option maxHeartbeats 4000000 in
theorem zz_u259_2 : zz_okU 259 2 = true := by decide +kernel
theorem zz_v259 : zz_vv 259 := zz_okU_all (n := 3) (lt_s (lt_s (lt_s (lt_0) zz_u259_0) zz_u259_1) zz_u259_2) (Nat.le_of_ble_eq_true rfl)
set_option maxRecDepth 100000 in
set_option maxHeartbeats 4000000 in
theorem zz_u260_0 : zz_okU 260 0 = true := by decide +kernel
set_option maxRecDepth 100000 in
set_option maxHeartbeats 4000000 in
theorem zz_u260_1 : zz_okU 260 1 = true := by decide +kernel
set_option maxRecDepth 100000 in
set_option maxHeartbeats 4000000 in
theorem zz_u260_2 : zz_okU 260 2 = true := by decide +kernel
theorem zz_v260 : zz_vv 260 := zz_okU_all (n := 3) (lt_s (lt_s (lt_s (lt_0) zz_u260_0) zz_u260_1) zz_u260_2) (Nat.le_of_ble_eq_true rfl)
set_option maxRecDepth 100000 in
set_option maxHeartbeats 4000000 in
theorem zz_u261_0 : zz_okU 261 0 = true := by decide +kernel
set_option maxRecDepth 100000 in
set_option maxHeartbeats 4000000 in
theorem zz_u261_1 : zz_okU 261 1 = true := by decide +kernel
set_option maxRecDepth 100000 in
set_option maxHeartbeats 4000000 in
theorem zz_u261_2 : zz_okU 261 2 = true := by decide +kernel
set_option maxRecDepth 100000 in
set_option maxHeartbeats 4000000 in
theorem zz_u261_3 : zz_okU 261 3 = true := by decide +kernel
theorem zz_v261 : zz_vv 261 := zz_okU_all (n := 4) (lt_s (lt_s (lt_s (lt_s (lt_0) zz_u261_0) zz_u261_1) zz_u261_2) zz_u261_3) (Nat.le_of_ble_eq_true rfl)
set_option maxRecDepth 100000 in
set_option maxHeartbeats 4000000 in
theorem zz_u262_0 : zz_okU 262 0 = true := by decide +kernel
theorem zz_v262 : zz_vv 262 := zz_okU_all (n := 1) (lt_s (lt_0) zz_u262_0) (Nat.le_of_ble_eq_true rfl)
set_option maxRecDepth 100000 in
set_option maxHeartbeats 4000000 in
theorem zz_u263_0 : zz_okU 263 0 = true := by decide +kernel
set_option maxRecDepth 100000 in
set_option maxHeartbeats 4000000 in
theorem zz_u263_1 : zz_okU 263 1 = true := by decide +kernel
set_option maxRecDepth 100000 in
set_option maxHeartbeats 4000000 in
theorem zz_u263_2 : zz_okU 263 2 = true := by decide +kernel
set_option maxRecDepth 100000 in
set_option maxHeartbeats 4000000 in
theorem zz_u263_3 : zz_okU 263 3 = true := by decide +kernel
set_option maxRecDepth 100000 in
set_option maxHeartbeats 4000000 in
theorem zz_u263_4 : zz_okU 263 4 = true := by decide +kernel
theorem zz_v263 : zz_vv 263 := zz_okU_all (n := 5) (lt_s (lt_s (lt_s (lt_s (lt_s (lt_0) zz_u263_0) zz_u263_1) zz_u263_2) zz_u263_3) zz_u263_4) (Nat.le_of_ble_eq_true rfl)
set_option maxRecDepth 100000 in
set_option maxHeartbeats 4000000 in
theorem zz_u264_0 : zz_okU 264 0 = true := by decide +kernel
theorem zz_v264 : zz_vv 264 := zz_okU_all (n := 1) (lt_s (lt_0) zz_u264_0) (Nat.le_of_ble_eq_true rfl)
set_option maxRecDepth 100000 in
set_option maxHeartbeats 4000000 in
theorem zz_u265_0 : zz_okU 265 0 = true := by decide +kernel
set_option maxRecDepth 100000 in
set_option maxHeartbeats 4000000 in
theorem zz_u265_1 : zz_okU 265 1 = true := by decide +kernel
theorem zz_v265 : zz_vv 265 := zz_okU_all (n := 2) (lt_s (lt_s (lt_0) zz_u265_0) zz_u265_1) (Nat.le_of_ble_eq_true rfl)
set_option maxRecDepth 100000 in
set_option maxHeartbeats 4000000 in
theorem zz_u266_0 : zz_okU 266 0 = true := by decide +kernel
theorem zz_v266 : zz_vv 266 := zz_okU_all (n := 1) (lt_s (lt_0) zz_u266_0) (Nat.le_of_ble_eq_true rfl)
set_option maxRecDepth 100000 in
set_option maxHeartbeats 4000000 in
theorem zz_u267_0 : zz_okU 267 0 = true := by decide +kernel
set_option maxRecDepth 100000 in
set_option maxHeartbeats 4000000 in
theorem zz_u267_1 : zz_okU 267 1 = true := by decide +kernel
theorem zz_v267 : zz_vv 267 := zz_okU_all (n := 2) (lt_s (lt_s (lt_0) zz_u267_0) zz_u267_1) (Nat.le_of_ble_eq_true rfl)
set_option maxRecDepth 100000 in
set_option maxHeartbeats 4000000 in
theorem zz_u268_0 : zz_okU 268 0 = true := by decide +kernel
set_option maxRecDepth 100000 in
set_option maxHeartbeats 4000000 in
theorem zz_u268_1 : zz_okU 268 1 = true := by decide +kernel
set_option maxRecDepth 100000 in
set_option maxHeartbeats 4000000 in
theorem zz_u268_2 : zz_okU 268 2 = true := by decide +kernel
theorem zz_v268 : zz_vv 268 := zz_okU_all (n := 3) (lt_s (lt_s (lt_s (lt_0) zz_u268_0) zz_u268_1) zz_u268_2) (Nat.le_of_ble_eq_true rfl)
set_option maxRecDepth 100000 in
set_option maxHeartbeats 4000000 in
theorem zz_u269_0 : zz_okU 269 0 = true := by decide +kernel
theorem zz_v269 : zz_vv 269 := zz_okU_all (n := 1) (lt_s (lt_0) zz_u269_0) (Nat.le_of_ble_eq_true rfl)
theorem zz_vs30 : ∀ a, a < 30 → zz_vv a := lt_s (lt_s (lt_s (lt_s (lt_s (lt_s (lt_s (lt_s (lt_s (lt_s (lt_s (lt_s (lt_s (lt_s (lt_s (lt_s (lt_s (lt_s (lt_s (lt_s (lt_s (lt_s (lt_s (lt_s (lt_s (lt_s (lt_s (lt_s (lt_s (lt_s (lt_0) zz_v0) zz_v1) zz_v2) zz_v3) zz_v4) zz_v5) zz_v6) zz_v7) zz_v8) zz_v9) zz_v10) zz_v11) zz_v12) zz_v13) zz_v14) zz_v15) zz_v16) zz_v17) zz_v18) zz_v19) zz_v20) zz_v21) zz_v22) zz_v23) zz_v24) zz_v25) zz_v26) zz_v27) zz_v28) zz_v29
theorem zz_vs60 : ∀ a, a < 60 → zz_vv a := lt_s (lt_s (lt_s (lt_s (lt_s (lt_s (lt_s (lt_s (lt_s (lt_s (lt_s (lt_s (lt_s (lt_s (lt_s (lt_s (lt_s (lt_s (lt_s (lt_s (lt_s (lt_s (lt_s (lt_s (lt_s (lt_s (lt_s (lt_s (lt_s (lt_s (zz_vs30) zz_v30) zz_v31) zz_v32) zz_v33) zz_v34) zz_v35) zz_v36) zz_v37) zz_v38) zz_v39) zz_v40) zz_v41) zz_v42) zz_v43) zz_v44) zz_v45) zz_v46) zz_v47) zz_v48) zz_v49) zz_v50) zz_v51) zz_v52) zz_v53) zz_v54) zz_v55) zz_v56) zz_v57) zz_v58) zz_v59
theorem zz_vs90 : ∀ a, a < 90 → zz_vv a := lt_s (lt_s (lt_s (lt_s (lt_s (lt_s (lt_s (lt_s (lt_s (lt_s (lt_s (lt_s (lt_s (lt_s (lt_s (lt_s (lt_s (lt_s (lt_s (lt_s (lt_s (lt_s (lt_s (lt_s (lt_s (lt_s (lt_s (lt_s (lt_s (lt_s (zz_vs60) zz_v60) zz_v61) zz_v62) zz_v63) zz_v64) zz_v65) zz_v66) zz_v67) zz_v68) zz_v69) zz_v70) zz_v71) zz_v72) zz_v73) zz_v74) zz_v75) zz_v76) zz_v77) zz_v78) zz_v79) zz_v80) zz_v81) zz_v82) zz_v83) zz_v84) zz_v85) zz_v86) zz_v87) zz_v88) zz_v89
theorem zz_vs120 : ∀ a, a < 120 → zz_vv a := lt_s (lt_s (lt_s (lt_s (lt_s (lt_s (lt_s (lt_s (lt_s (lt_s (lt_s (lt_s (lt_s (lt_s (lt_s (lt_s (lt_s (lt_s (lt_s (lt_s (lt_s (lt_s (lt_s (lt_s (lt_s (lt_s (lt_s (lt_s (lt_s (lt_s (zz_vs90) zz_v90) zz_v91) zz_v92) zz_v93) zz_v94) zz_v95) zz_v96) zz_v97) zz_v98) zz_v99) zz_v100) zz_v101) zz_v102) zz_v103) zz_v104) zz_v105) zz_v106) zz_v107) zz_v108) zz_v109) zz_v110) zz_v111) zz_v112) zz_v113) zz_v114) zz_v115) zz_v116) zz_v117) zz_v118) zz_v119
theorem zz_vs150 : ∀ a, a < 150 → zz_vv a := lt_s (lt_s (lt_s (lt_s (lt_s (lt_s (lt_s (lt_s (lt_s (lt_s (lt_s (lt_s (lt_s (lt_s (lt_s (lt_s (lt_s (lt_s (lt_s (lt_s (lt_s (lt_s (lt_s (lt_s (lt_s (lt_s (lt_s (lt_s (lt_s (lt_s (zz_vs120) zz_v120) zz_v121) zz_v122) zz_v123) zz_v124) zz_v125) zz_v126) zz_v127) zz_v128) zz_v129) zz_v130) zz_v131) zz_v132) zz_v133) zz_v134) zz_v135) zz_v136) zz_v137) zz_v138) zz_v139) zz_v140) zz_v141) zz_v142) zz_v143) zz_v144) zz_v145) zz_v146) zz_v147) zz_v148) zz_v149
theorem zz_vs180 : ∀ a, a < 180 → zz_vv a := lt_s (lt_s (lt_s (lt_s (lt_s (lt_s (lt_s (lt_s (lt_s (lt_s (lt_s (lt_s (lt_s (lt_s (lt_s (lt_s (lt_s (lt_s (lt_s (lt_s (lt_s (lt_s (lt_s (lt_s (lt_s (lt_s (lt_s (lt_s (lt_s (lt_s (zz_vs150) zz_v150) zz_v151) zz_v152) zz_v153) zz_v154) zz_v155) zz_v156) zz_v157) zz_v158) zz_v159) zz_v160) zz_v161) zz_v162) zz_v163) zz_v164) zz_v165) zz_v166) zz_v167) zz_v168) zz_v169) zz_v170) zz_v171) zz_v172) zz_v173) zz_v174) zz_v175) zz_v176) zz_v177) zz_v178) zz_v179
theorem zz_vs210 : ∀ a, a < 210 → zz_vv a := lt_s (lt_s (lt_s (lt_s (lt_s (lt_s (lt_s (lt_s (lt_s (lt_s (lt_s (lt_s (lt_s (lt_s (lt_s (lt_s (lt_s (lt_s (lt_s (lt_s (lt_s (lt_s (lt_s (lt_s (lt_s (lt_s (lt_s (lt_s (lt_s (lt_s (zz_vs180) zz_v180) zz_v181) zz_v182) zz_v183) zz_v184) zz_v185) zz_v186) zz_v187) zz_v188) zz_v189) zz_v190) zz_v191) zz_v192) zz_v193) zz_v194) zz_v195) zz_v196) zz_v197) zz_v198) zz_v199) zz_v200) zz_v201) zz_v202) zz_v203) zz_v204) zz_v205) zz_v206) zz_v207) zz_v208) zz_v209
theorem zz_vs240 : ∀ a, a < 240 → zz_vv a := lt_s (lt_s (lt_s (lt_s (lt_s (lt_s (lt_s (lt_s (lt_s (lt_s (lt_s (lt_s (lt_s (lt_s (lt_s (lt_s (lt_s (lt_s (lt_s (lt_s (lt_s (lt_s (lt_s (lt_s (lt_s (lt_s (lt_s (lt_s (lt_s (lt_s (zz_vs210) zz_v210) zz_v211) zz_v212) zz_v213) zz_v214) zz_v215) zz_v216) zz_v217) zz_v218) zz_v219) zz_v220) zz_v221) zz_v222) zz_v223) zz_v224) zz_v225) zz_v226) zz_v227) zz_v228) zz_v229) zz_v230) zz_v231) zz_v232) zz_v233) zz_v234) zz_v235) zz_v236) zz_v237) zz_v238) zz_v239
theorem zz_vs270 : ∀ a, a < 270 → zz_vv a := lt_s (lt_s (lt_s (lt_s (lt_s (lt_s (lt_s (lt_s (lt_s (lt_s (lt_s (lt_s (lt_s (lt_s (lt_s (lt_s (lt_s (lt_s (lt_s (lt_s (lt_s (lt_s (lt_s (lt_s (lt_s (lt_s (lt_s (lt_s (lt_s (lt_s (zz_vs240) zz_v240) zz_v241) zz_v242) zz_v243) zz_v244) zz_v245) zz_v246) zz_v247) zz_v248) zz_v249) zz_v250) zz_v251) zz_v252) zz_v253) zz_v254) zz_v255) zz_v256) zz_v257) zz_v258) zz_v259) zz_v260) zz_v261) zz_v262) zz_v263) zz_v264) zz_v265) zz_v266) zz_v267) zz_v268) zz_v269
theorem zz_ok {m q : Nat} {e : zz_I} (hm : m < zz_nm) (he : zz_T m q = some e) : zz_okI m q e = true := zz_vs270 m hm q e he
