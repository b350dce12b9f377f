/-! each instruction: forty places at a time -/
set_option maxRecDepth 100000 in
set_option maxHeartbeats 4000000 in
theorem zz_u0_0 : zz_okU 0 0 = true := by decide +kernel
set_option maxRecDepth 100000 in
set_option maxHeartbeats 4000000 in
theorem zz_u0_1 : zz_okU 0 1 = true := by decide +kernel
set_option maxRecDepth 100000 in
set_option maxHeartbeats 4000000 in
theorem zz_u0_2 : zz_okU 0 2 = true := by decide +kernel
set_option maxRecDepth 100000 in
set_option maxHeartbeats 4000000 in
theorem zz_u0_3 : zz_okU 0 3 = true := by decide +kernel
set_option maxRecDepth 100000 in
set_option maxHeartbeats 4000000 in
theorem zz_u0_4 : zz_okU 0 4 = true := by decide +kernel
set_option maxRecDepth 100000 in
set_option maxHeartbeats 4000000 in
theorem zz_u0_5 : zz_okU 0 5 = true := by decide +kernel
set_option maxRecDepth 100000 in
set_option maxHeartbeats 4000000 in
theorem zz_u0_6 : zz_okU 0 6 = true := by decide +kernel
set_option maxRecDepth 100000 in
set_option maxHeartbeats 4000000 in
theorem zz_u0_7 : zz_okU 0 7 = true := by decide +kernel
set_option maxRecDepth 100000 in
set_option maxHeartbeats 4000000 in
theorem zz_u0_8 : zz_okU 0 8 = true := by decide +kernel
set_option maxRecDepth 100000 in
set_option maxHeartbeats 4000000 in
theorem zz_u0_9 : zz_okU 0 9 = true := by decide +kernel
set_option maxRecDepth 100000 in
set_option maxHeartbeats 4000000 in
theorem zz_u0_10 : zz_okU 0 10 = true := by decide +kernel
set_option maxRecDepth 100000 in
set_option maxHeartbeats 4000000 in
theorem zz_u0_11 : zz_okU 0 11 = true := by decide +kernel
set_option maxRecDepth 100000 in
set_option maxHeartbeats 4000000 in
theorem zz_u0_12 : zz_okU 0 12 = true := by decide +kernel
set_option maxRecDepth 100000 in
set_option maxHeartbeats 4000000 in
theorem zz_u0_13 : zz_okU 0 13 = true := by decide +kernel
set_option maxRecDepth 100000 in
set_option maxHeartbeats 4000000 in
theorem zz_u0_14 : zz_okU 0 14 = true := by decide +kernel
set_option maxRecDepth 100000 in
set_option maxHeartbeats 4000000 in
theorem zz_u0_15 : zz_okU 0 15 = true := by decide +kernel
set_option maxRecDepth 100000 in
set_option maxHeartbeats 4000000 in
theorem zz_u0_16 : zz_okU 0 16 = true := by decide +kernel
set_option maxRecDepth 100000 in
set_option maxHeartbeats 4000000 in
theorem zz_u0_17 : zz_okU 0 17 = true := by decide +kernel
set_option maxRecDepth 100000 in
set_option maxHeartbeats 4000000 in
theorem zz_u0_18 : zz_okU 0 18 = true := by decide +kernel
set_option maxRecDepth 100000 in
set_option maxHeartbeats 4000000 in
theorem zz_u0_19 : zz_okU 0 19 = true := by decide +kernel
set_option maxRecDepth 100000 in
set_option maxHeartbeats 4000000 in
theorem zz_u0_20 : zz_okU 0 20 = true := by decide +kernel
set_option maxRecDepth 100000 in
set_option maxHeartbeats 4000000 in
theorem zz_u0_21 : zz_okU 0 21 = true := by decide +kernel
set_option maxRecDepth 100000 in
set_option maxHeartbeats 4000000 in
theorem zz_u0_22 : zz_okU 0 22 = true := by decide +kernel
set_option maxRecDepth 100000 in
set_option maxHeartbeats 4000000 in
theorem zz_u0_23 : zz_okU 0 23 = true := by decide +kernel
set_option maxRecDepth 100000 in
set_option maxHeartbeats 4000000 in
theorem zz_u0_24 : zz_okU 0 24 = true := by decide +kernel
set_option maxRecDepth 100000 in
set_option maxHeartbeats 4000000 in
theorem zz_u0_25 : zz_okU 0 25 = true := by decide +kernel
set_option maxRecDepth 100000 in
set_option maxHeartbeats 4000000 in
theorem zz_u0_26 : zz_okU 0 26 = true := by decide +kernel
set_option maxRecDepth 100000 in
set_option maxHeartbeats 4000000 in
theorem zz_u0_27 : zz_okU 0 27 = true := by decide +kernel
set_option maxRecDepth 100000 in
set_option maxHeartbeats 4000000 in
theorem zz_u0_28 : zz_okU 0 28 = true := by decide +kernel
set_option maxRecDepth 100000 in
set_option maxHeartbeats 4000000 in
theorem zz_u0_29 : zz_okU 0 29 = true := by decide +kernel
set_option maxRecDepth 100000 in
set_option maxHeartbeats 4000000 in
theorem zz_u0_30 : zz_okU 0 30 = true := by decide +kernel
set_option maxRecDepth 100000 in
set_option maxHeartbeats 4000000 in
theorem zz_u0_31 : zz_okU 0 31 = true := by decide +kernel
set_option maxRecDepth 100000 in
set_option maxHeartbeats 4000000 in
theorem zz_u0_32 : zz_okU 0 32 = true := by decide +kernel
set_option maxRecDepth 100000 in
set_option maxHeartbeats 4000000 in
theorem zz_u0_33 : zz_okU 0 33 = true := by decide +kernel
set_option maxRecDepth 100000 in
set_option maxHeartbeats 4000000 in
theorem zz_u0_34 : zz_okU 0 34 = true := by decide +kernel
set_option maxRecDepth 100000 in
set_option maxHeartbeats 4000000 in
theorem zz_u0_35 : zz_okU 0 35 = true := by decide +kernel
set_option maxRecDepth 100000 in
set_option maxHeartbeats 4000000 in
theorem zz_u0_36 : zz_okU 0 36 = true := by decide +kernel
set_option maxRecDepth 100000 in
set_option maxHeartbeats 4000000 in
theorem zz_u0_37 : zz_okU 0 37 = true := by decide +kernel
set_option maxRecDepth 100000 in
set_option maxHeartbeats 4000000 in
theorem zz_u0_38 : zz_okU 0 38 = true := by decide +kernel
set_option maxRecDepth 100000 in
set_option maxHeartbeats 4000000 in
theorem zz_u0_39 : zz_okU 0 39 = true := by decide +kernel
set_option maxRecDepth 100000 in
set_option maxHeartbeats 4000000 in
theorem zz_u0_40 : zz_okU 0 40 = true := by decide +kernel
set_option maxRecDepth 100000 in
set_option maxHeartbeats 4000000 in
theorem zz_u0_41 : zz_okU 0 41 = true := by decide +kernel
set_option maxRecDepth 100000 in
set_option maxHeartbeats 4000000 in
theorem zz_u0_42 : zz_okU 0 42 = true := by decide +kernel
set_option maxRecDepth 100000 in
set_option maxHeartbeats 4000000 in
theorem zz_u0_43 : zz_okU 0 43 = true := by decide +kernel
set_option maxRecDepth 100000 in
set_option maxHeartbeats 4000000 in
theorem zz_u0_44 : zz_okU 0 44 = true := by decide +kernel
set_option maxRecDepth 100000 in
set_option maxHeartbeats 4000000 in
theorem zz_u0_45 : zz_okU 0 45 = true := by decide +kernel
set_option maxRecDepth 100000 in
set_option maxHeartbeats 4000000 in
theorem zz_u0_46 : zz_okU 0 46 = true := by decide +kernel
set_option maxRecDepth 100000 in
set_option maxHeartbeats 4000000 in
theorem zz_u0_47 : zz_okU 0 47 = true := by decide +kernel
set_option maxRecDepth 100000 in
set_option maxHeartbeats 4000000 in
theorem zz_u0_48 : zz_okU 0 48 = true := by decide +kernel
set_option maxRecDepth 100000 in
set_option maxHeartbeats 4000000 in
theorem zz_u0_49 : zz_okU 0 49 = true := by decide +kernel
set_option maxRecDepth 100000 in
set_option maxHeartbeats 4000000 in
theorem zz_u0_50 : zz_okU 0 50 = true := by decide +kernel
set_option maxRecDepth 100000 in
set_option maxHeartbeats 4000000 in
theorem zz_u0_51 : zz_okU 0 51 = true := by decide +kernel
set_option maxRecDepth 100000 in
set_option maxHeartbeats 4000000 in
theorem zz_u0_52 : zz_okU 0 52 = true := by decide +kernel
set_option maxRecDepth 100000 in
set_option maxHeartbeats 4000000 in
theorem zz_u0_53 : zz_okU 0 53 = true := by decide +kernel
set_option maxRecDepth 100000 in
set_option maxHeartbeats 4000000 in
theorem zz_u0_54 : zz_okU 0 54 = true := by decide +kernel
set_option maxRecDepth 100000 in
set_option maxHeartbeats 4000000 in
theorem zz_u0_55 : zz_okU 0 55 = true := by decide +kernel
set_option maxRecDepth 100000 in
set_option maxHeartbeats 4000000 in
theorem zz_u0_56 : zz_okU 0 56 = true := by decide +kernel
set_option maxRecDepth 100000 in
set_option maxHeartbeats 4000000 in
theorem zz_u0_57 : zz_okU 0 57 = true := by decide +kernel
set_option maxRecDepth 100000 in
set_option maxHeartbeats 4000000 in
theorem zz_u0_58 : zz_okU 0 58 = true := by decide +kernel
set_option maxRecDepth 100000 in
set_option maxHeartbeats 4000000 in
theorem zz_u0_59 : zz_okU 0 59 = true := by decide +kernel
set_option maxRecDepth 100000 in
set_option maxHeartbeats 4000000 in
theorem zz_u0_60 : zz_okU 0 60 = true := by decide +kernel
set_option maxRecDepth 100000 in
set_option maxHeartbeats 4000000 in
theorem zz_u0_61 : zz_okU 0 61 = true := by decide +kernel
set_option maxRecDepth 100000 in
set_option maxHeartbeats 4000000 in
theorem zz_u0_62 : zz_okU 0 62 = true := by decide +kernel
theorem zz_v0 : zz_vv 0 := zz_okU_all (n := 63) (lt_s (lt_s (lt_s (lt_s (lt_s (lt_s (lt_s (lt_s (lt_s (lt_s (lt_s (lt_s (lt_s (lt_s (lt_s (lt_s (lt_s (lt_s (lt_s (lt_s (lt_s (lt_s (lt_s (lt_s (lt_s (lt_s (lt_s (lt_s (lt_s (lt_s (lt_s (lt_s (lt_s (lt_s (lt_s (lt_s (lt_s (lt_s (lt_s (lt_s (lt_s (lt_s (lt_s (lt_s (lt_s (lt_s (lt_s (lt_s (lt_s (lt_s (lt_s (lt_s (lt_s (lt_s (lt_s (lt_s (lt_s (lt_s (lt_s (lt_s (lt_s (lt_s (lt_s (lt_0) zz_u0_0) zz_u0_1) zz_u0_2) zz_u0_3) zz_u0_4) zz_u0_5) zz_u0_6) zz_u0_7) zz_u0_8) zz_u0_9) zz_u0_10) zz_u0_11) zz_u0_12) zz_u0_13) zz_u0_14) zz_u0_15) zz_u0_16) zz_u0_17) zz_u0_18) zz_u0_19) zz_u0_20) zz_u0_21) zz_u0_22) zz_u0_23) zz_u0_24) zz_u0_25) zz_u0_26) zz_u0_27) zz_u0_28) zz_u0_29) zz_u0_30) zz_u0_31) zz_u0_32) zz_u0_33) zz_u0_34) zz_u0_35) zz_u0_36) zz_u0_37) zz_u0_38) zz_u0_39) zz_u0_40) zz_u0_41) zz_u0_42) zz_u0_43) zz_u0_44) zz_u0_45) zz_u0_46) zz_u0_47) zz_u0_48) zz_u0_49) zz_u0_50) zz_u0_51) zz_u0_52) zz_u0_53) zz_u0_54) zz_u0_55) zz_u0_56) zz_u0_57) zz_u0_58) zz_u0_59) zz_u0_60) zz_u0_61) zz_u0_62) (Nat.le_of_ble_eq_true rfl)
set_option maxRecDepth 100000 in
set_option maxHeartbeats 4000000 in
theorem zz_u1_0 : zz_okU 1 0 = true := by decide +kernel
set_option maxRecDepth 100000 in
set_option maxHeartbeats 4000000 in
theorem zz_u1_1 : zz_okU 1 1 = true := by decide +kernel
set_option maxRecDepth 100000 in
set_option maxHeartbeats 4000000 in
theorem zz_u1_2 : zz_okU 1 2 = true := by decide +kernel
set_option maxRecDepth 100000 in
set_option maxHeartbeats 4000000 in
theorem zz_u1_3 : zz_okU 1 3 = true := by decide +kernel
set_option maxRecDepth 100000 in
set_option maxHeartbeats 4000000 in
theorem zz_u1_4 : zz_okU 1 4 = true := by decide +kernel
theorem zz_v1 : zz_vv 1 := zz_okU_all (n := 5) (lt_s (lt_s (lt_s (lt_s (lt_s (lt_0) zz_u1_0) zz_u1_1) zz_u1_2) zz_u1_3) zz_u1_4) (Nat.le_of_ble_eq_true rfl)
set_option maxRecDepth 100000 in
set_option maxHeartbeats 4000000 in
theorem zz_u2_0 : zz_okU 2 0 = true := by decide +kernel
set_option maxRecDepth 100000 in
set_option maxHeartbeats 4000000 in
theorem zz_u2_1 : zz_okU 2 1 = true := by decide +kernel
theorem zz_v2 : zz_vv 2 := zz_okU_all (n := 2) (lt_s (lt_s (lt_0) zz_u2_0) zz_u2_1) (Nat.le_of_ble_eq_true rfl)
set_option maxRecDepth 100000 in
set_option maxHeartbeats 4000000 in
theorem zz_u3_0 : zz_okU 3 0 = true := by decide +kernel
set_option maxRecDepth 100000 in
set_option maxHeartbeats 4000000 in
theorem zz_u3_1 : zz_okU 3 1 = true := by decide +kernel
theorem zz_v3 : zz_vv 3 := zz_okU_all (n := 2) (lt_s (lt_s (lt_0) zz_u3_0) zz_u3_1) (Nat.le_of_ble_eq_true rfl)
set_option maxRecDepth 100000 in
set_option maxHeartbeats 4000000 in
theorem zz_u4_0 : zz_okU 4 0 = true := by decide +kernel
theorem zz_v4 : zz_vv 4 := zz_okU_all (n := 1) (lt_s (lt_0) zz_u4_0) (Nat.le_of_ble_eq_true rfl)
set_option maxRecDepth 100000 in
set_option maxHeartbeats 4000000 in
theorem zz_u5_0 : zz_okU 5 0 = true := by decide +kernel
set_option maxRecDepth 100000 in
set_option maxHeartbeats 4000000 in
theorem zz_u5_1 : zz_okU 5 1 = true := by decide +kernel
theorem zz_v5 : zz_vv 5 := zz_okU_all (n := 2) (lt_s (lt_s (lt_0) zz_u5_0) zz_u5_1) (Nat.le_of_ble_eq_true rfl)
set_option maxRecDepth 100000 in
set_option maxHeartbeats 4000000 in
theorem zz_u6_0 : zz_okU 6 0 = true := by decide +kernel
theorem zz_v6 : zz_vv 6 := zz_okU_all (n := 1) (lt_s (lt_0) zz_u6_0) (Nat.le_of_ble_eq_true rfl)
set_option maxRecDepth 100000 in
set_option maxHeartbeats 4000000 in
theorem zz_u7_0 : zz_okU 7 0 = true := by decide +kernel
theorem zz_v7 : zz_vv 7 := zz_okU_all (n := 1) (lt_s (lt_0) zz_u7_0) (Nat.le_of_ble_eq_true rfl)
set_option maxRecDepth 100000 in
set_option maxHeartbeats 4000000 in
theorem zz_u8_0 : zz_okU 8 0 = true := by decide +kernel
theorem zz_v8 : zz_vv 8 := zz_okU_all (n := 1) (lt_s (lt_0) zz_u8_0) (Nat.le_of_ble_eq_true rfl)
set_option maxRecDepth 100000 in
set_option maxHeartbeats 4000000 in
theorem zz_u9_0 : zz_okU 9 0 = true := by decide +kernel
theorem zz_v9 : zz_vv 9 := zz_okU_all (n := 1) (lt_s (lt_0) zz_u9_0) (Nat.le_of_ble_eq_true rfl)
set_option maxRecDepth 100000 in
set_option maxHeartbeats 4000000 in
theorem zz_u10_0 : zz_okU 10 0 = true := by decide +kernel
set_option maxRecDepth 100000 in
set_option maxHeartbeats 4000000 in
theorem zz_u10_1 : zz_okU 10 1 = true := by decide +kernel
theorem zz_v10 : zz_vv 10 := zz_okU_all (n := 2) (lt_s (lt_s (lt_0) zz_u10_0) zz_u10_1) (Nat.le_of_ble_eq_true rfl)
set_option maxRecDepth 100000 in
set_option maxHeartbeats 4000000 in
theorem zz_u11_0 : zz_okU 11 0 = true := by decide +kernel
set_option maxRecDepth 100000 in
set_option maxHeartbeats 4000000 in
theorem zz_u11_1 : zz_okU 11 1 = true := by decide +kernel
theorem zz_v11 : zz_vv 11 := zz_okU_all (n := 2) (lt_s (lt_s (lt_0) zz_u11_0) zz_u11_1) (Nat.le_of_ble_eq_true rfl)
set_option maxRecDepth 100000 in
set_option maxHeartbeats 4000000 in
theorem zz_u12_0 : zz_okU 12 0 = true := by decide +kernel
set_option maxRecDepth 100000 in
set_option maxHeartbeats 4000000 in
theorem zz_u12_1 : zz_okU 12 1 = true := by decide +kernel
theorem zz_v12 : zz_vv 12 := zz_okU_all (n := 2) (lt_s (lt_s (lt_0) zz_u12_0) zz_u12_1) (Nat.le_of_ble_eq_true rfl)
set_option maxRecDepth 100000 in
set_option maxHeartbeats 4000000 in
theorem zz_u13_0 : zz_okU 13 0 = true := by decide +kernel
theorem zz_v13 : zz_vv 13 := zz_okU_all (n := 1) (lt_s (lt_0) zz_u13_0) (Nat.le_of_ble_eq_true rfl)
set_option maxRecDepth 100000 in
set_option maxHeartbeats 4000000 in
theorem zz_u14_0 : zz_okU 14 0 = true := by decide +kernel
theorem zz_v14 : zz_vv 14 := zz_okU_all (n := 1) (lt_s (lt_0) zz_u14_0) (Nat.le_of_ble_eq_true rfl)
set_option maxRecDepth 100000 in
set_option maxHeartbeats 4000000 in
theorem zz_u15_0 : zz_okU 15 0 = true := by decide +kernel
set_option maxRecDepth 100000 in
set_option maxHeartbeats 4000000 in
theorem zz_u15_1 : zz_okU 15 1 = true := by decide +kernel
theorem zz_v15 : zz_vv 15 := zz_okU_all (n := 2) (lt_s (lt_s (lt_0) zz_u15_0) zz_u15_1) (Nat.le_of_ble_eq_true rfl)
set_option maxRecDepth 100000 in
set_option maxHeartbeats 4000000 in
theorem zz_u16_0 : zz_okU 16 0 = true := by decide +kernel
set_option maxRecDepth 100000 in
set_option maxHeartbeats 4000000 in
theorem zz_u16_1 : zz_okU 16 1 = true := by decide +kernel
theorem zz_v16 : zz_vv 16 := zz_okU_all (n := 2) (lt_s (lt_s (lt_0) zz_u16_0) zz_u16_1) (Nat.le_of_ble_eq_true rfl)
set_option maxRecDepth 100000 in
set_option maxHeartbeats 4000000 in
theorem zz_u17_0 : zz_okU 17 0 = true := by decide +kernel
set_option maxRecDepth 100000 in
set_option maxHeartbeats 4000000 in
theorem zz_u17_1 : zz_okU 17 1 = true := by decide +kernel
theorem zz_v17 : zz_vv 17 := zz_okU_all (n := 2) (lt_s (lt_s (lt_0) zz_u17_0) zz_u17_1) (Nat.le_of_ble_eq_true rfl)
set_option maxRecDepth 100000 in
set_option maxHeartbeats 4000000 in
theorem zz_u18_0 : zz_okU 18 0 = true := by decide +kernel
set_option maxRecDepth 100000 in
set_option maxHeartbeats 4000000 in
theorem zz_u18_1 : zz_okU 18 1 = true := by decide +kernel
set_option maxRecDepth 100000 in
set_option maxHeartbeats 4000000 in
theorem zz_u18_2 : zz_okU 18 2 = true := by decide +kernel
set_option maxRecDepth 100000 in
set_option maxHeartbeats 4000000 in
theorem zz_u18_3 : zz_okU 18 3 = true := by decide +kernel
theorem zz_v18 : zz_vv 18 := zz_okU_all (n := 4) (lt_s (lt_s (lt_s (lt_s (lt_0) zz_u18_0) zz_u18_1) zz_u18_2) zz_u18_3) (Nat.le_of_ble_eq_true rfl)
set_option maxRecDepth 100000 in
set_option maxHeartbeats 4000000 in
theorem zz_u19_0 : zz_okU 19 0 = true := by decide +kernel
set_option maxRecDepth 100000 in
set_option maxHeartbeats 4000000 in
theorem zz_u19_1 : zz_okU 19 1 = true := by decide +kernel
theorem zz_v19 : zz_vv 19 := zz_okU_all (n := 2) (lt_s (lt_s (lt_0) zz_u19_0) zz_u19_1) (Nat.le_of_ble_eq_true rfl)
set_option maxRecDepth 100000 in
set_option maxHeartbeats 4000000 in
theorem zz_u20_0 : zz_okU 20 0 = true := by decide +kernel
theorem zz_v20 : zz_vv 20 := zz_okU_all (n := 1) (lt_s (lt_0) zz_u20_0) (Nat.le_of_ble_eq_true rfl)
set_option maxRecDepth 100000 in
set_option maxHeartbeats 4000000 in
theorem zz_u21_0 : zz_okU 21 0 = true := by decide +kernel
set_option maxRecDepth 100000 in
set_option maxHeartbeats 4000000 in
theorem zz_u21_1 : zz_okU 21 1 = true := by decide +kernel
theorem zz_v21 : zz_vv 21 := zz_okU_all (n := 2) (lt_s (lt_s (lt_0) zz_u21_0) zz_u21_1) (Nat.le_of_ble_eq_true rfl)
set_option maxRecDepth 100000 in
set_option maxHeartbeats 4000000 in
theorem zz_u22_0 : zz_okU 22 0 = true := by decide +kernel
theorem zz_v22 : zz_vv 22 := zz_okU_all (n := 1) (lt_s (lt_0) zz_u22_0) (Nat.le_of_ble_eq_true rfl)
set_option maxRecDepth 100000 in
set_option maxHeartbeats 4000000 in
theorem zz_u23_0 : zz_okU 23 0 = true := by decide +kernel
set_option maxRecDepth 100000 in
set_option maxHeartbeats 4000000 in
theorem zz_u23_1 : zz_okU 23 1 = true := by decide +kernel
set_option maxRecDepth 100000 in
set_option maxHeartbeats 4000000 in
theorem zz_u23_2 : zz_okU 23 2 = true := by decide +kernel
set_option maxRecDepth 100000 in
set_option maxHeartbeats 4000000 in
theorem zz_u23_3 : zz_okU 23 3 = true := by decide +kernel
theorem zz_v23 : zz_vv 23 := zz_okU_all (n := 4) (lt_s (lt_s (lt_s (lt_s (lt_0) zz_u23_0) zz_u23_1) zz_u23_2) zz_u23_3) (Nat.le_of_ble_eq_true rfl)
set_option maxRecDepth 100000 in
set_option maxHeartbeats 4000000 in
theorem zz_u24_0 : zz_okU 24 0 = true := by decide +kernel
set_option maxRecDepth 100000 in
set_option maxHeartbeats 4000000 in
theorem zz_u24_1 : zz_okU 24 1 = true := by decide +kernel
theorem zz_v24 : zz_vv 24 := zz_okU_all (n := 2) (lt_s (lt_s (lt_0) zz_u24_0) zz_u24_1) (Nat.le_of_ble_eq_true rfl)
set_option maxRecDepth 100000 in
set_option maxHeartbeats 4000000 in
theorem zz_u25_0 : zz_okU 25 0 = true := by decide +kernel
theorem zz_v25 : zz_vv 25 := zz_okU_all (n := 1) (lt_s (lt_0) zz_u25_0) (Nat.le_of_ble_eq_true rfl)
set_option maxRecDepth 100000 in
set_option maxHeartbeats 4000000 in
theorem zz_u26_0 : zz_okU 26 0 = true := by decide +kernel
set_option maxRecDepth 100000 in
set_option maxHeartbeats 4000000 in
theorem zz_u26_1 : zz_okU 26 1 = true := by decide +kernel
set_option maxRecDepth 100000 in
set_option maxHeartbeats 4000000 in
theorem zz_u26_2 : zz_okU 26 2 = true := by decide +kernel
set_option maxRecDepth 100000 in
set_option maxHeartbeats 4000000 in
theorem zz_u26_3 : zz_okU 26 3 = true := by decide +kernel
theorem zz_v26 : zz_vv 26 := zz_okU_all (n := 4) (lt_s (lt_s (lt_s (lt_s (lt_0) zz_u26_0) zz_u26_1) zz_u26_2) zz_u26_3) (Nat.le_of_ble_eq_true rfl)
set_option maxRecDepth 100000 in
set_option maxHeartbeats 4000000 in
theorem zz_u27_0 : zz_okU 27 0 = true := by decide +kernel
theorem zz_v27 : zz_vv 27 := zz_okU_all (n := 1) (lt_s (lt_0) zz_u27_0) (Nat.le_of_ble_eq_true rfl)
set_option maxRecDepth 100000 in
set_option maxHeartbeats 4000000 in
theorem zz_u28_0 : zz_okU 28 0 = true := by decide +kernel
theorem zz_v28 : zz_vv 28 := zz_okU_all (n := 1) (lt_s (lt_0) zz_u28_0) (Nat.le_of_ble_eq_true rfl)
set_option maxRecDepth 100000 in
set_option maxHeartbeats 4000000 in
theorem zz_u29_0 : zz_okU 29 0 = true := by decide +kernel
theorem zz_v29 : zz_vv 29 := zz_okU_all (n := 1) (lt_s (lt_0) zz_u29_0) (Nat.le_of_ble_eq_true rfl)
set_option maxRecDepth 100000 in
set_option maxHeartbeats 4000000 in
theorem zz_u30_0 : zz_okU 30 0 = true := by decide +kernel
theorem zz_v30 : zz_vv 30 := zz_okU_all (n := 1) (lt_s (lt_0) zz_u30_0) (Nat.le_of_ble_eq_true rfl)
set_option maxRecDepth 100000 in
set_option maxHeartbeats 4000000 in
theorem zz_u31_0 : zz_okU 31 0 = true := by decide +kernel
theorem zz_v31 : zz_vv 31 := zz_okU_all (n := 1) (lt_s (lt_0) zz_u31_0) (Nat.le_of_ble_eq_true rfl)
set_option maxRecDepth 100000 in
set_option maxHeartbeats 4000000 in
theorem zz_u32_0 : zz_okU 32 0 = true := by decide +kernel
theorem zz_v32 : zz_vv 32 := zz_okU_all (n := 1) (lt_s (lt_0) zz_u32_0) (Nat.le_of_ble_eq_true rfl)
set_option maxRecDepth 100000 in
set_option maxHeartbeats 4000000 in
theorem zz_u33_0 : zz_okU 33 0 = true := by decide +kernel
theorem zz_v33 : zz_vv 33 := zz_okU_all (n := 1) (lt_s (lt_0) zz_u33_0) (Nat.le_of_ble_eq_true rfl)
set_option maxRecDepth 100000 in
set_option maxHeartbeats 4000000 in
theorem zz_u34_0 : zz_okU 34 0 = true := by decide +kernel
set_option maxRecDepth 100000 in
set_option maxHeartbeats 4000000 in
theorem zz_u34_1 : zz_okU 34 1 = true := by decide +kernel
theorem zz_v34 : zz_vv 34 := zz_okU_all (n := 2) (lt_s (lt_s (lt_0) zz_u34_0) zz_u34_1) (Nat.le_of_ble_eq_true rfl)
set_option maxRecDepth 100000 in
set_option maxHeartbeats 4000000 in
theorem zz_u35_0 : zz_okU 35 0 = true := by decide +kernel
theorem zz_v35 : zz_vv 35 := zz_okU_all (n := 1) (lt_s (lt_0) zz_u35_0) (Nat.le_of_ble_eq_true rfl)
set_option maxRecDepth 100000 in
set_option maxHeartbeats 4000000 in
theorem zz_u36_0 : zz_okU 36 0 = true := by decide +kernel
set_option maxRecDepth 100000 in
set_option maxHeartbeats 4000000 in
theorem zz_u36_1 : zz_okU 36 1 = true := by decide +kernel
theorem zz_v36 : zz_vv 36 := zz_okU_all (n := 2) (lt_s (lt_s (lt_0) zz_u36_0) zz_u36_1) (Nat.le_of_ble_eq_true rfl)
set_option maxRecDepth 100000 in
set_option maxHeartbeats 4000000 in
theorem zz_u37_0 : zz_okU 37 0 = true := by decide +kernel
theorem zz_v37 : zz_vv 37 := zz_okU_all (n := 1) (lt_s (lt_0) zz_u37_0) (Nat.le_of_ble_eq_true rfl)
set_option maxRecDepth 100000 in
set_option maxHeartbeats 4000000 in
theorem zz_u38_0 : zz_okU 38 0 = true := by decide +kernel
theorem zz_v38 : zz_vv 38 := zz_okU_all (n := 1) (lt_s (lt_0) zz_u38_0) (Nat.le_of_ble_eq_true rfl)
set_option maxRecDepth 100000 in
set_option maxHeartbeats 4000000 in
theorem zz_u39_0 : zz_okU 39 0 = true := by decide +kernel
theorem zz_v39 : zz_vv 39 := zz_okU_all (n := 1) (lt_s (lt_0) zz_u39_0) (Nat.le_of_ble_eq_true rfl)
set_option maxRecDepth 100000 in
set_option maxHeartbeats 4000000 in
theorem zz_u40_0 : zz_okU 40 0 = true := by decide +kernel
set_option maxRecDepth 100000 in
set_option maxHeartbeats 4000000 in
theorem zz_u40_1 : zz_okU 40 1 = true := by decide +kernel
theorem zz_v40 : zz_vv 40 := zz_okU_all (n := 2) (lt_s (lt_s (lt_0) zz_u40_0) zz_u40_1) (Nat.le_of_ble_eq_true rfl)
set_option maxRecDepth 100000 in
set_option maxHeartbeats 4000000 in
theorem zz_u41_0 : zz_okU 41 0 = true := by decide +kernel
set_option maxRecDepth 100000 in
set_option maxHeartbeats 4000000 in
theorem zz_u41_1 : zz_okU 41 1 = true := by decide +kernel
theorem zz_v41 : zz_vv 41 := zz_okU_all (n := 2) (lt_s (lt_s (lt_0) zz_u41_0) zz_u41_1) (Nat.le_of_ble_eq_true rfl)
set_option maxRecDepth 100000 in
set_option maxHeartbeats 4000000 in
theorem zz_u42_0 : zz_okU 42 0 = true := by decide +kernel
set_option maxRecDepth 100000 in
set_option maxHeartbeats 4000000 in
theorem zz_u42_1 : zz_okU 42 1 = true := by decide +kernel
theorem zz_v42 : zz_vv 42 := zz_okU_all (n := 2) (lt_s (lt_s (lt_0) zz_u42_0) zz_u42_1) (Nat.le_of_ble_eq_true rfl)
set_option maxRecDepth 100000 in
set_option maxHeartbeats 4000000 in
theorem zz_u43_0 : zz_okU 43 0 = true := by decide +kernel
theorem zz_v43 : zz_vv 43 := zz_okU_all (n := 1) (lt_s (lt_0) zz_u43_0) (Nat.le_of_ble_eq_true rfl)
set_option maxRecDepth 100000 in
set_option maxHeartbeats 4000000 in
theorem zz_u44_0 : zz_okU 44 0 = true := by decide +kernel
set_option maxRecDepth 100000 in
set_option maxHeartbeats 4000000 in
theorem zz_u44_1 : zz_okU 44 1 = true := by decide +kernel
set_option maxRecDepth 100000 in
set_option maxHeartbeats 4000000 in
theorem zz_u44_2 : zz_okU 44 2 = true := by decide +kernel
set_option maxRecDepth 100000 in
set_option maxHeartbeats 4000000 in
theorem zz_u44_3 : zz_okU 44 3 = true := by decide +kernel
theorem zz_v44 : zz_vv 44 := zz_okU_all (n := 4) (lt_s (lt_s (lt_s (lt_s (lt_0) zz_u44_0) zz_u44_1) zz_u44_2) zz_u44_3) (Nat.le_of_ble_eq_true rfl)
set_option maxRecDepth 100000 in
set_option maxHeartbeats 4000000 in
theorem zz_u45_0 : zz_okU 45 0 = true := by decide +kernel
set_option maxRecDepth 100000 in
set_option maxHeartbeats 4000000 in
theorem zz_u45_1 : zz_okU 45 1 = true := by decide +kernel
set_option maxRecDepth 100000 in
set_option maxHeartbeats 4000000 in
theorem zz_u45_2 : zz_okU 45 2 = true := by decide +kernel
theorem zz_v45 : zz_vv 45 := zz_okU_all (n := 3) (lt_s (lt_s (lt_s (lt_0) zz_u45_0) zz_u45_1) zz_u45_2) (Nat.le_of_ble_eq_true rfl)
set_option maxRecDepth 100000 in
set_option maxHeartbeats 4000000 in
theorem zz_u46_0 : zz_okU 46 0 = true := by decide +kernel
set_option maxRecDepth 100000 in
set_option maxHeartbeats 4000000 in
theorem zz_u46_1 : zz_okU 46 1 = true := by decide +kernel
set_option maxRecDepth 100000 in
set_option maxHeartbeats 4000000 in
theorem zz_u46_2 : zz_okU 46 2 = true := by decide +kernel
set_option maxRecDepth 100000 in
set_option maxHeartbeats 4000000 in
theorem zz_u46_3 : zz_okU 46 3 = true := by decide +kernel
theorem zz_v46 : zz_vv 46 := zz_okU_all (n := 4) (lt_s (lt_s (lt_s (lt_s (lt_0) zz_u46_0) zz_u46_1) zz_u46_2) zz_u46_3) (Nat.le_of_ble_eq_true rfl)
set_option maxRecDepth 100000 in
set_option maxHeartbeats 4000000 in
theorem zz_u47_0 : zz_okU 47 0 = true := by decide +kernel
set_option maxRecDepth 100000 in
set_option maxHeartbeats 4000000 in
theorem zz_u47_1 : zz_okU 47 1 = true := by decide +kernel
set_option maxRecDepth 100000 in
set_option maxHeartbeats 4000000 in
theorem zz_u47_2 : zz_okU 47 2 = true := by decide +kernel
theorem zz_v47 : zz_vv 47 := zz_okU_all (n := 3) (lt_s (lt_s (lt_s (lt_0) zz_u47_0) zz_u47_1) zz_u47_2) (Nat.le_of_ble_eq_true rfl)
set_option maxRecDepth 100000 in
set_option maxHeartbeats 4000000 in
theorem zz_u48_0 : zz_okU 48 0 = true := by decide +kernel
set_option maxRecDepth 100000 in
set_option maxHeartbeats 4000000 in
theorem zz_u48_1 : zz_okU 48 1 = true := by decide +kernel
theorem zz_v48 : zz_vv 48 := zz_okU_all (n := 2) (lt_s (lt_s (lt_0) zz_u48_0) zz_u48_1) (Nat.le_of_ble_eq_true rfl)
set_option maxRecDepth 100000 in
set_option maxHeartbeats 4000000 in
theorem zz_u49_0 : zz_okU 49 0 = true := by decide +kernel
theorem zz_v49 : zz_vv 49 := zz_okU_all (n := 1) (lt_s (lt_0) zz_u49_0) (Nat.le_of_ble_eq_true rfl)
set_option maxRecDepth 100000 in
set_option maxHeartbeats 4000000 in
theorem zz_u50_0 : zz_okU 50 0 = true := by decide +kernel
theorem zz_v50 : zz_vv 50 := zz_okU_all (n := 1) (lt_s (lt_0) zz_u50_0) (Nat.le_of_ble_eq_true rfl)
set_option maxRecDepth 100000 in
set_option maxHeartbeats 4000000 in
theorem zz_u51_0 : zz_okU 51 0 = true := by decide +kernel
theorem zz_v51 : zz_vv 51 := zz_okU_all (n := 1) (lt_s (lt_0) zz_u51_0) (Nat.le_of_ble_eq_true rfl)
set_option maxRecDepth 100000 in
set_option maxHeartbeats 4000000 in
theorem zz_u52_0 : zz_okU 52 0 = true := by decide +kernel
theorem zz_v52 : zz_vv 52 := zz_okU_all (n := 1) (lt_s (lt_0) zz_u52_0) (Nat.le_of_ble_eq_true rfl)
set_option maxRecDepth 100000 in
set_option maxHeartbeats 4000000 in
theorem zz_u53_0 : zz_okU 53 0 = true := by decide +kernel
set_option maxRecDepth 100000 in
set_option maxHeartbeats 4000000 in
theorem zz_u53_1 : zz_okU 53 1 = true := by decide +kernel
theorem zz_v53 : zz_vv 53 := zz_okU_all (n := 2) (lt_s (lt_s (lt_0) zz_u53_0) zz_u53_1) (Nat.le_of_ble_eq_true rfl)
set_option maxRecDepth 100000 in
set_option maxHeartbeats 4000000 in
theorem zz_u54_0 : zz_okU 54 0 = true := by decide +kernel
set_option maxRecDepth 100000 in
set_option maxHeartbeats 4000000 in
theorem zz_u54_1 : zz_okU 54 1 = true := by decide +kernel
theorem zz_v54 : zz_vv 54 := zz_okU_all (n := 2) (lt_s (lt_s (lt_0) zz_u54_0) zz_u54_1) (Nat.le_of_ble_eq_true rfl)
set_option maxRecDepth 100000 in
set_option maxHeartbeats 4000000 in
theorem zz_u55_0 : zz_okU 55 0 = true := by decide +kernel
set_option maxRecDepth 100000 in
set_option maxHeartbeats 4000000 in
theorem zz_u55_1 : zz_okU 55 1 = true := by decide +kernel
set_option maxRecDepth 100000 in
set_option maxHeartbeats 4000000 in
theorem zz_u55_2 : zz_okU 55 2 = true := by decide +kernel
theorem zz_v55 : zz_vv 55 := zz_okU_all (n := 3) (lt_s (lt_s (lt_s (lt_0) zz_u55_0) zz_u55_1) zz_u55_2) (Nat.le_of_ble_eq_true rfl)
set_option maxRecDepth 100000 in
set_option maxHeartbeats 4000000 in
theorem zz_u56_0 : zz_okU 56 0 = true := by decide +kernel
set_option maxRecDepth 100000 in
set_option maxHeartbeats 4000000 in
theorem zz_u56_1 : zz_okU 56 1 = true := by decide +kernel
theorem zz_v56 : zz_vv 56 := zz_okU_all (n := 2) (lt_s (lt_s (lt_0) zz_u56_0) zz_u56_1) (Nat.le_of_ble_eq_true rfl)
set_option maxRecDepth 100000 in
set_option maxHeartbeats 4000000 in
theorem zz_u57_0 : zz_okU 57 0 = true := by decide +kernel
set_option maxRecDepth 100000 in
set_option maxHeartbeats 4000000 in
theorem zz_u57_1 : zz_okU 57 1 = true := by decide +kernel
set_option maxRecDepth 100000 in
set_option maxHeartbeats 4000000 in
theorem zz_u57_2 : zz_okU 57 2 = true := by decide +kernel
set_option maxRecDepth 100000 in
set_option maxHeartbeats 4000000 in
theorem zz_u57_3 : zz_okU 57 3 = true := by decide +kernel
theorem zz_v57 : zz_vv 57 := zz_okU_all (n := 4) (lt_s (lt_s (lt_s (lt_s (lt_0) zz_u57_0) zz_u57_1) zz_u57_2) zz_u57_3) (Nat.le_of_ble_eq_true rfl)
set_option maxRecDepth 100000 in
set_option maxHeartbeats 4000000 in
theorem zz_u58_0 : zz_okU 58 0 = true := by decide +kernel
theorem zz_v58 : zz_vv 58 := zz_okU_all (n := 1) (lt_s (lt_0) zz_u58_0) (Nat.le_of_ble_eq_true rfl)
set_option maxRecDepth 100000 in
set_option maxHeartbeats 4000000 in
theorem zz_u59_0 : zz_okU 59 0 = true := by decide +kernel
theorem zz_v59 : zz_vv 59 := zz_okU_all (n := 1) (lt_s (lt_0) zz_u59_0) (Nat.le_of_ble_eq_true rfl)
set_option maxRecDepth 100000 in
set_option maxHeartbeats 4000000 in
theorem zz_u60_0 : zz_okU 60 0 = true := by decide +kernel
set_option maxRecDepth 100000 in
set_option maxHeartbeats 4000000 in
theorem zz_u60_1 : zz_okU 60 1 = true := by decide +kernel
theorem zz_v60 : zz_vv 60 := zz_okU_all (n := 2) (lt_s (lt_s (lt_0) zz_u60_0) zz_u60_1) (Nat.le_of_ble_eq_true rfl)
set_option maxRecDepth 100000 in
set_option maxHeartbeats 4000000 in
theorem zz_u61_0 : zz_okU 61 0 = true := by decide +kernel
set_option maxRecDepth 100000 in
set_option maxHeartbeats 4000000 in
theorem zz_u61_1 : zz_okU 61 1 = true := by decide +kernel
theorem zz_v61 : zz_vv 61 := zz_okU_all (n := 2) (lt_s (lt_s (lt_0) zz_u61_0) zz_u61_1) (Nat.le_of_ble_eq_true rfl)
set_option maxRecDepth 100000 in
set_option maxHeartbeats 4000000 in
theorem zz_u62_0 : zz_okU 62 0 = true := by decide +kernel
set_option maxRecDepth 100000 in
set_option maxHeartbeats 4000000 in
theorem zz_u62_1 : zz_okU 62 1 = true := by decide +kernel
theorem zz_v62 : zz_vv 62 := zz_okU_all (n := 2) (lt_s (lt_s (lt_0) zz_u62_0) zz_u62_1) (Nat.le_of_ble_eq_true rfl)
set_option maxRecDepth 100000 in
set_option maxHeartbeats 4000000 in
theorem zz_u63_0 : zz_okU 63 0 = true := by decide +kernel
theorem zz_v63 : zz_vv 63 := zz_okU_all (n := 1) (lt_s (lt_0) zz_u63_0) (Nat.le_of_ble_eq_true rfl)
set_option maxRecDepth 100000 in
set_option maxHeartbeats 4000000 in
theorem zz_u64_0 : zz_okU 64 0 = true := by decide +kernel
set_option maxRecDepth 100000 in
set_option maxHeartbeats 4000000 in
theorem zz_u64_1 : zz_okU 64 1 = true := by decide +kernel
set_option maxRecDepth 100000 in
set_option maxHeartbeats 4000000 in
theorem zz_u64_2 : zz_okU 64 2 = true := by decide +kernel
theorem zz_v64 : zz_vv 64 := zz_okU_all (n := 3) (lt_s (lt_s (lt_s (lt_0) zz_u64_0) zz_u64_1) zz_u64_2) (Nat.le_of_ble_eq_true rfl)
set_option maxRecDepth 100000 in
set_option maxHeartbeats 4000000 in
theorem zz_u65_0 : zz_okU 65 0 = true := by decide +kernel
set_option maxRecDepth 100000 in
set_option maxHeartbeats 4000000 in
theorem zz_u65_1 : zz_okU 65 1 = true := by decide +kernel
set_option maxRecDepth 100000 in
set_option maxHeartbeats 4000000 in
theorem zz_u65_2 : zz_okU 65 2 = true := by decide +kernel
theorem zz_v65 : zz_vv 65 := zz_okU_all (n := 3) (lt_s (lt_s (lt_s (lt_0) zz_u65_0) zz_u65_1) zz_u65_2) (Nat.le_of_ble_eq_true rfl)
set_option maxRecDepth 100000 in
set_option maxHeartbeats 4000000 in
theorem zz_u66_0 : zz_okU 66 0 = true := by decide +kernel
theorem zz_v66 : zz_vv 66 := zz_okU_all (n := 1) (lt_s (lt_0) zz_u66_0) (Nat.le_of_ble_eq_true rfl)
set_option maxRecDepth 100000 in
set_option maxHeartbeats 4000000 in
theorem zz_u67_0 : zz_okU 67 0 = true := by decide +kernel
set_option maxRecDepth 100000 in
set_option maxHeartbeats 4000000 in
theorem zz_u67_1 : zz_okU 67 1 = true := by decide +kernel
theorem zz_v67 : zz_vv 67 := zz_okU_all (n := 2) (lt_s (lt_s (lt_0) zz_u67_0) zz_u67_1) (Nat.le_of_ble_eq_true rfl)
set_option maxRecDepth 100000 in
set_option maxHeartbeats 4000000 in
theorem zz_u68_0 : zz_okU 68 0 = true := by decide +kernel
set_option maxRecDepth 100000 in
set_option maxHeartbeats 4000000 in
theorem zz_u68_1 : zz_okU 68 1 = true := by decide +kernel
theorem zz_v68 : zz_vv 68 := zz_okU_all (n := 2) (lt_s (lt_s (lt_0) zz_u68_0) zz_u68_1) (Nat.le_of_ble_eq_true rfl)
set_option maxRecDepth 100000 in
set_option maxHeartbeats 4000000 in
theorem zz_u69_0 : zz_okU 69 0 = true := by decide +kernel
theorem zz_v69 : zz_vv 69 := zz_okU_all (n := 1) (lt_s (lt_0) zz_u69_0) (Nat.le_of_ble_eq_true rfl)
set_option maxRecDepth 100000 in
set_option maxHeartbeats 4000000 in
theorem zz_u70_0 : zz_okU 70 0 = true := by decide +kernel
theorem zz_v70 : zz_vv 70 := zz_okU_all (n := 1) (lt_s (lt_0) zz_u70_0) (Nat.le_of_ble_eq_true rfl)
set_option maxRecDepth 100000 in
set_option maxHeartbeats 4000000 in
theorem zz_u71_0 : zz_okU 71 0 = true := by decide +kernel
set_option maxRecDepth 100000 in
set_option maxHeartbeats 4000000 in
theorem zz_u71_1 : zz_okU 71 1 = true := by decide +kernel
set_option maxRecDepth 100000 in
set_option maxHeartbeats 4000000 in
theorem zz_u71_2 : zz_okU 71 2 = true := by decide +kernel
theorem zz_v71 : zz_vv 71 := zz_okU_all (n := 3) (lt_s (lt_s (lt_s (lt_0) zz_u71_0) zz_u71_1) zz_u71_2) (Nat.le_of_ble_eq_true rfl)
set_option maxRecDepth 100000 in
set_option maxHeartbeats 4000000 in
theorem zz_u72_0 : zz_okU 72 0 = true := by decide +kernel
set_option maxRecDepth 100000 in
set_option maxHeartbeats 4000000 in
theorem zz_u72_1 : zz_okU 72 1 = true := by decide +kernel
theorem zz_v72 : zz_vv 72 := zz_okU_all (n := 2) (lt_s (lt_s (lt_0) zz_u72_0) zz_u72_1) (Nat.le_of_ble_eq_true rfl)
set_option maxRecDepth 100000 in
set_option maxHeartbeats 4000000 in
theorem zz_u73_0 : zz_okU 73 0 = true := by decide +kernel
theorem zz_v73 : zz_vv 73 := zz_okU_all (n := 1) (lt_s (lt_0) zz_u73_0) (Nat.le_of_ble_eq_true rfl)
set_option maxRecDepth 100000 in
set_option maxHeartbeats 4000000 in
theorem zz_u74_0 : zz_okU 74 0 = true := by decide +kernel
set_option maxRecDepth 100000 in
set_option maxHeartbeats 4000000 in
theorem zz_u74_1 : zz_okU 74 1 = true := by decide +kernel
theorem zz_v74 : zz_vv 74 := zz_okU_all (n := 2) (lt_s (lt_s (lt_0) zz_u74_0) zz_u74_1) (Nat.le_of_ble_eq_true rfl)
set_option maxRecDepth 100000 in
set_option maxHeartbeats 4000000 in
theorem zz_u75_0 : zz_okU 75 0 = true := by decide +kernel
set_option maxRecDepth 100000 in
set_option maxHeartbeats 4000000 in
theorem zz_u75_1 : zz_okU 75 1 = true := by decide +kernel
theorem zz_v75 : zz_vv 75 := zz_okU_all (n := 2) (lt_s (lt_s (lt_0) zz_u75_0) zz_u75_1) (Nat.le_of_ble_eq_true rfl)
set_option maxRecDepth 100000 in
set_option maxHeartbeats 4000000 in
theorem zz_u76_0 : zz_okU 76 0 = true := by decide +kernel
set_option maxRecDepth 100000 in
set_option maxHeartbeats 4000000 in
theorem zz_u76_1 : zz_okU 76 1 = true := by decide +kernel
set_option maxRecDepth 100000 in
set_option maxHeartbeats 4000000 in
theorem zz_u76_2 : zz_okU 76 2 = true := by decide +kernel
set_option maxRecDepth 100000 in
set_option maxHeartbeats 4000000 in
theorem zz_u76_3 : zz_okU 76 3 = true := by decide +kernel
theorem zz_v76 : zz_vv 76 := zz_okU_all (n := 4) (lt_s (lt_s (lt_s (lt_s (lt_0) zz_u76_0) zz_u76_1) zz_u76_2) zz_u76_3) (Nat.le_of_ble_eq_true rfl)
set_option maxRecDepth 100000 in
set_option maxHeartbeats 4000000 in
theorem zz_u77_0 : zz_okU 77 0 = true := by decide +kernel
theorem zz_v77 : zz_vv 77 := zz_okU_all (n := 1) (lt_s (lt_0) zz_u77_0) (Nat.le_of_ble_eq_true rfl)
set_option maxRecDepth 100000 in
set_option maxHeartbeats 4000000 in
theorem zz_u78_0 : zz_okU 78 0 = true := by decide +kernel
set_option maxRecDepth 100000 in
set_option maxHeartbeats 4000000 in
theorem zz_u78_1 : zz_okU 78 1 = true := by decide +kernel
set_option maxRecDepth 100000 in
set_option maxHeartbeats 4000000 in
theorem zz_u78_2 : zz_okU 78 2 = true := by decide +kernel
set_option maxRecDepth 100000 in
set_option maxHeartbeats 4000000 in
theorem zz_u78_3 : zz_okU 78 3 = true := by decide +kernel
set_option maxRecDepth 100000 in
set_option maxHeartbeats 4000000 in
theorem zz_u78_4 : zz_okU 78 4 = true := by decide +kernel
theorem zz_v78 : zz_vv 78 := zz_okU_all (n := 5) (lt_s (lt_s (lt_s (lt_s (lt_s (lt_0) zz_u78_0) zz_u78_1) zz_u78_2) zz_u78_3) zz_u78_4) (Nat.le_of_ble_eq_true rfl)
set_option maxRecDepth 100000 in
set_option maxHeartbeats 4000000 in
theorem zz_u79_0 : zz_okU 79 0 = true := by decide +kernel
set_option maxRecDepth 100000 in
set_option maxHeartbeats 4000000 in
theorem zz_u79_1 : zz_okU 79 1 = true := by decide +kernel
set_option maxRecDepth 100000 in
set_option maxHeartbeats 4000000 in
theorem zz_u79_2 : zz_okU 79 2 = true := by decide +kernel
theorem zz_v79 : zz_vv 79 := zz_okU_all (n := 3) (lt_s (lt_s (lt_s (lt_0) zz_u79_0) zz_u79_1) zz_u79_2) (Nat.le_of_ble_eq_true rfl)
set_option maxRecDepth 100000 in
set_option maxHeartbeats 4000000 in
theorem zz_u80_0 : zz_okU 80 0 = true := by decide +kernel
set_option maxRecDepth 100000 in
set_option maxHeartbeats 4000000 in
theorem zz_u80_1 : zz_okU 80 1 = true := by decide +kernel
set_option maxRecDepth 100000 in
set_option maxHeartbeats 4000000 in
theorem zz_u80_2 : zz_okU 80 2 = true := by decide +kernel
set_option maxRecDepth 100000 in
set_option maxHeartbeats 4000000 in
theorem zz_u80_3 : zz_okU 80 3 = true := by decide +kernel
theorem zz_v80 : zz_vv 80 := zz_okU_all (n := 4) (lt_s (lt_s (lt_s (lt_s (lt_0) zz_u80_0) zz_u80_1) zz_u80_2) zz_u80_3) (Nat.le_of_ble_eq_true rfl)
set_option maxRecDepth 100000 in
set_option maxHeartbeats 4000000 in
theorem zz_u81_0 : zz_okU 81 0 = true := by decide +kernel
theorem zz_v81 : zz_vv 81 := zz_okU_all (n := 1) (lt_s (lt_0) zz_u81_0) (Nat.le_of_ble_eq_true rfl)
set_option maxRecDepth 100000 in
set_option maxHeartbeats 4000000 in
theorem zz_u82_0 : zz_okU 82 0 = true := by decide +kernel
theorem zz_v82 : zz_vv 82 := zz_okU_all (n := 1) (lt_s (lt_0) zz_u82_0) (Nat.le_of_ble_eq_true rfl)
set_option maxRecDepth 100000 in
set_option maxHeartbeats 4000000 in
theorem zz_u83_0 : zz_okU 83 0 = true := by decide +kernel
theorem zz_v83 : zz_vv 83 := zz_okU_all (n := 1) (lt_s (lt_0) zz_u83_0) (Nat.le_of_ble_eq_true rfl)
set_option maxRecDepth 100000 in
set_option maxHeartbeats 4000000 in
theorem zz_u84_0 : zz_okU 84 0 = true := by decide +kernel
set_option maxRecDepth 100000 in
set_option maxHeartbeats 4000000 in
theorem zz_u84_1 : zz_okU 84 1 = true := by decide +kernel
set_option maxRecDepth 100000 in
set_option maxHeartbeats 4000000 in
theorem zz_u84_2 : zz_okU 84 2 = true := by decide +kernel
theorem zz_v84 : zz_vv 84 := zz_okU_all (n := 3) (lt_s (lt_s (lt_s (lt_0) zz_u84_0) zz_u84_1) zz_u84_2) (Nat.le_of_ble_eq_true rfl)
set_option maxRecDepth 100000 in
set_option maxHeartbeats 4000000 in
theorem zz_u85_0 : zz_okU 85 0 = true := by decide +kernel
set_option maxRecDepth 100000 in
set_option maxHeartbeats 4000000 in
theorem zz_u85_1 : zz_okU 85 1 = true := by decide +kernel
set_option maxRecDepth 100000 in
set_option maxHeartbeats 4000000 in
theorem zz_u85_2 : zz_okU 85 2 = true := by decide +kernel
set_option maxRecDepth 100000 in
set_option maxHeartbeats 4000000 in
theorem zz_u85_3 : zz_okU 85 3 = true := by decide +kernel
set_option maxRecDepth 100000 in
set_option maxHeartbeats 4000000 in
theorem zz_u85_4 : zz_okU 85 4 = true := by decide +kernel
theorem zz_v85 : zz_vv 85 := zz_okU_all (n := 5) (lt_s (lt_s (lt_s (lt_s (lt_s (lt_0) zz_u85_0) zz_u85_1) zz_u85_2) zz_u85_3) zz_u85_4) (Nat.le_of_ble_eq_true rfl)
set_option maxRecDepth 100000 in
set_option maxHeartbeats 4000000 in
theorem zz_u86_0 : zz_okU 86 0 = true := by decide +kernel
set_option maxRecDepth 100000 in
set_option maxHeartbeats 4000000 in
theorem zz_u86_1 : zz_okU 86 1 = true := by decide +kernel
theorem zz_v86 : zz_vv 86 := zz_okU_all (n := 2) (lt_s (lt_s (lt_0) zz_u86_0) zz_u86_1) (Nat.le_of_ble_eq_true rfl)
set_option maxRecDepth 100000 in
set_option maxHeartbeats 4000000 in
theorem zz_u87_0 : zz_okU 87 0 = true := by decide +kernel
theorem zz_v87 : zz_vv 87 := zz_okU_all (n := 1) (lt_s (lt_0) zz_u87_0) (Nat.le_of_ble_eq_true rfl)
set_option maxRecDepth 100000 in
set_option maxHeartbeats 4000000 in
theorem zz_u88_0 : zz_okU 88 0 = true := by decide +kernel
theorem zz_v88 : zz_vv 88 := zz_okU_all (n := 1) (lt_s (lt_0) zz_u88_0) (Nat.le_of_ble_eq_true rfl)
set_option maxRecDepth 100000 in
set_option maxHeartbeats 4000000 in
theorem zz_u89_0 : zz_okU 89 0 = true := by decide +kernel
theorem zz_v89 : zz_vv 89 := zz_okU_all (n := 1) (lt_s (lt_0) zz_u89_0) (Nat.le_of_ble_eq_true rfl)
set_option maxRecDepth 100000 in
set_option maxHeartbeats 4000000 in
theorem zz_u90_0 : zz_okU 90 0 = true := by decide +kernel
set_option maxRecDepth 100000 in
set_option maxHeartbeats 4000000 in
theorem zz_u90_1 : zz_okU 90 1 = true := by decide +kernel
theorem zz_v90 : zz_vv 90 := zz_okU_all (n := 2) (lt_s (lt_s (lt_0) zz_u90_0) zz_u90_1) (Nat.le_of_ble_eq_true rfl)
set_option maxRecDepth 100000 in
set_option maxHeartbeats 4000000 in
theorem zz_u91_0 : zz_okU 91 0 = true := by decide +kernel
theorem zz_v91 : zz_vv 91 := zz_okU_all (n := 1) (lt_s (lt_0) zz_u91_0) (Nat.le_of_ble_eq_true rfl)
set_option maxRecDepth 100000 in
set_option maxHeartbeats 4000000 in
theorem zz_u92_0 : zz_okU 92 0 = true := by decide +kernel
set_option maxRecDepth 100000 in
set_option maxHeartbeats 4000000 in
theorem zz_u92_1 : zz_okU 92 1 = true := by decide +kernel
theorem zz_v92 : zz_vv 92 := zz_okU_all (n := 2) (lt_s (lt_s (lt_0) zz_u92_0) zz_u92_1) (Nat.le_of_ble_eq_true rfl)
set_option maxRecDepth 100000 in
set_option maxHeartbeats 4000000 in
theorem zz_u93_0 : zz_okU 93 0 = true := by decide +kernel
set_option maxRecDepth 100000 in
set_option maxHeartbeats 4000000 in
theorem zz_u93_1 : zz_okU 93 1 = true := by decide +kernel
set_option maxRecDepth 100000 in
set_option maxHeartbeats 4000000 in
theorem zz_u93_2 : zz_okU 93 2 = true := by decide +kernel
theorem zz_v93 : zz_vv 93 := zz_okU_all (n := 3) (lt_s (lt_s (lt_s (lt_0) zz_u93_0) zz_u93_1) zz_u93_2) (Nat.le_of_ble_eq_true rfl)
set_option maxRecDepth 100000 in
set_option maxHeartbeats 4000000 in
theorem zz_u94_0 : zz_okU 94 0 = true := by decide +kernel
theorem zz_v94 : zz_vv 94 := zz_okU_all (n := 1) (lt_s (lt_0) zz_u94_0) (Nat.le_of_ble_eq_true rfl)
set_option maxRecDepth 100000 in
set_option maxHeartbeats 4000000 in
theorem zz_u95_0 : zz_okU 95 0 = true := by decide +kernel
set_option maxRecDepth 100000 in
set_option maxHeartbeats 4000000 in
theorem zz_u95_1 : zz_okU 95 1 = true := by decide +kernel
set_option maxRecDepth 100000 in
set_option maxHeartbeats 4000000 in
theorem zz_u95_2 : zz_okU 95 2 = true := by decide +kernel
set_option maxRecDepth 100000 in
set_option maxHeartbeats 4000000 in
theorem zz_u95_3 : zz_okU 95 3 = true := by decide +kernel
theorem zz_v95 : zz_vv 95 := zz_okU_all (n := 4) (lt_s (lt_s (lt_s (lt_s (lt_0) zz_u95_0) zz_u95_1) zz_u95_2) zz_u95_3) (Nat.le_of_ble_eq_true rfl)
set_option maxRecDepth 100000 in
set_option maxHeartbeats 4000000 in
theorem zz_u96_0 : zz_okU 96 0 = true := by decide +kernel
set_option maxRecDepth 100000 in
set_option maxHeartbeats 4000000 in
theorem zz_u96_1 : zz_okU 96 1 = true := by decide +kernel
set_option maxRecDepth 100000 in
set_option maxHeartbeats 4000000 in
theorem zz_u96_2 : zz_okU 96 2 = true := by decide +kernel
theorem zz_v96 : zz_vv 96 := zz_okU_all (n := 3) (lt_s (lt_s (lt_s (lt_0) zz_u96_0) zz_u96_1) zz_u96_2) (Nat.le_of_ble_eq_true rfl)
set_option maxRecDepth 100000 in
set_option maxHeartbeats 4000000 in
theorem zz_u97_0 : zz_okU 97 0 = true := by decide +kernel
set_option maxRecDepth 100000 in
set_option maxHeartbeats 4000000 in
theorem zz_u97_1 : zz_okU 97 1 = true := by decide +kernel
theorem zz_v97 : zz_vv 97 := zz_okU_all (n := 2) (lt_s (lt_s (lt_0) zz_u97_0) zz_u97_1) (Nat.le_of_ble_eq_true rfl)
set_option maxRecDepth 100000 in
set_option maxHeartbeats 4000000 in
theorem zz_u98_0 : zz_okU 98 0 = true := by decide +kernel
set_option maxRecDepth 100000 in
set_option maxHeartbeats 4000000 in
theorem zz_u98_1 : zz_okU 98 1 = true := by decide +kernel
set_option maxRecDepth 100000 in
set_option maxHeartbeats 4000000 in
theorem zz_u98_2 : zz_okU 98 2 = true := by decide +kernel
set_option maxRecDepth 100000 in
set_option maxHeartbeats 4000000 in
theorem zz_u98_3 : zz_okU 98 3 = true := by decide +kernel
theorem zz_v98 : zz_vv 98 := zz_okU_all (n := 4) (lt_s (lt_s (lt_s (lt_s (lt_0) zz_u98_0) zz_u98_1) zz_u98_2) zz_u98_3) (Nat.le_of_ble_eq_true rfl)
set_option maxRecDepth 100000 in
set_option maxHeartbeats 4000000 in
theorem zz_u99_0 : zz_okU 99 0 = true := by decide +kernel
set_option maxRecDepth 100000 in
set_option maxHeartbeats 4000000 in
theorem zz_u99_1 : zz_okU 99 1 = true := by decide +kernel
set_option maxRecDepth 100000 in
set_option maxHeartbeats 4000000 in
theorem zz_u99_2 : zz_okU 99 2 = true := by decide +kernel
theorem zz_v99 : zz_vv 99 := zz_okU_all (n := 3) (lt_s (lt_s (lt_s (lt_0) zz_u99_0) zz_u99_1) zz_u99_2) (Nat.le_of_ble_eq_true rfl)
set_option maxRecDepth 100000 in
set_option maxHeartbeats 4000000 in
theorem zz_u100_0 : zz_okU 100 0 = true := by decide +kernel
theorem zz_v100 : zz_vv 100 := zz_okU_all (n := 1) (lt_s (lt_0) zz_u100_0) (Nat.le_of_ble_eq_true rfl)
set_option maxRecDepth 100000 in
set_option maxHeartbeats 4000000 in
theorem zz_u101_0 : zz_okU 101 0 = true := by decide +kernel
set_option maxRecDepth 100000 in
set_option maxHeartbeats 4000000 in
theorem zz_u101_1 : zz_okU 101 1 = true := by decide +kernel
set_option maxRecDepth 100000 in
set_option maxHeartbeats 4000000 in
theorem zz_u101_2 : zz_okU 101 2 = true := by decide +kernel
set_option maxRecDepth 100000 in
set_option maxHeartbeats 4000000 in
theorem zz_u101_3 : zz_okU 101 3 = true := by decide +kernel
theorem zz_v101 : zz_vv 101 := zz_okU_all (n := 4) (lt_s (lt_s (lt_s (lt_s (lt_0) zz_u101_0) zz_u101_1) zz_u101_2) zz_u101_3) (Nat.le_of_ble_eq_true rfl)
set_option maxRecDepth 100000 in
set_option maxHeartbeats 4000000 in
theorem zz_u102_0 : zz_okU 102 0 = true := by decide +kernel
set_option maxRecDepth 100000 in
set_option maxHeartbeats 4000000 in
theorem zz_u102_1 : zz_okU 102 1 = true := by decide +kernel
set_option maxRecDepth 100000 in
set_option maxHeartbeats 4000000 in
theorem zz_u102_2 : zz_okU 102 2 = true := by decide +kernel
set_option maxRecDepth 100000 in
set_option maxHeartbeats 4000000 in
theorem zz_u102_3 : zz_okU 102 3 = true := by decide +kernel
theorem zz_v102 : zz_vv 102 := zz_okU_all (n := 4) (lt_s (lt_s (lt_s (lt_s (lt_0) zz_u102_0) zz_u102_1) zz_u102_2) zz_u102_3) (Nat.le_of_ble_eq_true rfl)
set_option maxRecDepth 100000 in
set_option maxHeartbeats 4000000 in
theorem zz_u103_0 : zz_okU 103 0 = true := by decide +kernel
set_option maxRecDepth 100000 in
set_option maxHeartbeats 4000000 in
theorem zz_u103_1 : zz_okU 103 1 = true := by decide +kernel
set_option maxRecDepth 100000 in
set_option maxHeartbeats 4000000 in
theorem zz_u103_2 : zz_okU 103 2 = true := by decide +kernel
set_option maxRecDepth 100000 in
set_option maxHeartbeats 4000000 in
theorem zz_u103_3 : zz_okU 103 3 = true := by decide +kernel
theorem zz_v103 : zz_vv 103 := zz_okU_all (n := 4) (lt_s (lt_s (lt_s (lt_s (lt_0) zz_u103_0) zz_u103_1) zz_u103_2) zz_u103_3) (Nat.le_of_ble_eq_true rfl)
set_option maxRecDepth 100000 in
set_option maxHeartbeats 4000000 in
theorem zz_u104_0 : zz_okU 104 0 = true := by decide +kernel
set_option maxRecDepth 100000 in
set_option maxHeartbeats 4000000 in
theorem zz_u104_1 : zz_okU 104 1 = true := by decide +kernel
set_option maxRecDepth 100000 in
set_option maxHeartbeats 4000000 in
theorem zz_u104_2 : zz_okU 104 2 = true := by decide +kernel
theorem zz_v104 : zz_vv 104 := zz_okU_all (n := 3) (lt_s (lt_s (lt_s (lt_0) zz_u104_0) zz_u104_1) zz_u104_2) (Nat.le_of_ble_eq_true rfl)
set_option maxRecDepth 100000 in
set_option maxHeartbeats 4000000 in
theorem zz_u105_0 : zz_okU 105 0 = true := by decide +kernel
set_option maxRecDepth 100000 in
set_option maxHeartbeats 4000000 in
theorem zz_u105_1 : zz_okU 105 1 = true := by decide +kernel
set_option maxRecDepth 100000 in
set_option maxHeartbeats 4000000 in
theorem zz_u105_2 : zz_okU 105 2 = true := by decide +kernel
set_option maxRecDepth 100000 in
set_option maxHeartbeats 4000000 in
theorem zz_u105_3 : zz_okU 105 3 = true := by decide +kernel
theorem zz_v105 : zz_vv 105 := zz_okU_all (n := 4) (lt_s (lt_s (lt_s (lt_s (lt_0) zz_u105_0) zz_u105_1) zz_u105_2) zz_u105_3) (Nat.le_of_ble_eq_true rfl)
set_option maxRecDepth 100000 in
set_option maxHeartbeats 4000000 in
theorem zz_u106_0 : zz_okU 106 0 = true := by decide +kernel
set_option maxRecDepth 100000 in
set_option maxHeartbeats 4000000 in
theorem zz_u106_1 : zz_okU 106 1 = true := by decide +kernel
set_option maxRecDepth 100000 in
set_option maxHeartbeats 4000000 in
theorem zz_u106_2 : zz_okU 106 2 = true := by decide +kernel
theorem zz_v106 : zz_vv 106 := zz_okU_all (n := 3) (lt_s (lt_s (lt_s (lt_0) zz_u106_0) zz_u106_1) zz_u106_2) (Nat.le_of_ble_eq_true rfl)
set_option maxRecDepth 100000 in
set_option maxHeartbeats 4000000 in
theorem zz_u107_0 : zz_okU 107 0 = true := by decide +kernel
set_option maxRecDepth 100000 in
set_option maxHeartbeats 4000000 in
theorem zz_u107_1 : zz_okU 107 1 = true := by decide +kernel
set_option maxRecDepth 100000 in
set_option maxHeartbeats 4000000 in
theorem zz_u107_2 : zz_okU 107 2 = true := by decide +kernel
theorem zz_v107 : zz_vv 107 := zz_okU_all (n := 3) (lt_s (lt_s (lt_s (lt_0) zz_u107_0) zz_u107_1) zz_u107_2) (Nat.le_of_ble_eq_true rfl)
set_option maxRecDepth 100000 in
set_option maxHeartbeats 4000000 in
theorem zz_u108_0 : zz_okU 108 0 = true := by decide +kernel
set_option maxRecDepth 100000 in
set_option maxHeartbeats 4000000 in
theorem zz_u108_1 : zz_okU 108 1 = true := by decide +kernel
set_option maxRecDepth 100000 in
set_option maxHeartbeats 4000000 in
theorem zz_u108_2 : zz_okU 108 2 = true := by decide +kernel
theorem zz_v108 : zz_vv 108 := zz_okU_all (n := 3) (lt_s (lt_s (lt_s (lt_0) zz_u108_0) zz_u108_1) zz_u108_2) (Nat.le_of_ble_eq_true rfl)
set_option maxRecDepth 100000 in
set_option maxHeartbeats 4000000 in
theorem zz_u109_0 : zz_okU 109 0 = true := by decide +kernel
set_option maxRecDepth 100000 in
set_option maxHeartbeats 4000000 in
theorem zz_u109_1 : zz_okU 109 1 = true := by decide +kernel
theorem zz_v109 : zz_vv 109 := zz_okU_all (n := 2) (lt_s (lt_s (lt_0) zz_u109_0) zz_u109_1) (Nat.le_of_ble_eq_true rfl)
set_option maxRecDepth 100000 in
set_option maxHeartbeats 4000000 in
theorem zz_u110_0 : zz_okU 110 0 = true := by decide +kernel
set_option maxRecDepth 100000 in
set_option maxHeartbeats 4000000 in
theorem zz_u110_1 : zz_okU 110 1 = true := by decide +kernel
set_option maxRecDepth 100000 in
set_option maxHeartbeats 4000000 in
theorem zz_u110_2 : zz_okU 110 2 = true := by decide +kernel
theorem zz_v110 : zz_vv 110 := zz_okU_all (n := 3) (lt_s (lt_s (lt_s (lt_0) zz_u110_0) zz_u110_1) zz_u110_2) (Nat.le_of_ble_eq_true rfl)
set_option maxRecDepth 100000 in
set_option maxHeartbeats 4000000 in
theorem zz_u111_0 : zz_okU 111 0 = true := by decide +kernel
theorem zz_v111 : zz_vv 111 := zz_okU_all (n := 1) (lt_s (lt_0) zz_u111_0) (Nat.le_of_ble_eq_true rfl)
set_option maxRecDepth 100000 in
set_option maxHeartbeats 4000000 in
theorem zz_u112_0 : zz_okU 112 0 = true := by decide +kernel
set_option maxRecDepth 100000 in
set_option maxHeartbeats 4000000 in
theorem zz_u112_1 : zz_okU 112 1 = true := by decide +kernel
theorem zz_v112 : zz_vv 112 := zz_okU_all (n := 2) (lt_s (lt_s (lt_0) zz_u112_0) zz_u112_1) (Nat.le_of_ble_eq_true rfl)
set_option maxRecDepth 100000 in
set_option maxHeartbeats 4000000 in
theorem zz_u113_0 : zz_okU 113 0 = true := by decide +kernel
theorem zz_v113 : zz_vv 113 := zz_okU_all (n := 1) (lt_s (lt_0) zz_u113_0) (Nat.le_of_ble_eq_true rfl)
set_option maxRecDepth 100000 in
set_option maxHeartbeats 4000000 in
theorem zz_u114_0 : zz_okU 114 0 = true := by decide +kernel
set_option maxRecDepth 100000 in
set_option maxHeartbeats 4000000 in
theorem zz_u114_1 : zz_okU 114 1 = true := by decide +kernel
set_option maxRecDepth 100000 in
set_option maxHeartbeats 4000000 in
theorem zz_u114_2 : zz_okU 114 2 = true := by decide +kernel
theorem zz_v114 : zz_vv 114 := zz_okU_all (n := 3) (lt_s (lt_s (lt_s (lt_0) zz_u114_0) zz_u114_1) zz_u114_2) (Nat.le_of_ble_eq_true rfl)
set_option maxRecDepth 100000 in
set_option maxHeartbeats 4000000 in
theorem zz_u115_0 : zz_okU 115 0 = true := by decide +kernel
set_option maxRecDepth 100000 in
set_option maxHeartbeats 4000000 in
theorem zz_u115_1 : zz_okU 115 1 = true := by decide +kernel
set_option maxRecDepth 100000 in
set_option maxHeartbeats 4000000 in
theorem zz_u115_2 : zz_okU 115 2 = true := by decide +kernel
set_option maxRecDepth 100000 in
set_option maxHeartbeats 4000000 in
theorem zz_u115_3 : zz_okU 115 3 = true := by decide +kernel
theorem zz_v115 : zz_vv 115 := zz_okU_all (n := 4) (lt_s (lt_s (lt_s (lt_s (lt_0) zz_u115_0) zz_u115_1) zz_u115_2) zz_u115_3) (Nat.le_of_ble_eq_true rfl)
set_option maxRecDepth 100000 in
set_option maxHeartbeats 4000000 in
theorem zz_u116_0 : zz_okU 116 0 = true := by decide +kernel
set_option maxRecDepth 100000 in
set_option maxHeartbeats 4000000 in
theorem zz_u116_1 : zz_okU 116 1 = true := by decide +kernel
set_option maxRecDepth 100000 in
set_option maxHeartbeats 4000000 in
theorem zz_u116_2 : zz_okU 116 2 = true := by decide +kernel
theorem zz_v116 : zz_vv 116 := zz_okU_all (n := 3) (lt_s (lt_s (lt_s (lt_0) zz_u116_0) zz_u116_1) zz_u116_2) (Nat.le_of_ble_eq_true rfl)
set_option maxRecDepth 100000 in
set_option maxHeartbeats 4000000 in
theorem zz_u117_0 : zz_okU 117 0 = true := by decide +kernel
set_option maxRecDepth 100000 in
set_option maxHeartbeats 4000000 in
theorem zz_u117_1 : zz_okU 117 1 = true := by decide +kernel
set_option maxRecDepth 100000 in
set_option maxHeartbeats 4000000 in
theorem zz_u117_2 : zz_okU 117 2 = true := by decide +kernel
set_option maxRecDepth 100000 in
set_option maxHeartbeats 4000000 in
theorem zz_u117_3 : zz_okU 117 3 = true := by decide +kernel
set_option maxRecDepth 100000 in
set_option maxHeartbeats 4000000 in
theorem zz_u117_4 : zz_okU 117 4 = true := by decide +kernel
theorem zz_v117 : zz_vv 117 := zz_okU_all (n := 5) (lt_s (lt_s (lt_s (lt_s (lt_s (lt_0) zz_u117_0) zz_u117_1) zz_u117_2) zz_u117_3) zz_u117_4) (Nat.le_of_ble_eq_true rfl)
set_option maxRecDepth 100000 in
set_option maxHeartbeats 4000000 in
theorem zz_u118_0 : zz_okU 118 0 = true := by decide +kernel
set_option maxRecDepth 100000 in
set_option maxHeartbeats 4000000 in
theorem zz_u118_1 : zz_okU 118 1 = true := by decide +kernel
theorem zz_v118 : zz_vv 118 := zz_okU_all (n := 2) (lt_s (lt_s (lt_0) zz_u118_0) zz_u118_1) (Nat.le_of_ble_eq_true rfl)
set_option maxRecDepth 100000 in
set_option maxHeartbeats 4000000 in
theorem zz_u119_0 : zz_okU 119 0 = true := by decide +kernel
set_option maxRecDepth 100000 in
set_option maxHeartbeats 4000000 in
theorem zz_u119_1 : zz_okU 119 1 = true := by decide +kernel
set_option maxRecDepth 100000 in
set_option maxHeartbeats 4000000 in
theorem zz_u119_2 : zz_okU 119 2 = true := by decide +kernel
set_option maxRecDepth 100000 in
set_option maxHeartbeats 4000000 in
theorem zz_u119_3 : zz_okU 119 3 = true := by decide +kernel
theorem zz_v119 : zz_vv 119 := zz_okU_all (n := 4) (lt_s (lt_s (lt_s (lt_s (lt_0) zz_u119_0) zz_u119_1) zz_u119_2) zz_u119_3) (Nat.le_of_ble_eq_true rfl)
set_option maxRecDepth 100000 in
set_option maxHeartbeats 4000000 in
theorem zz_u120_0 : zz_okU 120 0 = true := by decide +kernel
set_option maxRecDepth 100000 in
set_option maxHeartbeats 4000000 in
theorem zz_u120_1 : zz_okU 120 1 = true := by decide +kernel
set_option maxRecDepth 100000 in
set_option maxHeartbeats 4000000 in
theorem zz_u120_2 : zz_okU 120 2 = true := by decide +kernel
set_option maxRecDepth 100000 in
set_option maxHeartbeats 4000000 in
theorem zz_u120_3 : zz_okU 120 3 = true := by decide +kernel
set_option maxRecDepth 100000 in
set_option maxHeartbeats 4000000 in
theorem zz_u120_4 : zz_okU 120 4 = true := by decide +kernel
theorem zz_v120 : zz_vv 120 := zz_okU_all (n := 5) (lt_s (lt_s (lt_s (lt_s (lt_s (lt_0) zz_u120_0) zz_u120_1) zz_u120_2) zz_u120_3) zz_u120_4) (Nat.le_of_ble_eq_true rfl)
set_option maxRecDepth 100000 in
set_option maxHeartbeats 4000000 in
theorem zz_u121_0 : zz_okU 121 0 = true := by decide +kernel
set_option maxRecDepth 100000 in
set_option maxHeartbeats 4000000 in
theorem zz_u121_1 : zz_okU 121 1 = true := by decide +kernel
set_option maxRecDepth 100000 in
set_option maxHeartbeats 4000000 in
theorem zz_u121_2 : zz_okU 121 2 = true := by decide +kernel
set_option maxRecDepth 100000 in
set_option maxHeartbeats 4000000 in
theorem zz_u121_3 : zz_okU 121 3 = true := by decide +kernel
theorem zz_v121 : zz_vv 121 := zz_okU_all (n := 4) (lt_s (lt_s (lt_s (lt_s (lt_0) zz_u121_0) zz_u121_1) zz_u121_2) zz_u121_3) (Nat.le_of_ble_eq_true rfl)
set_option maxRecDepth 100000 in
set_option maxHeartbeats 4000000 in
theorem zz_u122_0 : zz_okU 122 0 = true := by decide +kernel
set_option maxRecDepth 100000 in
set_option maxHeartbeats 4000000 in
theorem zz_u122_1 : zz_okU 122 1 = true := by decide +kernel
set_option maxRecDepth 100000 in
set_option maxHeartbeats 4000000 in
theorem zz_u122_2 : zz_okU 122 2 = true := by decide +kernel
set_option maxRecDepth 100000 in
set_option maxHeartbeats 4000000 in
theorem zz_u122_3 : zz_okU 122 3 = true := by decide +kernel
theorem zz_v122 : zz_vv 122 := zz_okU_all (n := 4) (lt_s (lt_s (lt_s (lt_s (lt_0) zz_u122_0) zz_u122_1) zz_u122_2) zz_u122_3) (Nat.le_of_ble_eq_true rfl)
set_option maxRecDepth 100000 in
set_option maxHeartbeats 4000000 in
theorem zz_u123_0 : zz_okU 123 0 = true := by decide +kernel
theorem zz_v123 : zz_vv 123 := zz_okU_all (n := 1) (lt_s (lt_0) zz_u123_0) (Nat.le_of_ble_eq_true rfl)
set_option maxRecDepth 100000 in
set_option maxHeartbeats 4000000 in
theorem zz_u124_0 : zz_okU 124 0 = true := by decide +kernel
set_option maxRecDepth 100000 in
set_option maxHeartbeats 4000000 in
theorem zz_u124_1 : zz_okU 124 1 = true := by decide +kernel
set_option maxRecDepth 100000 in
set_option maxHeartbeats 4000000 in
theorem zz_u124_2 : zz_okU 124 2 = true := by decide +kernel
set_option maxRecDepth 100000 in
set_option maxHeartbeats 4000000 in
theorem zz_u124_3 : zz_okU 124 3 = true := by decide +kernel
set_option maxRecDepth 100000 in
set_option maxHeartbeats 4000000 in
theorem zz_u124_4 : zz_okU 124 4 = true := by decide +kernel
theorem zz_v124 : zz_vv 124 := zz_okU_all (n := 5) (lt_s (lt_s (lt_s (lt_s (lt_s (lt_0) zz_u124_0) zz_u124_1) zz_u124_2) zz_u124_3) zz_u124_4) (Nat.le_of_ble_eq_true rfl)
set_option maxRecDepth 100000 in
set_option maxHeartbeats 4000000 in
theorem zz_u125_0 : zz_okU 125 0 = true := by decide +kernel
theorem zz_v125 : zz_vv 125 := zz_okU_all (n := 1) (lt_s (lt_0) zz_u125_0) (Nat.le_of_ble_eq_true rfl)
set_option maxRecDepth 100000 in
set_option maxHeartbeats 4000000 in
theorem zz_u126_0 : zz_okU 126 0 = true := by decide +kernel
set_option maxRecDepth 100000 in
set_option maxHeartbeats 4000000 in
theorem zz_u126_1 : zz_okU 126 1 = true := by decide +kernel
set_option maxRecDepth 100000 in
set_option maxHeartbeats 4000000 in
theorem zz_u126_2 : zz_okU 126 2 = true := by decide +kernel
set_option maxRecDepth 100000 in
set_option maxHeartbeats 4000000 in
theorem zz_u126_3 : zz_okU 126 3 = true := by decide +kernel
theorem zz_v126 : zz_vv 126 := zz_okU_all (n := 4) (lt_s (lt_s (lt_s (lt_s (lt_0) zz_u126_0) zz_u126_1) zz_u126_2) zz_u126_3) (Nat.le_of_ble_eq_true rfl)
set_option maxRecDepth 100000 in
set_option maxHeartbeats 4000000 in
theorem zz_u127_0 : zz_okU 127 0 = true := by decide +kernel
set_option maxRecDepth 100000 in
set_option maxHeartbeats 4000000 in
theorem zz_u127_1 : zz_okU 127 1 = true := by decide +kernel
set_option maxRecDepth 100000 in
set_option maxHeartbeats 4000000 in
theorem zz_u127_2 : zz_okU 127 2 = true := by decide +kernel
set_option maxRecDepth 100000 in
set_option maxHeartbeats 4000000 in
theorem zz_u127_3 : zz_okU 127 3 = true := by decide +kernel
theorem zz_v127 : zz_vv 127 := zz_okU_all (n := 4) (lt_s (lt_s (lt_s (lt_s (lt_0) zz_u127_0) zz_u127_1) zz_u127_2) zz_u127_3) (Nat.le_of_ble_eq_true rfl)
set_option maxRecDepth 100000 in
set_option maxHeartbeats 4000000 in
theorem zz_u128_0 : zz_okU 128 0 = true := by decide +kernel
set_option maxRecDepth 100000 in
set_option maxHeartbeats 4000000 in
theorem zz_u128_1 : zz_okU 128 1 = true := by decide +kernel
set_option maxRecDepth 100000 in
set_option maxHeartbeats 4000000 in
theorem zz_u128_2 : zz_okU 128 2 = true := by decide +kernel
set_option maxRecDepth 100000 in
set_option maxHeartbeats 4000000 in
theorem zz_u128_3 : zz_okU 128 3 = true := by decide +kernel
set_option maxRecDepth 100000 in
set_option maxHeartbeats 4000000 in
theorem zz_u128_4 : zz_okU 128 4 = true := by decide +kernel
theorem zz_v128 : zz_vv 128 := zz_okU_all (n := 5) (lt_s (lt_s (lt_s (lt_s (lt_s (lt_0) zz_u128_0) zz_u128_1) zz_u128_2) zz_u128_3) zz_u128_4) (Nat.le_of_ble_eq_true rfl)
set_option maxRecDepth 100000 in
set_option maxHeartbeats 4000000 in
theorem zz_u129_0 : zz_okU 129 0 = true := by decide +kernel
set_option maxRecDepth 100000 in
set_option maxHeartbeats 4000000 in
theorem zz_u129_1 : zz_okU 129 1 = true := by decide +kernel
theorem zz_v129 : zz_vv 129 := zz_okU_all (n := 2) (lt_s (lt_s (lt_0) zz_u129_0) zz_u129_1) (Nat.le_of_ble_eq_true rfl)
set_option maxRecDepth 100000 in
set_option maxHeartbeats 4000000 in
theorem zz_u130_0 : zz_okU 130 0 = true := by decide +kernel
set_option maxRecDepth 100000 in
set_option maxHeartbeats 4000000 in
theorem zz_u130_1 : zz_okU 130 1 = true := by decide +kernel
set_option maxRecDepth 100000 in
set_option maxHeartbeats 4000000 in
theorem zz_u130_2 : zz_okU 130 2 = true := by decide +kernel
set_option maxRecDepth 100000 in
set_option maxHeartbeats 4000000 in
theorem zz_u130_3 : zz_okU 130 3 = true := by decide +kernel
theorem zz_v130 : zz_vv 130 := zz_okU_all (n := 4) (lt_s (lt_s (lt_s (lt_s (lt_0) zz_u130_0) zz_u130_1) zz_u130_2) zz_u130_3) (Nat.le_of_ble_eq_true rfl)
set_option maxRecDepth 100000 in
set_option maxHeartbeats 4000000 in
theorem zz_u131_0 : zz_okU 131 0 = true := by decide +kernel
set_option maxRecDepth 100000 in
set_option maxHeartbeats 4000000 in
theorem zz_u131_1 : zz_okU 131 1 = true := by decide +kernel
set_option maxRecDepth 100000 in
set_option maxHeartbeats 4000000 in
theorem zz_u131_2 : zz_okU 131 2 = true := by decide +kernel
set_option maxRecDepth 100000 in
set_option maxHeartbeats 4000000 in
theorem zz_u131_3 : zz_okU 131 3 = true := by decide +kernel
set_option maxRecDepth 100000 in
set_option maxHeartbeats 4000000 in
theorem zz_u131_4 : zz_okU 131 4 = true := by decide +kernel
theorem zz_v131 : zz_vv 131 := zz_okU_all (n := 5) (lt_s (lt_s (lt_s (lt_s (lt_s (lt_0) zz_u131_0) zz_u131_1) zz_u131_2) zz_u131_3) zz_u131_4) (Nat.le_of_ble_eq_true rfl)
set_option maxRecDepth 100000 in
set_option maxHeartbeats 4000000 in
theorem zz_u132_0 : zz_okU 132 0 = true := by decide +kernel
set_option maxRecDepth 100000 in
set_option maxHeartbeats 4000000 in
theorem zz_u132_1 : zz_okU 132 1 = true := by decide +kernel
set_option maxRecDepth 100000 in
set_option maxHeartbeats 4000000 in
theorem zz_u132_2 : zz_okU 132 2 = true := by decide +kernel
set_option maxRecDepth 100000 in
set_option maxHeartbeats 4000000 in
theorem zz_u132_3 : zz_okU 132 3 = true := by decide +kernel
set_option maxRecDepth 100000 in
set_option maxHeartbeats 4000000 in
theorem zz_u132_4 : zz_okU 132 4 = true := by decide +kernel
set_option maxRecDepth 100000 in
set_option maxHeartbeats 4000000 in
theorem zz_u132_5 : zz_okU 132 5 = true := by decide +kernel
set_option maxRecDepth 100000 in
set_option maxHeartbeats 4000000 in
theorem zz_u132_6 : zz_okU 132 6 = true := by decide +kernel
theorem zz_v132 : zz_vv 132 := zz_okU_all (n := 7) (lt_s (lt_s (lt_s (lt_s (lt_s (lt_s (lt_s (lt_0) zz_u132_0) zz_u132_1) zz_u132_2) zz_u132_3) zz_u132_4) zz_u132_5) zz_u132_6) (Nat.le_of_ble_eq_true rfl)
set_option maxRecDepth 100000 in
set_option maxHeartbeats 4000000 in
theorem zz_u133_0 : zz_okU 133 0 = true := by decide +kernel
theorem zz_v133 : zz_vv 133 := zz_okU_all (n := 1) (lt_s (lt_0) zz_u133_0) (Nat.le_of_ble_eq_true rfl)
set_option maxRecDepth 100000 in
set_option maxHeartbeats 4000000 in
theorem zz_u134_0 : zz_okU 134 0 = true := by decide +kernel
theorem zz_v134 : zz_vv 134 := zz_okU_all (n := 1) (lt_s (lt_0) zz_u134_0) (Nat.le_of_ble_eq_true rfl)
set_option maxRecDepth 100000 in
set_option maxHeartbeats 4000000 in
theorem zz_u135_0 : zz_okU 135 0 = true := by decide +kernel
set_option maxRecDepth 100000 in
set_option maxHeartbeats 4000000 in
theorem zz_u135_1 : zz_okU 135 1 = true := by decide +kernel
set_option maxRecDepth 100000 in
set_option maxHeartbeats 4000000 in
theorem zz_u135_2 : zz_okU 135 2 = true := by decide +kernel
set_option maxRecDepth 100000 in
set_option maxHeartbeats 4000000 in
theorem zz_u135_3 : zz_okU 135 3 = true := by decide +kernel
set_option maxRecDepth 100000 in
set_option maxHeartbeats 4000000 in
theorem zz_u135_4 : zz_okU 135 4 = true := by decide +kernel
set_option maxRecDepth 100000 in
set_option maxHeartbeats 4000000 in
theorem zz_u135_5 : zz_okU 135 5 = true := by decide +kernel
theorem zz_v135 : zz_vv 135 := zz_okU_all (n := 6) (lt_s (lt_s (lt_s (lt_s (lt_s (lt_s (lt_0) zz_u135_0) zz_u135_1) zz_u135_2) zz_u135_3) zz_u135_4) zz_u135_5) (Nat.le_of_ble_eq_true rfl)
set_option maxRecDepth 100000 in
set_option maxHeartbeats 4000000 in
theorem zz_u136_0 : zz_okU 136 0 = true := by decide +kernel
set_option maxRecDepth 100000 in
set_option maxHeartbeats 4000000 in
theorem zz_u136_1 : zz_okU 136 1 = true := by decide +kernel
set_option maxRecDepth 100000 in
set_option maxHeartbeats 4000000 in
theorem zz_u136_2 : zz_okU 136 2 = true := by decide +kernel
set_option maxRecDepth 100000 in
set_option maxHeartbeats 4000000 in
theorem zz_u136_3 : zz_okU 136 3 = true := by decide +kernel
theorem zz_v136 : zz_vv 136 := zz_okU_all (n := 4) (lt_s (lt_s (lt_s (lt_s (lt_0) zz_u136_0) zz_u136_1) zz_u136_2) zz_u136_3) (Nat.le_of_ble_eq_true rfl)
set_option maxRecDepth 100000 in
set_option maxHeartbeats 4000000 in
theorem zz_u137_0 : zz_okU 137 0 = true := by decide +kernel
set_option maxRecDepth 100000 in
set_option maxHeartbeats 4000000 in
theorem zz_u137_1 : zz_okU 137 1 = true := by decide +kernel
set_option maxRecDepth 100000 in
set_option maxHeartbeats 4000000 in
theorem zz_u137_2 : zz_okU 137 2 = true := by decide +kernel
theorem zz_v137 : zz_vv 137 := zz_okU_all (n := 3) (lt_s (lt_s (lt_s (lt_0) zz_u137_0) zz_u137_1) zz_u137_2) (Nat.le_of_ble_eq_true rfl)
set_option maxRecDepth 100000 in
set_option maxHeartbeats 4000000 in
theorem zz_u138_0 : zz_okU 138 0 = true := by decide +kernel
set_option maxRecDepth 100000 in
set_option maxHeartbeats 4000000 in
theorem zz_u138_1 : zz_okU 138 1 = true := by decide +kernel
set_option maxRecDepth 100000 in
set_option maxHeartbeats 4000000 in
theorem zz_u138_2 : zz_okU 138 2 = true := by decide +kernel
set_option maxRecDepth 100000 in
set_option maxHeartbeats 4000000 in
theorem zz_u138_3 : zz_okU 138 3 = true := by decide +kernel
theorem zz_v138 : zz_vv 138 := zz_okU_all (n := 4) (lt_s (lt_s (lt_s (lt_s (lt_0) zz_u138_0) zz_u138_1) zz_u138_2) zz_u138_3) (Nat.le_of_ble_eq_true rfl)
set_option maxRecDepth 100000 in
set_option maxHeartbeats 4000000 in
theorem zz_u139_0 : zz_okU 139 0 = true := by decide +kernel
theorem zz_v139 : zz_vv 139 := zz_okU_all (n := 1) (lt_s (lt_0) zz_u139_0) (Nat.le_of_ble_eq_true rfl)
set_option maxRecDepth 100000 in
set_option maxHeartbeats 4000000 in
theorem zz_u140_0 : zz_okU 140 0 = true := by decide +kernel
set_option maxRecDepth 100000 in
set_option maxHeartbeats 4000000 in
theorem zz_u140_1 : zz_okU 140 1 = true := by decide +kernel
set_option maxRecDepth 100000 in
set_option maxHeartbeats 4000000 in
theorem zz_u140_2 : zz_okU 140 2 = true := by decide +kernel
theorem zz_v140 : zz_vv 140 := zz_okU_all (n := 3) (lt_s (lt_s (lt_s (lt_0) zz_u140_0) zz_u140_1) zz_u140_2) (Nat.le_of_ble_eq_true rfl)
set_option maxRecDepth 100000 in
set_option maxHeartbeats 4000000 in
theorem zz_u141_0 : zz_okU 141 0 = true := by decide +kernel
theorem zz_v141 : zz_vv 141 := zz_okU_all (n := 1) (lt_s (lt_0) zz_u141_0) (Nat.le_of_ble_eq_true rfl)
set_option maxRecDepth 100000 in
set_option maxHeartbeats 4000000 in
theorem zz_u142_0 : zz_okU 142 0 = true := by decide +kernel
set_option maxRecDepth 100000 in
set_option maxHeartbeats 4000000 in
theorem zz_u142_1 : zz_okU 142 1 = true := by decide +kernel
theorem zz_v142 : zz_vv 142 := zz_okU_all (n := 2) (lt_s (lt_s (lt_0) zz_u142_0) zz_u142_1) (Nat.le_of_ble_eq_true rfl)
set_option maxRecDepth 100000 in
set_option maxHeartbeats 4000000 in
theorem zz_u143_0 : zz_okU 143 0 = true := by decide +kernel
theorem zz_v143 : zz_vv 143 := zz_okU_all (n := 1) (lt_s (lt_0) zz_u143_0) (Nat.le_of_ble_eq_true rfl)
set_option maxRecDepth 100000 in
set_option maxHeartbeats 4000000 in
theorem zz_u144_0 : zz_okU 144 0 = true := by decide +kernel
theorem zz_v144 : zz_vv 144 := zz_okU_all (n := 1) (lt_s (lt_0) zz_u144_0) (Nat.le_of_ble_eq_true rfl)
set_option maxRecDepth 100000 in
set_option maxHeartbeats 4000000 in
theorem zz_u145_0 : zz_okU 145 0 = true := by decide +kernel
theorem zz_v145 : zz_vv 145 := zz_okU_all (n := 1) (lt_s (lt_0) zz_u145_0) (Nat.le_of_ble_eq_true rfl)
set_option maxRecDepth 100000 in
set_option maxHeartbeats 4000000 in
theorem zz_u146_0 : zz_okU 146 0 = true := by decide +kernel
set_option maxRecDepth 100000 in
set_option maxHeartbeats 4000000 in
theorem zz_u146_1 : zz_okU 146 1 = true := by decide +kernel
set_option maxRecDepth 100000 in
set_option maxHeartbeats 4000000 in
theorem zz_u146_2 : zz_okU 146 2 = true := by decide +kernel
set_option maxRecDepth 100000 in
set_option maxHeartbeats 4000000 in
theorem zz_u146_3 : zz_okU 146 3 = true := by decide +kernel
theorem zz_v146 : zz_vv 146 := zz_okU_all (n := 4) (lt_s (lt_s (lt_s (lt_s (lt_0) zz_u146_0) zz_u146_1) zz_u146_2) zz_u146_3) (Nat.le_of_ble_eq_true rfl)
set_option maxRecDepth 100000 in
set_option maxHeartbeats 4000000 in
theorem zz_u147_0 : zz_okU 147 0 = true := by decide +kernel
theorem zz_v147 : zz_vv 147 := zz_okU_all (n := 1) (lt_s (lt_0) zz_u147_0) (Nat.le_of_ble_eq_true rfl)
set_option maxRecDepth 100000 in
set_option maxHeartbeats 4000000 in
theorem zz_u148_0 : zz_okU 148 0 = true := by decide +kernel
set_option maxRecDepth 100000 in
set_option maxHeartbeats 4000000 in
theorem zz_u148_1 : zz_okU 148 1 = true := by decide +kernel
theorem zz_v148 : zz_vv 148 := zz_okU_all (n := 2) (lt_s (lt_s (lt_0) zz_u148_0) zz_u148_1) (Nat.le_of_ble_eq_true rfl)
set_option maxRecDepth 100000 in
set_option maxHeartbeats 4000000 in
theorem zz_u149_0 : zz_okU 149 0 = true := by decide +kernel
theorem zz_v149 : zz_vv 149 := zz_okU_all (n := 1) (lt_s (lt_0) zz_u149_0) (Nat.le_of_ble_eq_true rfl)
set_option maxRecDepth 100000 in
set_option maxHeartbeats 4000000 in
theorem zz_u270_0 : zz_okU 270 0 = true := by decide +kernel
theorem zz_v270 : zz_vv 270 := zz_okU_all (n := 1) (lt_s (lt_0) zz_u270_0) (Nat.le_of_ble_eq_true rfl)
set_option maxRecDepth 100000 in
set_option maxHeartbeats 4000000 in
theorem zz_u271_0 : zz_okU 271 0 = true := by decide +kernel
theorem zz_v271 : zz_vv 271 := zz_okU_all (n := 1) (lt_s (lt_0) zz_u271_0) (Nat.le_of_ble_eq_true rfl)
set_option maxRecDepth 100000 in
set_option maxHeartbeats 4000000 in
theorem zz_u272_0 : zz_okU 272 0 = true := by decide +kernel
set_option maxRecDepth 100000 in
set_option maxHeartbeats 4000000 in
theorem zz_u272_1 : zz_okU 272 1 = true := by decide +kernel
set_option maxRecDepth 100000 in
set_option maxHeartbeats 4000000 in
theorem zz_u272_2 : zz_okU 272 2 = true := by decide +kernel
theorem zz_v272 : zz_vv 272 := zz_okU_all (n := 3) (lt_s (lt_s (lt_s (lt_0) zz_u272_0) zz_u272_1) zz_u272_2) (Nat.le_of_ble_eq_true rfl)
set_option maxRecDepth 100000 in
set_option maxHeartbeats 4000000 in
theorem zz_u273_0 : zz_okU 273 0 = true := by decide +kernel
set_option maxRecDepth 100000 in
set_option maxHeartbeats 4000000 in
theorem zz_u273_1 : zz_okU 273 1 = true := by decide +kernel
set_option maxRecDepth 100000 in
set_option maxHeartbeats 4000000 in
theorem zz_u273_2 : zz_okU 273 2 = true := by decide +kernel
theorem zz_v273 : zz_vv 273 := zz_okU_all (n := 3) (lt_s (lt_s (lt_s (lt_0) zz_u273_0) zz_u273_1) zz_u273_2) (Nat.le_of_ble_eq_true rfl)
set_option maxRecDepth 100000 in
set_option maxHeartbeats 4000000 in
theorem zz_u274_0 : zz_okU 274 0 = true := by decide +kernel
theorem zz_v274 : zz_vv 274 := zz_okU_all (n := 1) (lt_s (lt_0) zz_u274_0) (Nat.le_of_ble_eq_true rfl)
set_option maxRecDepth 100000 in
set_option maxHeartbeats 4000000 in
theorem zz_u275_0 : zz_okU 275 0 = true := by decide +kernel
set_option maxRecDepth 100000 in
set_option maxHeartbeats 4000000 in
theorem zz_u275_1 : zz_okU 275 1 = true := by decide +kernel
set_option maxRecDepth 100000 in
set_option maxHeartbeats 4000000 in
theorem zz_u275_2 : zz_okU 275 2 = true := by decide +kernel
theorem zz_v275 : zz_vv 275 := zz_okU_all (n := 3) (lt_s (lt_s (lt_s (lt_0) zz_u275_0) zz_u275_1) zz_u275_2) (Nat.le_of_ble_eq_true rfl)
set_option maxRecDepth 100000 in
set_option maxHeartbeats 4000000 in
theorem zz_u276_0 : zz_okU 276 0 = true := by decide +kernel
set_option maxRecDepth 100000 in
set_option maxHeartbeats 4000000 in
theorem zz_u276_1 : zz_okU 276 1 = true := by decide +kernel
set_option maxRecDepth 100000 in
set_option maxHeartbeats 4000000 in
theorem zz_u276_2 : zz_okU 276 2 = true := by decide +kernel
set_option maxRecDepth 100000 in
set_option maxHeartbeats 4000000 in
theorem zz_u276_3 : zz_okU 276 3 = true := by decide +kernel
set_option maxRecDepth 100000 in
set_option maxHeartbeats 4000000 in
theorem zz_u276_4 : zz_okU 276 4 = true := by decide +kernel
set_option maxRecDepth 100000 in
set_option maxHeartbeats 4000000 in
theorem zz_u276_5 : zz_okU 276 5 = true := by decide +kernel
set_option maxRecDepth 100000 in
set_option maxHeartbeats 4000000 in
theorem zz_u276_6 : zz_okU 276 6 = true := by decide +kernel
set_option maxRecDepth 100000 in
set_option maxHeartbeats 4000000 in
theorem zz_u276_7 : zz_okU 276 7 = true := by decide +kernel
set_option maxRecDepth 100000 in
set_option maxHeartbeats 4000000 in
theorem zz_u276_8 : zz_okU 276 8 = true := by decide +kernel
set_option maxRecDepth 100000 in
set_option maxHeartbeats 4000000 in
theorem zz_u276_9 : zz_okU 276 9 = true := by decide +kernel
set_option maxRecDepth 100000 in
set_option maxHeartbeats 4000000 in
theorem zz_u276_10 : zz_okU 276 10 = true := by decide +kernel
set_option maxRecDepth 100000 in
set_option maxHeartbeats 4000000 in
theorem zz_u276_11 : zz_okU 276 11 = true := by decide +kernel
set_option maxRecDepth 100000 in
set_option maxHeartbeats 4000000 in
theorem zz_u276_12 : zz_okU 276 12 = true := by decide +kernel
set_option maxRecDepth 100000 in
set_option maxHeartbeats 4000000 in
theorem zz_u276_13 : zz_okU 276 13 = true := by decide +kernel
set_option maxRecDepth 100000 in
set_option maxHeartbeats 4000000 in
theorem zz_u276_14 : zz_okU 276 14 = true := by decide +kernel
set_option maxRecDepth 100000 in
set_option maxHeartbeats 4000000 in
theorem zz_u276_15 : zz_okU 276 15 = true := by decide +kernel
set_option maxRecDepth 100000 in
set_option maxHeartbeats 4000000 in
theorem zz_u276_16 : zz_okU 276 16 = true := by decide +kernel
set_option maxRecDepth 100000 in
set_option maxHeartbeats 4000000 in
theorem zz_u276_17 : zz_okU 276 17 = true := by decide +kernel
set_option maxRecDepth 100000 in
set_option maxHeartbeats 4000000 in
theorem zz_u276_18 : zz_okU 276 18 = true := by decide +kernel
set_option maxRecDepth 100000 in
set_option maxHeartbeats 4000000 in
theorem zz_u276_19 : zz_okU 276 19 = true := by decide +kernel
theorem zz_v276 : zz_vv 276 := zz_okU_all (n := 20) (lt_s (lt_s (lt_s (lt_s (lt_s (lt_s (lt_s (lt_s (lt_s (lt_s (lt_s (lt_s (lt_s (lt_s (lt_s (lt_s (lt_s (lt_s (lt_s (lt_s (lt_0) zz_u276_0) zz_u276_1) zz_u276_2) zz_u276_3) zz_u276_4) zz_u276_5) zz_u276_6) zz_u276_7) zz_u276_8) zz_u276_9) zz_u276_10) zz_u276_11) zz_u276_12) zz_u276_13) zz_u276_14) zz_u276_15) zz_u276_16) zz_u276_17) zz_u276_18) zz_u276_19) (Nat.le_of_ble_eq_true rfl)
set_option maxRecDepth 100000 in
set_option maxHeartbeats 4000000 in
theorem zz_u277_0 : zz_okU 277 0 = true := by decide +kernel
set_option maxRecDepth 100000 in
set_option maxHeartbeats 4000000 in
theorem zz_u277_1 : zz_okU 277 1 = true := by decide +kernel
set_option maxRecDepth 100000 in
set_option maxHeartbeats 4000000 in
theorem zz_u277_2 : zz_okU 277 2 = true := by decide +kernel
theorem zz_v277 : zz_vv 277 := zz_okU_all (n := 3) (lt_s (lt_s (lt_s (lt_0) zz_u277_0) zz_u277_1) zz_u277_2) (Nat.le_of_ble_eq_true rfl)
set_option maxRecDepth 100000 in
set_option maxHeartbeats 4000000 in
theorem zz_u278_0 : zz_okU 278 0 = true := by decide +kernel
set_option maxRecDepth 100000 in
set_option maxHeartbeats 4000000 in
theorem zz_u278_1 : zz_okU 278 1 = true := by decide +kernel
set_option maxRecDepth 100000 in
set_option maxHeartbeats 4000000 in
theorem zz_u278_2 : zz_okU 278 2 = true := by decide +kernel
set_option maxRecDepth 100000 in
set_option maxHeartbeats 4000000 in
theorem zz_u278_3 : zz_okU 278 3 = true := by decide +kernel
set_option maxRecDepth 100000 in
set_option maxHeartbeats 4000000 in
theorem zz_u278_4 : zz_okU 278 4 = true := by decide +kernel
set_option maxRecDepth 100000 in
set_option maxHeartbeats 4000000 in
theorem zz_u278_5 : zz_okU 278 5 = true := by decide +kernel
set_option maxRecDepth 100000 in
set_option maxHeartbeats 4000000 in
theorem zz_u278_6 : zz_okU 278 6 = true := by decide +kernel
set_option maxRecDepth 100000 in
set_option maxHeartbeats 4000000 in
theorem zz_u278_7 : zz_okU 278 7 = true := by decide +kernel
set_option maxRecDepth 100000 in
set_option maxHeartbeats 4000000 in
theorem zz_u278_8 : zz_okU 278 8 = true := by decide +kernel
set_option maxRecDepth 100000 in
set_option maxHeartbeats 4000000 in
theorem zz_u278_9 : zz_okU 278 9 = true := by decide +kernel
set_option maxRecDepth 100000 in
set_option maxHeartbeats 4000000 in
theorem zz_u278_10 : zz_okU 278 10 = true := by decide +kernel
set_option maxRecDepth 100000 in
set_option maxHeartbeats 4000000 in
theorem zz_u278_11 : zz_okU 278 11 = true := by decide +kernel
set_option maxRecDepth 100000 in
set_option maxHeartbeats 4000000 in
theorem zz_u278_12 : zz_okU 278 12 = true := by decide +kernel
set_option maxRecDepth 100000 in
set_option maxHeartbeats 4000000 in
theorem zz_u278_13 : zz_okU 278 13 = true := by decide +kernel
set_option maxRecDepth 100000 in
set_option maxHeartbeats 4000000 in
theorem zz_u278_14 : zz_okU 278 14 = true := by decide +kernel
set_option maxRecDepth 100000 in
set_option maxHeartbeats 4000000 in
theorem zz_u278_15 : zz_okU 278 15 = true := by decide +kernel
set_option maxRecDepth 100000 in
set_option maxHeartbeats 4000000 in
theorem zz_u278_16 : zz_okU 278 16 = true := by decide +kernel
set_option maxRecDepth 100000 in
set_option maxHeartbeats 4000000 in
theorem zz_u278_17 : zz_okU 278 17 = true := by decide +kernel
set_option maxRecDepth 100000 in
set_option maxHeartbeats 4000000 in
theorem zz_u278_18 : zz_okU 278 18 = true := by decide +kernel
set_option maxRecDepth 100000 in
set_option maxHeartbeats 4000000 in
theorem zz_u278_19 : zz_okU 278 19 = true := by decide +kernel
set_option maxRecDepth 100000 in
set_option maxHeartbeats 4000000 in
theorem zz_u278_20 : zz_okU 278 20 = true := by decide +kernel
set_option maxRecDepth 100000 in
set_option maxHeartbeats 4000000 in
theorem zz_u278_21 : zz_okU 278 21 = true := by decide +kernel
set_option maxRecDepth 100000 in
set_option maxHeartbeats 4000000 in
theorem zz_u278_22 : zz_okU 278 22 = true := by decide +kernel
set_option maxRecDepth 100000 in
set_option maxHeartbeats 4000000 in
theorem zz_u278_23 : zz_okU 278 23 = true := by decide +kernel
set_option maxRecDepth 100000 in
set_option maxHeartbeats 4000000 in
theorem zz_u278_24 : zz_okU 278 24 = true := by decide +kernel
set_option maxRecDepth 100000 in
set_option maxHeartbeats 4000000 in
theorem zz_u278_25 : zz_okU 278 25 = true := by decide +kernel
set_option maxRecDepth 100000 in
set_option maxHeartbeats 4000000 in
theorem zz_u278_26 : zz_okU 278 26 = true := by decide +kernel
set_option maxRecDepth 100000 in
set_option maxHeartbeats 4000000 in
theorem zz_u278_27 : zz_okU 278 27 = true := by decide +kernel
set_option maxRecDepth 100000 in
set_option maxHeartbeats 4000000 in
theorem zz_u278_28 : zz_okU 278 28 = true := by decide +kernel
set_option maxRecDepth 100000 in
set_option maxHeartbeats 4000000 in
theorem zz_u278_29 : zz_okU 278 29 = true := by decide +kernel
set_option maxRecDepth 100000 in
set_option maxHeartbeats 4000000 in
theorem zz_u278_30 : zz_okU 278 30 = true := by decide +kernel
set_option maxRecDepth 100000 in
set_option maxHeartbeats 4000000 in
theorem zz_u278_31 : zz_okU 278 31 = true := by decide +kernel
set_option maxRecDepth 100000 in
set_option maxHeartbeats 4000000 in
theorem zz_u278_32 : zz_okU 278 32 = true := by decide +kernel
theorem zz_v278 : zz_vv 278 := zz_okU_all (n := 33) (lt_s (lt_s (lt_s (lt_s (lt_s (lt_s (lt_s (lt_s (lt_s (lt_s (lt_s (lt_s (lt_s (lt_s (lt_s (lt_s (lt_s (lt_s (lt_s (lt_s (lt_s (lt_s (lt_s (lt_s (lt_s (lt_s (lt_s (lt_s (lt_s (lt_s (lt_s (lt_s (lt_s (lt_0) zz_u278_0) zz_u278_1) zz_u278_2) zz_u278_3) zz_u278_4) zz_u278_5) zz_u278_6) zz_u278_7) zz_u278_8) zz_u278_9) zz_u278_10) zz_u278_11) zz_u278_12) zz_u278_13) zz_u278_14) zz_u278_15) zz_u278_16) zz_u278_17) zz_u278_18) zz_u278_19) zz_u278_20) zz_u278_21) zz_u278_22) zz_u278_23) zz_u278_24) zz_u278_25) zz_u278_26) zz_u278_27) zz_u278_28) zz_u278_29) zz_u278_30) zz_u278_31) zz_u278_32) (Nat.le_of_ble_eq_true rfl)
set_option maxRecDepth 100000 in
set_option maxHeartbeats 4000000 in
theorem zz_u279_0 : zz_okU 279 0 = true := by decide +kernel
set_option maxRecDepth 100000 in
set_option maxHeartbeats 4000000 in
theorem zz_u279_1 : zz_okU 279 1 = true := by decide +kernel
set_option maxRecDepth 100000 in
set_option maxHeartbeats 4000000 in
theorem zz_u279_2 : zz_okU 279 2 = true := by decide +kernel
set_option maxRecDepth 100000 in
set_option maxHeartbeats 4000000 in
theorem zz_u279_3 : zz_okU 279 3 = true := by decide +kernel
set_option maxRecDepth 100000 in
set_option maxHeartbeats 4000000 in
theorem zz_u279_4 : zz_okU 279 4 = true := by decide +kernel
set_option maxRecDepth 100000 in
set_option maxHeartbeats 4000000 in
theorem zz_u279_5 : zz_okU 279 5 = true := by decide +kernel
set_option maxRecDepth 100000 in
set_option maxHeartbeats 4000000 in
theorem zz_u279_6 : zz_okU 279 6 = true := by decide +kernel
set_option maxRecDepth 100000 in
set_option maxHeartbeats 4000000 in
theorem zz_u279_7 : zz_okU 279 7 = true := by decide +kernel
set_option maxRecDepth 100000 in
set_option maxHeartbeats 4000000 in
theorem zz_u279_8 : zz_okU 279 8 = true := by decide +kernel
set_option maxRecDepth 100000 in
set_option maxHeartbeats 4000000 in
theorem zz_u279_9 : zz_okU 279 9 = true := by decide +kernel
set_option maxRecDepth 100000 in
set_option maxHeartbeats 4000000 in
theorem zz_u279_10 : zz_okU 279 10 = true := by decide +kernel
set_option maxRecDepth 100000 in
set_option maxHeartbeats 4000000 in
theorem zz_u279_11 : zz_okU 279 11 = true := by decide +kernel
set_option maxRecDepth 100000 in
set_option maxHeartbeats 4000000 in
theorem zz_u279_12 : zz_okU 279 12 = true := by decide +kernel
set_option maxRecDepth 100000 in
set_option maxHeartbeats 4000000 in
theorem zz_u279_13 : zz_okU 279 13 = true := by decide +kernel
set_option maxRecDepth 100000 in
set_option maxHeartbeats 4000000 in
theorem zz_u279_14 : zz_okU 279 14 = true := by decide +kernel
set_option maxRecDepth 100000 in
set_option maxHeartbeats 4000000 in
theorem zz_u279_15 : zz_okU 279 15 = true := by decide +kernel
set_option maxRecDepth 100000 in
set_option maxHeartbeats 4000000 in
theorem zz_u279_16 : zz_okU 279 16 = true := by decide +kernel
set_option maxRecDepth 100000 in
set_option maxHeartbeats 4000000 in
theorem zz_u279_17 : zz_okU 279 17 = true := by decide +kernel
set_option maxRecDepth 100000 in
set_option maxHeartbeats 4000000 in
theorem zz_u279_18 : zz_okU 279 18 = true := by decide +kernel
set_option maxRecDepth 100000 in
set_option maxHeartbeats 4000000 in
theorem zz_u279_19 : zz_okU 279 19 = true := by decide +kernel
set_option maxRecDepth 100000 in
set_option maxHeartbeats 4000000 in
theorem zz_u279_20 : zz_okU 279 20 = true := by decide +kernel
set_option maxRecDepth 100000 in
set_option maxHeartbeats 4000000 in
theorem zz_u279_21 : zz_okU 279 21 = true := by decide +kernel
set_option maxRecDepth 100000 in
set_option maxHeartbeats 4000000 in
theorem zz_u279_22 : zz_okU 279 22 = true := by decide +kernel
set_option maxRecDepth 100000 in
set_option maxHeartbeats 4000000 in
theorem zz_u279_23 : zz_okU 279 23 = true := by decide +kernel
set_option maxRecDepth 100000 in
set_option maxHeartbeats 4000000 in
theorem zz_u279_24 : zz_okU 279 24 = true := by decide +kernel
set_option maxRecDepth 100000 in
set_option maxHeartbeats 4000000 in
theorem zz_u279_25 : zz_okU 279 25 = true := by decide +kernel
set_option maxRecDepth 100000 in
set_option maxHeartbeats 4000000 in
theorem zz_u279_26 : zz_okU 279 26 = true := by decide +kernel
set_option maxRecDepth 100000 in
set_option maxHeartbeats 4000000 in
theorem zz_u279_27 : zz_okU 279 27 = true := by decide +kernel
set_option maxRecDepth 100000 in
set_option maxHeartbeats 4000000 in
theorem zz_u279_28 : zz_okU 279 28 = true := by decide +kernel
set_option maxRecDepth 100000 in
set_option maxHeartbeats 4000000 in
theorem zz_u279_29 : zz_okU 279 29 = true := by decide +kernel
set_option maxRecDepth 100000 in
set_option maxHeartbeats 4000000 in
theorem zz_u279_30 : zz_okU 279 30 = true := by decide +kernel
set_option maxRecDepth 100000 in
set_option maxHeartbeats 4000000 in
theorem zz_u279_31 : zz_okU 279 31 = true := by decide +kernel
set_option maxRecDepth 100000 in
set_option maxHeartbeats 4000000 in
theorem zz_u279_32 : zz_okU 279 32 = true := by decide +kernel
set_option maxRecDepth 100000 in
set_option maxHeartbeats 4000000 in
theorem zz_u279_33 : zz_okU 279 33 = true := by decide +kernel
set_option maxRecDepth 100000 in
set_option maxHeartbeats 4000000 in
theorem zz_u279_34 : zz_okU 279 34 = true := by decide +kernel
set_option maxRecDepth 100000 in
set_option maxHeartbeats 4000000 in
theorem zz_u279_35 : zz_okU 279 35 = true := by decide +kernel
set_option maxRecDepth 100000 in
set_option maxHeartbeats 4000000 in
theorem zz_u279_36 : zz_okU 279 36 = true := by decide +kernel
set_option maxRecDepth 100000 in
set_option maxHeartbeats 4000000 in
theorem zz_u279_37 : zz_okU 279 37 = true := by decide +kernel
theorem zz_v279 : zz_vv 279 := zz_okU_all (n := 38) (lt_s (lt_s (lt_s (lt_s (lt_s (lt_s (lt_s (lt_s (lt_s (lt_s (lt_s (lt_s (lt_s (lt_s (lt_s (lt_s (lt_s (lt_s (lt_s (lt_s (lt_s (lt_s (lt_s (lt_s (lt_s (lt_s (lt_s (lt_s (lt_s (lt_s (lt_s (lt_s (lt_s (lt_s (lt_s (lt_s (lt_s (lt_s (lt_0) zz_u279_0) zz_u279_1) zz_u279_2) zz_u279_3) zz_u279_4) zz_u279_5) zz_u279_6) zz_u279_7) zz_u279_8) zz_u279_9) zz_u279_10) zz_u279_11) zz_u279_12) zz_u279_13) zz_u279_14) zz_u279_15) zz_u279_16) zz_u279_17) zz_u279_18) zz_u279_19) zz_u279_20) zz_u279_21) zz_u279_22) zz_u279_23) zz_u279_24) zz_u279_25) zz_u279_26) zz_u279_27) zz_u279_28) zz_u279_29) zz_u279_30) zz_u279_31) zz_u279_32) zz_u279_33) zz_u279_34) zz_u279_35) zz_u279_36) zz_u279_37) (Nat.le_of_ble_eq_true rfl)
set_option maxRecDepth 100000 in
set_option maxHeartbeats 4000000 in
theorem zz_u280_0 : zz_okU 280 0 = true := by decide +kernel
set_option maxRecDepth 100000 in
set_option maxHeartbeats 4000000 in
theorem zz_u280_1 : zz_okU 280 1 = true := by decide +kernel
set_option maxRecDepth 100000 in
set_option maxHeartbeats 4000000 in
theorem zz_u280_2 : zz_okU 280 2 = true := by decide +kernel
theorem zz_v280 : zz_vv 280 := zz_okU_all (n := 3) (lt_s (lt_s (lt_s (lt_0) zz_u280_0) zz_u280_1) zz_u280_2) (Nat.le_of_ble_eq_true rfl)
set_option maxRecDepth 100000 in
set_option maxHeartbeats 4000000 in
theorem zz_u281_0 : zz_okU 281 0 = true := by decide +kernel
set_option maxRecDepth 100000 in
set_option maxHeartbeats 4000000 in
theorem zz_u281_1 : zz_okU 281 1 = true := by decide +kernel
set_option maxRecDepth 100000 in
set_option maxHeartbeats 4000000 in
theorem zz_u281_2 : zz_okU 281 2 = true := by decide +kernel
set_option maxRecDepth 100000 in
set_option maxHeartbeats 4000000 in
theorem zz_u281_3 : zz_okU 281 3 = true := by decide +kernel
set_option maxRecDepth 100000 in
set_option maxHeartbeats 4000000 in
theorem zz_u281_4 : zz_okU 281 4 = true := by decide +kernel
set_option maxRecDepth 100000 in
set_option maxHeartbeats 4000000 in
theorem zz_u281_5 : zz_okU 281 5 = true := by decide +kernel
theorem zz_v281 : zz_vv 281 := zz_okU_all (n := 6) (lt_s (lt_s (lt_s (lt_s (lt_s (lt_s (lt_0) zz_u281_0) zz_u281_1) zz_u281_2) zz_u281_3) zz_u281_4) zz_u281_5) (Nat.le_of_ble_eq_true rfl)
set_option maxRecDepth 100000 in
set_option maxHeartbeats 4000000 in
theorem zz_u282_0 : zz_okU 282 0 = true := by decide +kernel
set_option maxRecDepth 100000 in
set_option maxHeartbeats 4000000 in
theorem zz_u282_1 : zz_okU 282 1 = true := by decide +kernel
theorem zz_v282 : zz_vv 282 := zz_okU_all (n := 2) (lt_s (lt_s (lt_0) zz_u282_0) zz_u282_1) (Nat.le_of_ble_eq_true rfl)
set_option maxRecDepth 100000 in
set_option maxHeartbeats 4000000 in
theorem zz_u283_0 : zz_okU 283 0 = true := by decide +kernel
set_option maxRecDepth 100000 in
set_option maxHeartbeats 4000000 in
theorem zz_u283_1 : zz_okU 283 1 = true := by decide +kernel
theorem zz_v283 : zz_vv 283 := zz_okU_all (n := 2) (lt_s (lt_s (lt_0) zz_u283_0) zz_u283_1) (Nat.le_of_ble_eq_true rfl)
set_option maxRecDepth 100000 in
set_option maxHeartbeats 4000000 in
theorem zz_u284_0 : zz_okU 284 0 = true := by decide +kernel
set_option maxRecDepth 100000 in
set_option maxHeartbeats 4000000 in
theorem zz_u284_1 : zz_okU 284 1 = true := by decide +kernel
set_option maxRecDepth 100000 in
set_option maxHeartbeats 4000000 in
theorem zz_u284_2 : zz_okU 284 2 = true := by decide +kernel
theorem zz_v284 : zz_vv 284 := zz_okU_all (n := 3) (lt_s (lt_s (lt_s (lt_0) zz_u284_0) zz_u284_1) zz_u284_2) (Nat.le_of_ble_eq_true rfl)
set_option maxRecDepth 100000 in
set_option maxHeartbeats 4000000 in
theorem zz_u285_0 : zz_okU 285 0 = true := by decide +kernel
theorem zz_v285 : zz_vv 285 := zz_okU_all (n := 1) (lt_s (lt_0) zz_u285_0) (Nat.le_of_ble_eq_true rfl)
set_option maxRecDepth 100000 in
set_option maxHeartbeats 4000000 in
theorem zz_u286_0 : zz_okU 286 0 = true := by decide +kernel
set_option maxRecDepth 100000 in
set_option maxHeartbeats 4000000 in
theorem zz_u286_1 : zz_okU 286 1 = true := by decide +kernel
theorem zz_v286 : zz_vv 286 := zz_okU_all (n := 2) (lt_s (lt_s (lt_0) zz_u286_0) zz_u286_1) (Nat.le_of_ble_eq_true rfl)
set_option maxRecDepth 100000 in
set_option maxHeartbeats 4000000 in
theorem zz_u287_0 : zz_okU 287 0 = true := by decide +kernel
theorem zz_v287 : zz_vv 287 := zz_okU_all (n := 1) (lt_s (lt_0) zz_u287_0) (Nat.le_of_ble_eq_true rfl)
set_option maxRecDepth 100000 in
set_option maxHeartbeats 4000000 in
theorem zz_u288_0 : zz_okU 288 0 = true := by decide +kernel
set_option maxRecDepth 100000 in
set_option maxHeartbeats 4000000 in
theorem zz_u288_1 : zz_okU 288 1 = true := by decide +kernel
set_option maxRecDepth 100000 in
set_option maxHeartbeats 4000000 in
theorem zz_u288_2 : zz_okU 288 2 = true := by decide +kernel
set_option maxRecDepth 100000 in
set_option maxHeartbeats 4000000 in
theorem zz_u288_3 : zz_okU 288 3 = true := by decide +kernel
set_option maxRecDepth 100000 in
set_option maxHeartbeats 4000000 in
theorem zz_u288_4 : zz_okU 288 4 = true := by decide +kernel
set_option maxRecDepth 100000 in
set_option maxHeartbeats 4000000 in
theorem zz_u288_5 : zz_okU 288 5 = true := by decide +kernel
theorem zz_v288 : zz_vv 288 := zz_okU_all (n := 6) (lt_s (lt_s (lt_s (lt_s (lt_s (lt_s (lt_0) zz_u288_0) zz_u288_1) zz_u288_2) zz_u288_3) zz_u288_4) zz_u288_5) (Nat.le_of_ble_eq_true rfl)
set_option maxRecDepth 100000 in
set_option maxHeartbeats 4000000 in
theorem zz_u289_0 : zz_okU 289 0 = true := by decide +kernel
set_option maxRecDepth 100000 in
set_option maxHeartbeats 4000000 in
theorem zz_u289_1 : zz_okU 289 1 = true := by decide +kernel
set_option maxRecDepth 100000 in
set_option maxHeartbeats 4000000 in
theorem zz_u289_2 : zz_okU 289 2 = true := by decide +kernel
set_option maxRecDepth 100000 in
set_option maxHeartbeats 4000000 in
theorem zz_u289_3 : zz_okU 289 3 = true := by decide +kernel
theorem zz_v289 : zz_vv 289 := zz_okU_all (n := 4) (lt_s (lt_s (lt_s (lt_s (lt_0) zz_u289_0) zz_u289_1) zz_u289_2) zz_u289_3) (Nat.le_of_ble_eq_true rfl)
set_option maxRecDepth 100000 in
set_option maxHeartbeats 4000000 in
theorem zz_u290_0 : zz_okU 290 0 = true := by decide +kernel
theorem zz_v290 : zz_vv 290 := zz_okU_all (n := 1) (lt_s (lt_0) zz_u290_0) (Nat.le_of_ble_eq_true rfl)
set_option maxRecDepth 100000 in
set_option maxHeartbeats 4000000 in
theorem zz_u291_0 : zz_okU 291 0 = true := by decide +kernel
theorem zz_v291 : zz_vv 291 := zz_okU_all (n := 1) (lt_s (lt_0) zz_u291_0) (Nat.le_of_ble_eq_true rfl)
set_option maxRecDepth 100000 in
set_option maxHeartbeats 4000000 in
theorem zz_u292_0 : zz_okU 292 0 = true := by decide +kernel
set_option maxRecDepth 100000 in
set_option maxHeartbeats 4000000 in
theorem zz_u292_1 : zz_okU 292 1 = true := by decide +kernel
theorem zz_v292 : zz_vv 292 := zz_okU_all (n := 2) (lt_s (lt_s (lt_0) zz_u292_0) zz_u292_1) (Nat.le_of_ble_eq_true rfl)
set_option maxRecDepth 100000 in
set_option maxHeartbeats 4000000 in
theorem zz_u293_0 : zz_okU 293 0 = true := by decide +kernel
set_option maxRecDepth 100000 in
set_option maxHeartbeats 4000000 in
theorem zz_u293_1 : zz_okU 293 1 = true := by decide +kernel
theorem zz_v293 : zz_vv 293 := zz_okU_all (n := 2) (lt_s (lt_s (lt_0) zz_u293_0) zz_u293_1) (Nat.le_of_ble_eq_true rfl)
set_option maxRecDepth 100000 in
set_option maxHeartbeats 4000000 in
theorem zz_u294_0 : zz_okU 294 0 = true := by decide +kernel
set_option maxRecDepth 100000 in
set_option maxHeartbeats 4000000 in
theorem zz_u294_1 : zz_okU 294 1 = true := by decide +kernel
theorem zz_v294 : zz_vv 294 := zz_okU_all (n := 2) (lt_s (lt_s (lt_0) zz_u294_0) zz_u294_1) (Nat.le_of_ble_eq_true rfl)
set_option maxRecDepth 100000 in
set_option maxHeartbeats 4000000 in
theorem zz_u295_0 : zz_okU 295 0 = true := by decide +kernel
set_option maxRecDepth 100000 in
set_option maxHeartbeats 4000000 in
theorem zz_u295_1 : zz_okU 295 1 = true := by decide +kernel
set_option maxRecDepth 100000 in
set_option maxHeartbeats 4000000 in
theorem zz_u295_2 : zz_okU 295 2 = true := by decide +kernel
set_option maxRecDepth 100000 in
set_option maxHeartbeats 4000000 in
theorem zz_u295_3 : zz_okU 295 3 = true := by decide +kernel
theorem zz_v295 : zz_vv 295 := zz_okU_all (n := 4) (lt_s (lt_s (lt_s (lt_s (lt_0) zz_u295_0) zz_u295_1) zz_u295_2) zz_u295_3) (Nat.le_of_ble_eq_true rfl)
set_option maxRecDepth 100000 in
set_option maxHeartbeats 4000000 in
theorem zz_u296_0 : zz_okU 296 0 = true := by decide +kernel
theorem zz_v296 : zz_vv 296 := zz_okU_all (n := 1) (lt_s (lt_0) zz_u296_0) (Nat.le_of_ble_eq_true rfl)
set_option maxRecDepth 100000 in
set_option maxHeartbeats 4000000 in
theorem zz_u297_0 : zz_okU 297 0 = true := by decide +kernel
set_option maxRecDepth 100000 in
set_option maxHeartbeats 4000000 in
theorem zz_u297_1 : zz_okU 297 1 = true := by decide +kernel
theorem zz_v297 : zz_vv 297 := zz_okU_all (n := 2) (lt_s (lt_s (lt_0) zz_u297_0) zz_u297_1) (Nat.le_of_ble_eq_true rfl)
set_option maxRecDepth 100000 in
set_option maxHeartbeats 4000000 in
theorem zz_u298_0 : zz_okU 298 0 = true := by decide +kernel
set_option maxRecDepth 100000 in
set_option maxHeartbeats 4000000 in
theorem zz_u298_1 : zz_okU 298 1 = true := by decide +kernel
set_option maxRecDepth 100000 in
set_option maxHeartbeats 4000000 in
theorem zz_u298_2 : zz_okU 298 2 = true := by decide +kernel
set_option maxRecDepth 100000 in
set_option maxHeartbeats 4000000 in
theorem zz_u298_3 : zz_okU 298 3 = true := by decide +kernel
set_option maxRecDepth 100000 in
set_option maxHeartbeats 4000000 in
theorem zz_u298_4 : zz_okU 298 4 = true := by decide +kernel
set_option maxRecDepth 100000 in
set_option maxHeartbeats 4000000 in
theorem zz_u298_5 : zz_okU 298 5 = true := by decide +kernel
set_option maxRecDepth 100000 in
set_option maxHeartbeats 4000000 in
theorem zz_u298_6 : zz_okU 298 6 = true := by decide +kernel
set_option maxRecDepth 100000 in
set_option maxHeartbeats 4000000 in
theorem zz_u298_7 : zz_okU 298 7 = true := by decide +kernel
set_option maxRecDepth 100000 in
set_option maxHeartbeats 4000000 in
theorem zz_u298_8 : zz_okU 298 8 = true := by decide +kernel
set_option maxRecDepth 100000 in
set_option maxHeartbeats 4000000 in
theorem zz_u298_9 : zz_okU 298 9 = true := by decide +kernel
set_option maxRecDepth 100000 in
set_option maxHeartbeats 4000000 in
theorem zz_u298_10 : zz_okU 298 10 = true := by decide +kernel
set_option maxRecDepth 100000 in
set_option maxHeartbeats 4000000 in
theorem zz_u298_11 : zz_okU 298 11 = true := by decide +kernel
set_option maxRecDepth 100000 in
set_option maxHeartbeats 4000000 in
theorem zz_u298_12 : zz_okU 298 12 = true := by decide +kernel
set_option maxRecDepth 100000 in
set_option maxHeartbeats 4000000 in
theorem zz_u298_13 : zz_okU 298 13 = true := by decide +kernel
set_option maxRecDepth 100000 in
set_option maxHeartbeats 4000000 in
theorem zz_u298_14 : zz_okU 298 14 = true := by decide +kernel
set_option maxRecDepth 100000 in
set_option maxHeartbeats 4000000 in
theorem zz_u298_15 : zz_okU 298 15 = true := by decide +kernel
set_option maxRecDepth 100000 in
set_option maxHeartbeats 4000000 in
theorem zz_u298_16 : zz_okU 298 16 = true := by decide +kernel
set_option maxRecDepth 100000 in
set_option maxHeartbeats 4000000 in
theorem zz_u298_17 : zz_okU 298 17 = true := by decide +kernel
set_option maxRecDepth 100000 in
set_option maxHeartbeats 4000000 in
theorem zz_u298_18 : zz_okU 298 18 = true := by decide +kernel
set_option maxRecDepth 100000 in
set_option maxHeartbeats 4000000 in
theorem zz_u298_19 : zz_okU 298 19 = true := by decide +kernel
set_option maxRecDepth 100000 in
set_option maxHeartbeats 4000000 in
theorem zz_u298_20 : zz_okU 298 20 = true := by decide +kernel
set_option maxRecDepth 100000 in
set_option maxHeartbeats 4000000 in
theorem zz_u298_21 : zz_okU 298 21 = true := by decide +kernel
set_option maxRecDepth 100000 in
set_option maxHeartbeats 4000000 in
theorem zz_u298_22 : zz_okU 298 22 = true := by decide +kernel
set_option maxRecDepth 100000 in
set_option maxHeartbeats 4000000 in
theorem zz_u298_23 : zz_okU 298 23 = true := by decide +kernel
set_option maxRecDepth 100000 in
set_option maxHeartbeats 4000000 in
theorem zz_u298_24 : zz_okU 298 24 = true := by decide +kernel
set_option maxRecDepth 100000 in
set_option maxHeartbeats 4000000 in
theorem zz_u298_25 : zz_okU 298 25 = true := by decide +kernel
set_option maxRecDepth 100000 in
set_option maxHeartbeats 4000000 in
theorem zz_u298_26 : zz_okU 298 26 = true := by decide +kernel
set_option maxRecDepth 100000 in
set_option maxHeartbeats 4000000 in
theorem zz_u298_27 : zz_okU 298 27 = true := by decide +kernel
set_option maxRecDepth 100000 in
set_option maxHeartbeats 4000000 in
theorem zz_u298_28 : zz_okU 298 28 = true := by decide +kernel
set_option maxRecDepth 100000 in
set_option maxHeartbeats 4000000 in
theorem zz_u298_29 : zz_okU 298 29 = true := by decide +kernel
set_option maxRecDepth 100000 in
set_option maxHeartbeats 4000000 in
theorem zz_u298_30 : zz_okU 298 30 = true := by decide +kernel
theorem zz_v298 : zz_vv 298 := zz_okU_all (n := 31) (lt_s (lt_s (lt_s (lt_s (lt_s (lt_s (lt_s (lt_s (lt_s (lt_s (lt_s (lt_s (lt_s (lt_s (lt_s (lt_s (lt_s (lt_s (lt_s (lt_s (lt_s (lt_s (lt_s (lt_s (lt_s (lt_s (lt_s (lt_s (lt_s (lt_s (lt_s (lt_0) zz_u298_0) zz_u298_1) zz_u298_2) zz_u298_3) zz_u298_4) zz_u298_5) zz_u298_6) zz_u298_7) zz_u298_8) zz_u298_9) zz_u298_10) zz_u298_11) zz_u298_12) zz_u298_13) zz_u298_14) zz_u298_15) zz_u298_16) zz_u298_17) zz_u298_18) zz_u298_19) zz_u298_20) zz_u298_21) zz_u298_22) zz_u298_23) zz_u298_24) zz_u298_25) zz_u298_26) zz_u298_27) zz_u298_28) zz_u298_29) zz_u298_30) (Nat.le_of_ble_eq_true rfl)
set_option maxRecDepth 100000 in
set_option maxHeartbeats 4000000 in
theorem zz_u299_0 : zz_okU 299 0 = true := by decide +kernel
theorem zz_v299 : zz_vv 299 := zz_okU_all (n := 1) (lt_s (lt_0) zz_u299_0) (Nat.le_of_ble_eq_true rfl)
set_option maxRecDepth 100000 in
set_option maxHeartbeats 4000000 in
theorem zz_u300_0 : zz_okU 300 0 = true := by decide +kernel
set_option maxRecDepth 100000 in
set_option maxHeartbeats 4000000 in
theorem zz_u300_1 : zz_okU 300 1 = true := by decide +kernel
set_option maxRecDepth 100000 in
set_option maxHeartbeats 4000000 in
theorem zz_u300_2 : zz_okU 300 2 = true := by decide +kernel
set_option maxRecDepth 100000 in
set_option maxHeartbeats 4000000 in
theorem zz_u300_3 : zz_okU 300 3 = true := by decide +kernel
set_option maxRecDepth 100000 in
set_option maxHeartbeats 4000000 in
theorem zz_u300_4 : zz_okU 300 4 = true := by decide +kernel
set_option maxRecDepth 100000 in
set_option maxHeartbeats 4000000 in
theorem zz_u300_5 : zz_okU 300 5 = true := by decide +kernel
set_option maxRecDepth 100000 in
set_option maxHeartbeats 4000000 in
theorem zz_u300_6 : zz_okU 300 6 = true := by decide +kernel
set_option maxRecDepth 100000 in
set_option maxHeartbeats 4000000 in
theorem zz_u300_7 : zz_okU 300 7 = true := by decide +kernel
set_option maxRecDepth 100000 in
set_option maxHeartbeats 4000000 in
theorem zz_u300_8 : zz_okU 300 8 = true := by decide +kernel
set_option maxRecDepth 100000 in
set_option maxHeartbeats 4000000 in
theorem zz_u300_9 : zz_okU 300 9 = true := by decide +kernel
set_option maxRecDepth 100000 in
set_option maxHeartbeats 4000000 in
theorem zz_u300_10 : zz_okU 300 10 = true := by decide +kernel
set_option maxRecDepth 100000 in
set_option maxHeartbeats 4000000 in
theorem zz_u300_11 : zz_okU 300 11 = true := by decide +kernel
set_option maxRecDepth 100000 in
set_option maxHeartbeats 4000000 in
theorem zz_u300_12 : zz_okU 300 12 = true := by decide +kernel
set_option maxRecDepth 100000 in
set_option maxHeartbeats 4000000 in
theorem zz_u300_13 : zz_okU 300 13 = true := by decide +kernel
set_option maxRecDepth 100000 in
set_option maxHeartbeats 4000000 in
theorem zz_u300_14 : zz_okU 300 14 = true := by decide +kernel
set_option maxRecDepth 100000 in
set_option maxHeartbeats 4000000 in
theorem zz_u300_15 : zz_okU 300 15 = true := by decide +kernel
set_option maxRecDepth 100000 in
set_option maxHeartbeats 4000000 in
theorem zz_u300_16 : zz_okU 300 16 = true := by decide +kernel
set_option maxRecDepth 100000 in
set_option maxHeartbeats 4000000 in
theorem zz_u300_17 : zz_okU 300 17 = true := by decide +kernel
set_option maxRecDepth 100000 in
set_option maxHeartbeats 4000000 in
theorem zz_u300_18 : zz_okU 300 18 = true := by decide +kernel
set_option maxRecDepth 100000 in
set_option maxHeartbeats 4000000 in
theorem zz_u300_19 : zz_okU 300 19 = true := by decide +kernel
theorem zz_v300 : zz_vv 300 := zz_okU_all (n := 20) (lt_s (lt_s (lt_s (lt_s (lt_s (lt_s (lt_s (lt_s (lt_s (lt_s (lt_s (lt_s (lt_s (lt_s (lt_s (lt_s (lt_s (lt_s (lt_s (lt_s (lt_0) zz_u300_0) zz_u300_1) zz_u300_2) zz_u300_3) zz_u300_4) zz_u300_5) zz_u300_6) zz_u300_7) zz_u300_8) zz_u300_9) zz_u300_10) zz_u300_11) zz_u300_12) zz_u300_13) zz_u300_14) zz_u300_15) zz_u300_16) zz_u300_17) zz_u300_18) zz_u300_19) (Nat.le_of_ble_eq_true rfl)
set_option maxRecDepth 100000 in
set_option maxHeartbeats 4000000 in
theorem zz_u301_0 : zz_okU 301 0 = true := by decide +kernel
set_option maxRecDepth 100000 in
set_option maxHeartbeats 4000000 in
theorem zz_u301_1 : zz_okU 301 1 = true := by decide +kernel
set_option maxRecDepth 100000 in
set_option maxHeartbeats 4000000 in
theorem zz_u301_2 : zz_okU 301 2 = true := by decide +kernel
set_option maxRecDepth 100000 in
set_option maxHeartbeats 4000000 in
theorem zz_u301_3 : zz_okU 301 3 = true := by decide +kernel
set_option maxRecDepth 100000 in
set_option maxHeartbeats 4000000 in
theorem zz_u301_4 : zz_okU 301 4 = true := by decide +kernel
theorem zz_v301 : zz_vv 301 := zz_okU_all (n := 5) (lt_s (lt_s (lt_s (lt_s (lt_s (lt_0) zz_u301_0) zz_u301_1) zz_u301_2) zz_u301_3) zz_u301_4) (Nat.le_of_ble_eq_true rfl)
set_option maxRecDepth 100000 in
set_option maxHeartbeats 4000000 in
theorem zz_u302_0 : zz_okU 302 0 = true := by decide +kernel
set_option maxRecDepth 100000 in
set_option maxHeartbeats 4000000 in
theorem zz_u302_1 : zz_okU 302 1 = true := by decide +kernel
theorem zz_v302 : zz_vv 302 := zz_okU_all (n := 2) (lt_s (lt_s (lt_0) zz_u302_0) zz_u302_1) (Nat.le_of_ble_eq_true rfl)
set_option maxRecDepth 100000 in
set_option maxHeartbeats 4000000 in
theorem zz_u303_0 : zz_okU 303 0 = true := by decide +kernel
set_option maxRecDepth 100000 in
set_option maxHeartbeats 4000000 in
theorem zz_u303_1 : zz_okU 303 1 = true := by decide +kernel
theorem zz_v303 : zz_vv 303 := zz_okU_all (n := 2) (lt_s (lt_s (lt_0) zz_u303_0) zz_u303_1) (Nat.le_of_ble_eq_true rfl)
set_option maxRecDepth 100000 in
set_option maxHeartbeats 4000000 in
theorem zz_u304_0 : zz_okU 304 0 = true := by decide +kernel
set_option maxRecDepth 100000 in
set_option maxHeartbeats 4000000 in
theorem zz_u304_1 : zz_okU 304 1 = true := by decide +kernel
set_option maxRecDepth 100000 in
set_option maxHeartbeats 4000000 in
theorem zz_u304_2 : zz_okU 304 2 = true := by decide +kernel
set_option maxRecDepth 100000 in
set_option maxHeartbeats 4000000 in
theorem zz_u304_3 : zz_okU 304 3 = true := by decide +kernel
theorem zz_v304 : zz_vv 304 := zz_okU_all (n := 4) (lt_s (lt_s (lt_s (lt_s (lt_0) zz_u304_0) zz_u304_1) zz_u304_2) zz_u304_3) (Nat.le_of_ble_eq_true rfl)
set_option maxRecDepth 100000 in
set_option maxHeartbeats 4000000 in
theorem zz_u305_0 : zz_okU 305 0 = true := by decide +kernel
set_option maxRecDepth 100000 in
set_option maxHeartbeats 4000000 in
theorem zz_u305_1 : zz_okU 305 1 = true := by decide +kernel
set_option maxRecDepth 100000 in
set_option maxHeartbeats 4000000 in
theorem zz_u305_2 : zz_okU 305 2 = true := by decide +kernel
theorem zz_v305 : zz_vv 305 := zz_okU_all (n := 3) (lt_s (lt_s (lt_s (lt_0) zz_u305_0) zz_u305_1) zz_u305_2) (Nat.le_of_ble_eq_true rfl)
set_option maxRecDepth 100000 in
set_option maxHeartbeats 4000000 in
theorem zz_u306_0 : zz_okU 306 0 = true := by decide +kernel
theorem zz_v306 : zz_vv 306 := zz_okU_all (n := 1) (lt_s (lt_0) zz_u306_0) (Nat.le_of_ble_eq_true rfl)
set_option maxRecDepth 100000 in
set_option maxHeartbeats 4000000 in
theorem zz_u307_0 : zz_okU 307 0 = true := by decide +kernel
theorem zz_v307 : zz_vv 307 := zz_okU_all (n := 1) (lt_s (lt_0) zz_u307_0) (Nat.le_of_ble_eq_true rfl)
set_option maxRecDepth 100000 in
set_option maxHeartbeats 4000000 in
theorem zz_u308_0 : zz_okU 308 0 = true := by decide +kernel
theorem zz_v308 : zz_vv 308 := zz_okU_all (n := 1) (lt_s (lt_0) zz_u308_0) (Nat.le_of_ble_eq_true rfl)
set_option maxRecDepth 100000 in
set_option maxHeartbeats 4000000 in
theorem zz_u309_0 : zz_okU 309 0 = true := by decide +kernel
theorem zz_v309 : zz_vv 309 := zz_okU_all (n := 1) (lt_s (lt_0) zz_u309_0) (Nat.le_of_ble_eq_true rfl)
set_option maxRecDepth 100000 in
set_option maxHeartbeats 4000000 in
theorem zz_u310_0 : zz_okU 310 0 = true := by decide +kernel
theorem zz_v310 : zz_vv 310 := zz_okU_all (n := 1) (lt_s (lt_0) zz_u310_0) (Nat.le_of_ble_eq_true rfl)
set_option maxRecDepth 100000 in
set_option maxHeartbeats 4000000 in
theorem zz_u311_0 : zz_okU 311 0 = true := by decide +kernel
set_option maxRecDepth 100000 in
set_option maxHeartbeats 4000000 in
theorem zz_u311_1 : zz_okU 311 1 = true := by decide +kernel
theorem zz_v311 : zz_vv 311 := zz_okU_all (n := 2) (lt_s (lt_s (lt_0) zz_u311_0) zz_u311_1) (Nat.le_of_ble_eq_true rfl)
set_option maxRecDepth 100000 in
set_option maxHeartbeats 4000000 in
theorem zz_u312_0 : zz_okU 312 0 = true := by decide +kernel
set_option maxRecDepth 100000 in
set_option maxHeartbeats 4000000 in
theorem zz_u312_1 : zz_okU 312 1 = true := by decide +kernel
theorem zz_v312 : zz_vv 312 := zz_okU_all (n := 2) (lt_s (lt_s (lt_0) zz_u312_0) zz_u312_1) (Nat.le_of_ble_eq_true rfl)
set_option maxRecDepth 100000 in
set_option maxHeartbeats 4000000 in
theorem zz_u313_0 : zz_okU 313 0 = true := by decide +kernel
set_option maxRecDepth 100000 in
set_option maxHeartbeats 4000000 in
theorem zz_u313_1 : zz_okU 313 1 = true := by decide +kernel
theorem zz_v313 : zz_vv 313 := zz_okU_all (n := 2) (lt_s (lt_s (lt_0) zz_u313_0) zz_u313_1) (Nat.le_of_ble_eq_true rfl)
set_option maxRecDepth 100000 in
set_option maxHeartbeats 4000000 in
theorem zz_u314_0 : zz_okU 314 0 = true := by decide +kernel
theorem zz_v314 : zz_vv 314 := zz_okU_all (n := 1) (lt_s (lt_0) zz_u314_0) (Nat.le_of_ble_eq_true rfl)
set_option maxRecDepth 100000 in
set_option maxHeartbeats 4000000 in
theorem zz_u315_0 : zz_okU 315 0 = true := by decide +kernel
set_option maxRecDepth 100000 in
set_option maxHeartbeats 4000000 in
theorem zz_u315_1 : zz_okU 315 1 = true := by decide +kernel
theorem zz_v315 : zz_vv 315 := zz_okU_all (n := 2) (lt_s (lt_s (lt_0) zz_u315_0) zz_u315_1) (Nat.le_of_ble_eq_true rfl)
set_option maxRecDepth 100000 in
set_option maxHeartbeats 4000000 in
theorem zz_u316_0 : zz_okU 316 0 = true := by decide +kernel
theorem zz_v316 : zz_vv 316 := zz_okU_all (n := 1) (lt_s (lt_0) zz_u316_0) (Nat.le_of_ble_eq_true rfl)
set_option maxRecDepth 100000 in
set_option maxHeartbeats 4000000 in
theorem zz_u317_0 : zz_okU 317 0 = true := by decide +kernel
theorem zz_v317 : zz_vv 317 := zz_okU_all (n := 1) (lt_s (lt_0) zz_u317_0) (Nat.le_of_ble_eq_true rfl)
set_option maxRecDepth 100000 in
set_option maxHeartbeats 4000000 in
theorem zz_u318_0 : zz_okU 318 0 = true := by decide +kernel
theorem zz_v318 : zz_vv 318 := zz_okU_all (n := 1) (lt_s (lt_0) zz_u318_0) (Nat.le_of_ble_eq_true rfl)
set_option maxRecDepth 100000 in
set_option maxHeartbeats 4000000 in
theorem zz_u319_0 : zz_okU 319 0 = true := by decide +kernel
theorem zz_v319 : zz_vv 319 := zz_okU_all (n := 1) (lt_s (lt_0) zz_u319_0) (Nat.le_of_ble_eq_true rfl)
set_option maxRecDepth 100000 in
set_option maxHeartbeats 4000000 in
theorem zz_u320_0 : zz_okU 320 0 = true := by decide +kernel
theorem zz_v320 : zz_vv 320 := zz_okU_all (n := 1) (lt_s (lt_0) zz_u320_0) (Nat.le_of_ble_eq_true rfl)
set_option maxRecDepth 100000 in
set_option maxHeartbeats 4000000 in
theorem zz_u321_0 : zz_okU 321 0 = true := by decide +kernel
theorem zz_v321 : zz_vv 321 := zz_okU_all (n := 1) (lt_s (lt_0) zz_u321_0) (Nat.le_of_ble_eq_true rfl)
set_option maxRecDepth 100000 in
set_option maxHeartbeats 4000000 in
theorem zz_u322_0 : zz_okU 322 0 = true := by decide +kernel
theorem zz_v322 : zz_vv 322 := zz_okU_all (n := 1) (lt_s (lt_0) zz_u322_0) (Nat.le_of_ble_eq_true rfl)
set_option maxRecDepth 100000 in
set_option maxHeartbeats 4000000 in
theorem zz_u323_0 : zz_okU 323 0 = true := by decide +kernel
theorem zz_v323 : zz_vv 323 := zz_okU_all (n := 1) (lt_s (lt_0) zz_u323_0) (Nat.le_of_ble_eq_true rfl)
set_option maxRecDepth 100000 in
set_option maxHeartbeats 4000000 in
theorem zz_u324_0 : zz_okU 324 0 = true := by decide +kernel
theorem zz_v324 : zz_vv 324 := zz_okU_all (n := 1) (lt_s (lt_0) zz_u324_0) (Nat.le_of_ble_eq_true rfl)
set_option maxRecDepth 100000 in
set_option maxHeartbeats 4000000 in
theorem zz_u325_0 : zz_okU 325 0 = true := by decide +kernel
set_option maxRecDepth 100000 in
set_option maxHeartbeats 4000000 in
theorem zz_u325_1 : zz_okU 325 1 = true := by decide +kernel
set_option maxRecDepth 100000 in
set_option maxHeartbeats 4000000 in
theorem zz_u325_2 : zz_okU 325 2 = true := by decide +kernel
theorem zz_v325 : zz_vv 325 := zz_okU_all (n := 3) (lt_s (lt_s (lt_s (lt_0) zz_u325_0) zz_u325_1) zz_u325_2) (Nat.le_of_ble_eq_true rfl)
set_option maxRecDepth 100000 in
set_option maxHeartbeats 4000000 in
theorem zz_u326_0 : zz_okU 326 0 = true := by decide +kernel
theorem zz_v326 : zz_vv 326 := zz_okU_all (n := 1) (lt_s (lt_0) zz_u326_0) (Nat.le_of_ble_eq_true rfl)
set_option maxRecDepth 100000 in
set_option maxHeartbeats 4000000 in
theorem zz_u327_0 : zz_okU 327 0 = true := by decide +kernel
theorem zz_v327 : zz_vv 327 := zz_okU_all (n := 1) (lt_s (lt_0) zz_u327_0) (Nat.le_of_ble_eq_true rfl)
set_option maxRecDepth 100000 in
set_option maxHeartbeats 4000000 in
theorem zz_u328_0 : zz_okU 328 0 = true := by decide +kernel
theorem zz_v328 : zz_vv 328 := zz_okU_all (n := 1) (lt_s (lt_0) zz_u328_0) (Nat.le_of_ble_eq_true rfl)
set_option maxRecDepth 100000 in
set_option maxHeartbeats 4000000 in
theorem zz_u329_0 : zz_okU 329 0 = true := by decide +kernel
theorem zz_v329 : zz_vv 329 := zz_okU_all (n := 1) (lt_s (lt_0) zz_u329_0) (Nat.le_of_ble_eq_true rfl)
set_option maxRecDepth 100000 in
set_option maxHeartbeats 4000000 in
theorem zz_u330_0 : zz_okU 330 0 = true := by decide +kernel
theorem zz_v330 : zz_vv 330 := zz_okU_all (n := 1) (lt_s (lt_0) zz_u330_0) (Nat.le_of_ble_eq_true rfl)
set_option maxRecDepth 100000 in
set_option maxHeartbeats 4000000 in
theorem zz_u331_0 : zz_okU 331 0 = true := by decide +kernel
set_option maxRecDepth 100000 in
set_option maxHeartbeats 4000000 in
theorem zz_u331_1 : zz_okU 331 1 = true := by decide +kernel
theorem zz_v331 : zz_vv 331 := zz_okU_all (n := 2) (lt_s (lt_s (lt_0) zz_u331_0) zz_u331_1) (Nat.le_of_ble_eq_true rfl)
set_option maxRecDepth 100000 in
set_option maxHeartbeats 4000000 in
theorem zz_u332_0 : zz_okU 332 0 = true := by decide +kernel
theorem zz_v332 : zz_vv 332 := zz_okU_all (n := 1) (lt_s (lt_0) zz_u332_0) (Nat.le_of_ble_eq_true rfl)
set_option maxRecDepth 100000 in
set_option maxHeartbeats 4000000 in
theorem zz_u333_0 : zz_okU 333 0 = true := by decide +kernel
theorem zz_v333 : zz_vv 333 := zz_okU_all (n := 1) (lt_s (lt_0) zz_u333_0) (Nat.le_of_ble_eq_true rfl)
set_option maxRecDepth 100000 in
set_option maxHeartbeats 4000000 in
theorem zz_u334_0 : zz_okU 334 0 = true := by decide +kernel
theorem zz_v334 : zz_vv 334 := zz_okU_all (n := 1) (lt_s (lt_0) zz_u334_0) (Nat.le_of_ble_eq_true rfl)
set_option maxRecDepth 100000 in
set_option maxHeartbeats 4000000 in
theorem zz_u335_0 : zz_okU 335 0 = true := by decide +kernel
set_option maxRecDepth 100000 in
set_option maxHeartbeats 4000000 in
theorem zz_u335_1 : zz_okU 335 1 = true := by decide +kernel
theorem zz_v335 : zz_vv 335 := zz_okU_all (n := 2) (lt_s (lt_s (lt_0) zz_u335_0) zz_u335_1) (Nat.le_of_ble_eq_true rfl)
set_option maxRecDepth 100000 in
set_option maxHeartbeats 4000000 in
theorem zz_u336_0 : zz_okU 336 0 = true := by decide +kernel
theorem zz_v336 : zz_vv 336 := zz_okU_all (n := 1) (lt_s (lt_0) zz_u336_0) (Nat.le_of_ble_eq_true rfl)
set_option maxRecDepth 100000 in
set_option maxHeartbeats 4000000 in
theorem zz_u337_0 : zz_okU 337 0 = true := by decide +kernel
theorem zz_v337 : zz_vv 337 := zz_okU_all (n := 1) (lt_s (lt_0) zz_u337_0) (Nat.le_of_ble_eq_true rfl)
set_option maxRecDepth 100000 in
set_option maxHeartbeats 4000000 in
theorem zz_u338_0 : zz_okU 338 0 = true := by decide +kernel
theorem zz_v338 : zz_vv 338 := zz_okU_all (n := 1) (lt_s (lt_0) zz_u338_0) (Nat.le_of_ble_eq_true rfl)
set_option maxRecDepth 100000 in
set_option maxHeartbeats 4000000 in
theorem zz_u339_0 : zz_okU 339 0 = true := by decide +kernel
theorem zz_v339 : zz_vv 339 := zz_okU_all (n := 1) (lt_s (lt_0) zz_u339_0) (Nat.le_of_ble_eq_true rfl)
set_option maxRecDepth 100000 in
set_option maxHeartbeats 4000000 in
theorem zz_u340_0 : zz_okU 340 0 = true := by decide +kernel
theorem zz_v340 : zz_vv 340 := zz_okU_all (n := 1) (lt_s (lt_0) zz_u340_0) (Nat.le_of_ble_eq_true rfl)
set_option maxRecDepth 100000 in
set_option maxHeartbeats 4000000 in
theorem zz_u341_0 : zz_okU 341 0 = true := by decide +kernel
theorem zz_v341 : zz_vv 341 := zz_okU_all (n := 1) (lt_s (lt_0) zz_u341_0) (Nat.le_of_ble_eq_true rfl)
set_option maxRecDepth 100000 in
set_option maxHeartbeats 4000000 in
theorem zz_u342_0 : zz_okU 342 0 = true := by decide +kernel
theorem zz_v342 : zz_vv 342 := zz_okU_all (n := 1) (lt_s (lt_0) zz_u342_0) (Nat.le_of_ble_eq_true rfl)
set_option maxRecDepth 100000 in
set_option maxHeartbeats 4000000 in
theorem zz_u343_0 : zz_okU 343 0 = true := by decide +kernel
theorem zz_v343 : zz_vv 343 := zz_okU_all (n := 1) (lt_s (lt_0) zz_u343_0) (Nat.le_of_ble_eq_true rfl)
set_option maxRecDepth 100000 in
set_option maxHeartbeats 4000000 in
theorem zz_u344_0 : zz_okU 344 0 = true := by decide +kernel
theorem zz_v344 : zz_vv 344 := zz_okU_all (n := 1) (lt_s (lt_0) zz_u344_0) (Nat.le_of_ble_eq_true rfl)
set_option maxRecDepth 100000 in
set_option maxHeartbeats 4000000 in
theorem zz_u345_0 : zz_okU 345 0 = true := by decide +kernel
theorem zz_v345 : zz_vv 345 := zz_okU_all (n := 1) (lt_s (lt_0) zz_u345_0) (Nat.le_of_ble_eq_true rfl)
set_option maxRecDepth 100000 in
set_option maxHeartbeats 4000000 in
theorem zz_u346_0 : zz_okU 346 0 = true := by decide +kernel
theorem zz_v346 : zz_vv 346 := zz_okU_all (n := 1) (lt_s (lt_0) zz_u346_0) (Nat.le_of_ble_eq_true rfl)
set_option maxRecDepth 100000 in
set_option maxHeartbeats 4000000 in
theorem zz_u347_0 : zz_okU 347 0 = true := by decide +kernel
theorem zz_v347 : zz_vv 347 := zz_okU_all (n := 1) (lt_s (lt_0) zz_u347_0) (Nat.le_of_ble_eq_true rfl)
set_option maxRecDepth 100000 in
set_option maxHeartbeats 4000000 in
theorem zz_u348_0 : zz_okU 348 0 = true := by decide +kernel
set_option maxRecDepth 100000 in
set_option maxHeartbeats 4000000 in
theorem zz_u348_1 : zz_okU 348 1 = true := by decide +kernel
theorem zz_v348 : zz_vv 348 := zz_okU_all (n := 2) (lt_s (lt_s (lt_0) zz_u348_0) zz_u348_1) (Nat.le_of_ble_eq_true rfl)
set_option maxRecDepth 100000 in
set_option maxHeartbeats 4000000 in
theorem zz_u349_0 : zz_okU 349 0 = true := by decide +kernel
set_option maxRecDepth 100000 in
set_option maxHeartbeats 4000000 in
theorem zz_u349_1 : zz_okU 349 1 = true := by decide +kernel
set_option maxRecDepth 100000 in
set_option maxHeartbeats 4000000 in
theorem zz_u349_2 : zz_okU 349 2 = true := by decide +kernel
set_option maxRecDepth 100000 in
set_option maxHeartbeats 4000000 in
theorem zz_u349_3 : zz_okU 349 3 = true := by decide +kernel
theorem zz_v349 : zz_vv 349 := zz_okU_all (n := 4) (lt_s (lt_s (lt_s (lt_s (lt_0) zz_u349_0) zz_u349_1) zz_u349_2) zz_u349_3) (Nat.le_of_ble_eq_true rfl)
set_option maxRecDepth 100000 in
set_option maxHeartbeats 4000000 in
theorem zz_u350_0 : zz_okU 350 0 = true := by decide +kernel
theorem zz_v350 : zz_vv 350 := zz_okU_all (n := 1) (lt_s (lt_0) zz_u350_0) (Nat.le_of_ble_eq_true rfl)
set_option maxRecDepth 100000 in
set_option maxHeartbeats 4000000 in
theorem zz_u351_0 : zz_okU 351 0 = true := by decide +kernel
theorem zz_v351 : zz_vv 351 := zz_okU_all (n := 1) (lt_s (lt_0) zz_u351_0) (Nat.le_of_ble_eq_true rfl)
def zz_rv (m : Nat) : Prop := zz_real m = true → zz_vv m
theorem zz_vs30 : ∀ a, a < 30 → zz_rv a := lt_s (lt_s (lt_s (lt_s (lt_s (lt_s (lt_s (lt_s (lt_s (lt_s (lt_s (lt_s (lt_s (lt_s (lt_s (lt_s (lt_s (lt_s (lt_s (lt_s (lt_s (lt_s (lt_s (lt_s (lt_s (lt_s (lt_s (lt_s (lt_s (lt_s (lt_0) (fun _ => zz_v0 : zz_rv 0)) (fun _ => zz_v1 : zz_rv 1)) (fun _ => zz_v2 : zz_rv 2)) (fun _ => zz_v3 : zz_rv 3)) (fun _ => zz_v4 : zz_rv 4)) (fun _ => zz_v5 : zz_rv 5)) (fun _ => zz_v6 : zz_rv 6)) (fun _ => zz_v7 : zz_rv 7)) (fun _ => zz_v8 : zz_rv 8)) (fun _ => zz_v9 : zz_rv 9)) (fun _ => zz_v10 : zz_rv 10)) (fun _ => zz_v11 : zz_rv 11)) (fun _ => zz_v12 : zz_rv 12)) (fun _ => zz_v13 : zz_rv 13)) (fun _ => zz_v14 : zz_rv 14)) (fun _ => zz_v15 : zz_rv 15)) (fun _ => zz_v16 : zz_rv 16)) (fun _ => zz_v17 : zz_rv 17)) (fun _ => zz_v18 : zz_rv 18)) (fun _ => zz_v19 : zz_rv 19)) (fun _ => zz_v20 : zz_rv 20)) (fun _ => zz_v21 : zz_rv 21)) (fun _ => zz_v22 : zz_rv 22)) (fun _ => zz_v23 : zz_rv 23)) (fun _ => zz_v24 : zz_rv 24)) (fun _ => zz_v25 : zz_rv 25)) (fun _ => zz_v26 : zz_rv 26)) (fun _ => zz_v27 : zz_rv 27)) (fun _ => zz_v28 : zz_rv 28)) (fun _ => zz_v29 : zz_rv 29)
theorem zz_vs60 : ∀ a, a < 60 → zz_rv a := lt_s (lt_s (lt_s (lt_s (lt_s (lt_s (lt_s (lt_s (lt_s (lt_s (lt_s (lt_s (lt_s (lt_s (lt_s (lt_s (lt_s (lt_s (lt_s (lt_s (lt_s (lt_s (lt_s (lt_s (lt_s (lt_s (lt_s (lt_s (lt_s (lt_s (zz_vs30) (fun _ => zz_v30 : zz_rv 30)) (fun _ => zz_v31 : zz_rv 31)) (fun _ => zz_v32 : zz_rv 32)) (fun _ => zz_v33 : zz_rv 33)) (fun _ => zz_v34 : zz_rv 34)) (fun _ => zz_v35 : zz_rv 35)) (fun _ => zz_v36 : zz_rv 36)) (fun _ => zz_v37 : zz_rv 37)) (fun _ => zz_v38 : zz_rv 38)) (fun _ => zz_v39 : zz_rv 39)) (fun _ => zz_v40 : zz_rv 40)) (fun _ => zz_v41 : zz_rv 41)) (fun _ => zz_v42 : zz_rv 42)) (fun _ => zz_v43 : zz_rv 43)) (fun _ => zz_v44 : zz_rv 44)) (fun _ => zz_v45 : zz_rv 45)) (fun _ => zz_v46 : zz_rv 46)) (fun _ => zz_v47 : zz_rv 47)) (fun _ => zz_v48 : zz_rv 48)) (fun _ => zz_v49 : zz_rv 49)) (fun _ => zz_v50 : zz_rv 50)) (fun _ => zz_v51 : zz_rv 51)) (fun _ => zz_v52 : zz_rv 52)) (fun _ => zz_v53 : zz_rv 53)) (fun _ => zz_v54 : zz_rv 54)) (fun _ => zz_v55 : zz_rv 55)) (fun _ => zz_v56 : zz_rv 56)) (fun _ => zz_v57 : zz_rv 57)) (fun _ => zz_v58 : zz_rv 58)) (fun _ => zz_v59 : zz_rv 59)
theorem zz_vs90 : ∀ a, a < 90 → zz_rv a := lt_s (lt_s (lt_s (lt_s (lt_s (lt_s (lt_s (lt_s (lt_s (lt_s (lt_s (lt_s (lt_s (lt_s (lt_s (lt_s (lt_s (lt_s (lt_s (lt_s (lt_s (lt_s (lt_s (lt_s (lt_s (lt_s (lt_s (lt_s (lt_s (lt_s (zz_vs60) (fun _ => zz_v60 : zz_rv 60)) (fun _ => zz_v61 : zz_rv 61)) (fun _ => zz_v62 : zz_rv 62)) (fun _ => zz_v63 : zz_rv 63)) (fun _ => zz_v64 : zz_rv 64)) (fun _ => zz_v65 : zz_rv 65)) (fun _ => zz_v66 : zz_rv 66)) (fun _ => zz_v67 : zz_rv 67)) (fun _ => zz_v68 : zz_rv 68)) (fun _ => zz_v69 : zz_rv 69)) (fun _ => zz_v70 : zz_rv 70)) (fun _ => zz_v71 : zz_rv 71)) (fun _ => zz_v72 : zz_rv 72)) (fun _ => zz_v73 : zz_rv 73)) (fun _ => zz_v74 : zz_rv 74)) (fun _ => zz_v75 : zz_rv 75)) (fun _ => zz_v76 : zz_rv 76)) (fun _ => zz_v77 : zz_rv 77)) (fun _ => zz_v78 : zz_rv 78)) (fun _ => zz_v79 : zz_rv 79)) (fun _ => zz_v80 : zz_rv 80)) (fun _ => zz_v81 : zz_rv 81)) (fun _ => zz_v82 : zz_rv 82)) (fun _ => zz_v83 : zz_rv 83)) (fun _ => zz_v84 : zz_rv 84)) (fun _ => zz_v85 : zz_rv 85)) (fun _ => zz_v86 : zz_rv 86)) (fun _ => zz_v87 : zz_rv 87)) (fun _ => zz_v88 : zz_rv 88)) (fun _ => zz_v89 : zz_rv 89)
theorem zz_vs120 : ∀ a, a < 120 → zz_rv a := lt_s (lt_s (lt_s (lt_s (lt_s (lt_s (lt_s (lt_s (lt_s (lt_s (lt_s (lt_s (lt_s (lt_s (lt_s (lt_s (lt_s (lt_s (lt_s (lt_s (lt_s (lt_s (lt_s (lt_s (lt_s (lt_s (lt_s (lt_s (lt_s (lt_s (zz_vs90) (fun _ => zz_v90 : zz_rv 90)) (fun _ => zz_v91 : zz_rv 91)) (fun _ => zz_v92 : zz_rv 92)) (fun _ => zz_v93 : zz_rv 93)) (fun _ => zz_v94 : zz_rv 94)) (fun _ => zz_v95 : zz_rv 95)) (fun _ => zz_v96 : zz_rv 96)) (fun _ => zz_v97 : zz_rv 97)) (fun _ => zz_v98 : zz_rv 98)) (fun _ => zz_v99 : zz_rv 99)) (fun _ => zz_v100 : zz_rv 100)) (fun _ => zz_v101 : zz_rv 101)) (fun _ => zz_v102 : zz_rv 102)) (fun _ => zz_v103 : zz_rv 103)) (fun _ => zz_v104 : zz_rv 104)) (fun _ => zz_v105 : zz_rv 105)) (fun _ => zz_v106 : zz_rv 106)) (fun _ => zz_v107 : zz_rv 107)) (fun _ => zz_v108 : zz_rv 108)) (fun _ => zz_v109 : zz_rv 109)) (fun _ => zz_v110 : zz_rv 110)) (fun _ => zz_v111 : zz_rv 111)) (fun _ => zz_v112 : zz_rv 112)) (fun _ => zz_v113 : zz_rv 113)) (fun _ => zz_v114 : zz_rv 114)) (fun _ => zz_v115 : zz_rv 115)) (fun _ => zz_v116 : zz_rv 116)) (fun _ => zz_v117 : zz_rv 117)) (fun _ => zz_v118 : zz_rv 118)) (fun _ => zz_v119 : zz_rv 119)
theorem zz_vs150 : ∀ a, a < 150 → zz_rv a := lt_s (lt_s (lt_s (lt_s (lt_s (lt_s (lt_s (lt_s (lt_s (lt_s (lt_s (lt_s (lt_s (lt_s (lt_s (lt_s (lt_s (lt_s (lt_s (lt_s (lt_s (lt_s (lt_s (lt_s (lt_s (lt_s (lt_s (lt_s (lt_s (lt_s (zz_vs120) (fun _ => zz_v120 : zz_rv 120)) (fun _ => zz_v121 : zz_rv 121)) (fun _ => zz_v122 : zz_rv 122)) (fun _ => zz_v123 : zz_rv 123)) (fun _ => zz_v124 : zz_rv 124)) (fun _ => zz_v125 : zz_rv 125)) (fun _ => zz_v126 : zz_rv 126)) (fun _ => zz_v127 : zz_rv 127)) (fun _ => zz_v128 : zz_rv 128)) (fun _ => zz_v129 : zz_rv 129)) (fun _ => zz_v130 : zz_rv 130)) (fun _ => zz_v131 : zz_rv 131)) (fun _ => zz_v132 : zz_rv 132)) (fun _ => zz_v133 : zz_rv 133)) (fun _ => zz_v134 : zz_rv 134)) (fun _ => zz_v135 : zz_rv 135)) (fun _ => zz_v136 : zz_rv 136)) (fun _ => zz_v137 : zz_rv 137)) (fun _ => zz_v138 : zz_rv 138)) (fun _ => zz_v139 : zz_rv 139)) (fun _ => zz_v140 : zz_rv 140)) (fun _ => zz_v141 : zz_rv 141)) (fun _ => zz_v142 : zz_rv 142)) (fun _ => zz_v143 : zz_rv 143)) (fun _ => zz_v144 : zz_rv 144)) (fun _ => zz_v145 : zz_rv 145)) (fun _ => zz_v146 : zz_rv 146)) (fun _ => zz_v147 : zz_rv 147)) (fun _ => zz_v148 : zz_rv 148)) (fun _ => zz_v149 : zz_rv 149)
theorem zz_vs180 : ∀ a, a < 180 → zz_rv a := lt_s (lt_s (lt_s (lt_s (lt_s (lt_s (lt_s (lt_s (lt_s (lt_s (lt_s (lt_s (lt_s (lt_s (lt_s (lt_s (lt_s (lt_s (lt_s (lt_s (lt_s (lt_s (lt_s (lt_s (lt_s (lt_s (lt_s (lt_s (lt_s (lt_s (zz_vs150) (fun h => absurd h (by decide) : zz_rv 150)) (fun h => absurd h (by decide) : zz_rv 151)) (fun h => absurd h (by decide) : zz_rv 152)) (fun h => absurd h (by decide) : zz_rv 153)) (fun h => absurd h (by decide) : zz_rv 154)) (fun h => absurd h (by decide) : zz_rv 155)) (fun h => absurd h (by decide) : zz_rv 156)) (fun h => absurd h (by decide) : zz_rv 157)) (fun h => absurd h (by decide) : zz_rv 158)) (fun h => absurd h (by decide) : zz_rv 159)) (fun h => absurd h (by decide) : zz_rv 160)) (fun h => absurd h (by decide) : zz_rv 161)) (fun h => absurd h (by decide) : zz_rv 162)) (fun h => absurd h (by decide) : zz_rv 163)) (fun h => absurd h (by decide) : zz_rv 164)) (fun h => absurd h (by decide) : zz_rv 165)) (fun h => absurd h (by decide) : zz_rv 166)) (fun h => absurd h (by decide) : zz_rv 167)) (fun h => absurd h (by decide) : zz_rv 168)) (fun h => absurd h (by decide) : zz_rv 169)) (fun h => absurd h (by decide) : zz_rv 170)) (fun h => absurd h (by decide) : zz_rv 171)) (fun h => absurd h (by decide) : zz_rv 172)) (fun h => absurd h (by decide) : zz_rv 173)) (fun h => absurd h (by decide) : zz_rv 174)) (fun h => absurd h (by decide) : zz_rv 175)) (fun h => absurd h (by decide) : zz_rv 176)) (fun h => absurd h (by decide) : zz_rv 177)) (fun h => absurd h (by decide) : zz_rv 178)) (fun h => absurd h (by decide) : zz_rv 179)
theorem zz_vs210 : ∀ a, a < 210 → zz_rv a := lt_s (lt_s (lt_s (lt_s (lt_s (lt_s (lt_s (lt_s (lt_s (lt_s (lt_s (lt_s (lt_s (lt_s (lt_s (lt_s (lt_s (lt_s (lt_s (lt_s (lt_s (lt_s (lt_s (lt_s (lt_s (lt_s (lt_s (lt_s (lt_s (lt_s (zz_vs180) (fun h => absurd h (by decide) : zz_rv 180)) (fun h => absurd h (by decide) : zz_rv 181)) (fun h => absurd h (by decide) : zz_rv 182)) (fun h => absurd h (by decide) : zz_rv 183)) (fun h => absurd h (by decide) : zz_rv 184)) (fun h => absurd h (by decide) : zz_rv 185)) (fun h => absurd h (by decide) : zz_rv 186)) (fun h => absurd h (by decide) : zz_rv 187)) (fun h => absurd h (by decide) : zz_rv 188)) (fun h => absurd h (by decide) : zz_rv 189)) (fun h => absurd h (by decide) : zz_rv 190)) (fun h => absurd h (by decide) : zz_rv 191)) (fun h => absurd h (by decide) : zz_rv 192)) (fun h => absurd h (by decide) : zz_rv 193)) (fun h => absurd h (by decide) : zz_rv 194)) (fun h => absurd h (by decide) : zz_rv 195)) (fun h => absurd h (by decide) : zz_rv 196)) (fun h => absurd h (by decide) : zz_rv 197)) (fun h => absurd h (by decide) : zz_rv 198)) (fun h => absurd h (by decide) : zz_rv 199)) (fun h => absurd h (by decide) : zz_rv 200)) (fun h => absurd h (by decide) : zz_rv 201)) (fun h => absurd h (by decide) : zz_rv 202)) (fun h => absurd h (by decide) : zz_rv 203)) (fun h => absurd h (by decide) : zz_rv 204)) (fun h => absurd h (by decide) : zz_rv 205)) (fun h => absurd h (by decide) : zz_rv 206)) (fun h => absurd h (by decide) : zz_rv 207)) (fun h => absurd h (by decide) : zz_rv 208)) (fun h => absurd h (by decide) : zz_rv 209)
theorem zz_vs240 : ∀ a, a < 240 → zz_rv a := lt_s (lt_s (lt_s (lt_s (lt_s (lt_s (lt_s (lt_s (lt_s (lt_s (lt_s (lt_s (lt_s (lt_s (lt_s (lt_s (lt_s (lt_s (lt_s (lt_s (lt_s (lt_s (lt_s (lt_s (lt_s (lt_s (lt_s (lt_s (lt_s (lt_s (zz_vs210) (fun h => absurd h (by decide) : zz_rv 210)) (fun h => absurd h (by decide) : zz_rv 211)) (fun h => absurd h (by decide) : zz_rv 212)) (fun h => absurd h (by decide) : zz_rv 213)) (fun h => absurd h (by decide) : zz_rv 214)) (fun h => absurd h (by decide) : zz_rv 215)) (fun h => absurd h (by decide) : zz_rv 216)) (fun h => absurd h (by decide) : zz_rv 217)) (fun h => absurd h (by decide) : zz_rv 218)) (fun h => absurd h (by decide) : zz_rv 219)) (fun h => absurd h (by decide) : zz_rv 220)) (fun h => absurd h (by decide) : zz_rv 221)) (fun h => absurd h (by decide) : zz_rv 222)) (fun h => absurd h (by decide) : zz_rv 223)) (fun h => absurd h (by decide) : zz_rv 224)) (fun h => absurd h (by decide) : zz_rv 225)) (fun h => absurd h (by decide) : zz_rv 226)) (fun h => absurd h (by decide) : zz_rv 227)) (fun h => absurd h (by decide) : zz_rv 228)) (fun h => absurd h (by decide) : zz_rv 229)) (fun h => absurd h (by decide) : zz_rv 230)) (fun h => absurd h (by decide) : zz_rv 231)) (fun h => absurd h (by decide) : zz_rv 232)) (fun h => absurd h (by decide) : zz_rv 233)) (fun h => absurd h (by decide) : zz_rv 234)) (fun h => absurd h (by decide) : zz_rv 235)) (fun h => absurd h (by decide) : zz_rv 236)) (fun h => absurd h (by decide) : zz_rv 237)) (fun h => absurd h (by decide) : zz_rv 238)) (fun h => absurd h (by decide) : zz_rv 239)
theorem zz_vs270 : ∀ a, a < 270 → zz_rv a := lt_s (lt_s (lt_s (lt_s (lt_s (lt_s (lt_s (lt_s (lt_s (lt_s (lt_s (lt_s (lt_s (lt_s (lt_s (lt_s (lt_s (lt_s (lt_s (lt_s (lt_s (lt_s (lt_s (lt_s (lt_s (lt_s (lt_s (lt_s (lt_s (lt_s (zz_vs240) (fun h => absurd h (by decide) : zz_rv 240)) (fun h => absurd h (by decide) : zz_rv 241)) (fun h => absurd h (by decide) : zz_rv 242)) (fun h => absurd h (by decide) : zz_rv 243)) (fun h => absurd h (by decide) : zz_rv 244)) (fun h => absurd h (by decide) : zz_rv 245)) (fun h => absurd h (by decide) : zz_rv 246)) (fun h => absurd h (by decide) : zz_rv 247)) (fun h => absurd h (by decide) : zz_rv 248)) (fun h => absurd h (by decide) : zz_rv 249)) (fun h => absurd h (by decide) : zz_rv 250)) (fun h => absurd h (by decide) : zz_rv 251)) (fun h => absurd h (by decide) : zz_rv 252)) (fun h => absurd h (by decide) : zz_rv 253)) (fun h => absurd h (by decide) : zz_rv 254)) (fun h => absurd h (by decide) : zz_rv 255)) (fun h => absurd h (by decide) : zz_rv 256)) (fun h => absurd h (by decide) : zz_rv 257)) (fun h => absurd h (by decide) : zz_rv 258)) (fun h => absurd h (by decide) : zz_rv 259)) (fun h => absurd h (by decide) : zz_rv 260)) (fun h => absurd h (by decide) : zz_rv 261)) (fun h => absurd h (by decide) : zz_rv 262)) (fun h => absurd h (by decide) : zz_rv 263)) (fun h => absurd h (by decide) : zz_rv 264)) (fun h => absurd h (by decide) : zz_rv 265)) (fun h => absurd h (by decide) : zz_rv 266)) (fun h => absurd h (by decide) : zz_rv 267)) (fun h => absurd h (by decide) : zz_rv 268)) (fun h => absurd h (by decide) : zz_rv 269)
theorem zz_vs300 : ∀ a, a < 300 → zz_rv a := lt_s (lt_s (lt_s (lt_s (lt_s (lt_s (lt_s (lt_s (lt_s (lt_s (lt_s (lt_s (lt_s (lt_s (lt_s (lt_s (lt_s (lt_s (lt_s (lt_s (lt_s (lt_s (lt_s (lt_s (lt_s (lt_s (lt_s (lt_s (lt_s (lt_s (zz_vs270) (fun _ => zz_v270 : zz_rv 270)) (fun _ => zz_v271 : zz_rv 271)) (fun _ => zz_v272 : zz_rv 272)) (fun _ => zz_v273 : zz_rv 273)) (fun _ => zz_v274 : zz_rv 274)) (fun _ => zz_v275 : zz_rv 275)) (fun _ => zz_v276 : zz_rv 276)) (fun _ => zz_v277 : zz_rv 277)) (fun _ => zz_v278 : zz_rv 278)) (fun _ => zz_v279 : zz_rv 279)) (fun _ => zz_v280 : zz_rv 280)) (fun _ => zz_v281 : zz_rv 281)) (fun _ => zz_v282 : zz_rv 282)) (fun _ => zz_v283 : zz_rv 283)) (fun _ => zz_v284 : zz_rv 284)) (fun _ => zz_v285 : zz_rv 285)) (fun _ => zz_v286 : zz_rv 286)) (fun _ => zz_v287 : zz_rv 287)) (fun _ => zz_v288 : zz_rv 288)) (fun _ => zz_v289 : zz_rv 289)) (fun _ => zz_v290 : zz_rv 290)) (fun _ => zz_v291 : zz_rv 291)) (fun _ => zz_v292 : zz_rv 292)) (fun _ => zz_v293 : zz_rv 293)) (fun _ => zz_v294 : zz_rv 294)) (fun _ => zz_v295 : zz_rv 295)) (fun _ => zz_v296 : zz_rv 296)) (fun _ => zz_v297 : zz_rv 297)) (fun _ => zz_v298 : zz_rv 298)) (fun _ => zz_v299 : zz_rv 299)
theorem zz_vs330 : ∀ a, a < 330 → zz_rv a := lt_s (lt_s (lt_s (lt_s (lt_s (lt_s (lt_s (lt_s (lt_s (lt_s (lt_s (lt_s (lt_s (lt_s (lt_s (lt_s (lt_s (lt_s (lt_s (lt_s (lt_s (lt_s (lt_s (lt_s (lt_s (lt_s (lt_s (lt_s (lt_s (lt_s (zz_vs300) (fun _ => zz_v300 : zz_rv 300)) (fun _ => zz_v301 : zz_rv 301)) (fun _ => zz_v302 : zz_rv 302)) (fun _ => zz_v303 : zz_rv 303)) (fun _ => zz_v304 : zz_rv 304)) (fun _ => zz_v305 : zz_rv 305)) (fun _ => zz_v306 : zz_rv 306)) (fun _ => zz_v307 : zz_rv 307)) (fun _ => zz_v308 : zz_rv 308)) (fun _ => zz_v309 : zz_rv 309)) (fun _ => zz_v310 : zz_rv 310)) (fun _ => zz_v311 : zz_rv 311)) (fun _ => zz_v312 : zz_rv 312)) (fun _ => zz_v313 : zz_rv 313)) (fun _ => zz_v314 : zz_rv 314)) (fun _ => zz_v315 : zz_rv 315)) (fun _ => zz_v316 : zz_rv 316)) (fun _ => zz_v317 : zz_rv 317)) (fun _ => zz_v318 : zz_rv 318)) (fun _ => zz_v319 : zz_rv 319)) (fun _ => zz_v320 : zz_rv 320)) (fun _ => zz_v321 : zz_rv 321)) (fun _ => zz_v322 : zz_rv 322)) (fun _ => zz_v323 : zz_rv 323)) (fun _ => zz_v324 : zz_rv 324)) (fun _ => zz_v325 : zz_rv 325)) (fun _ => zz_v326 : zz_rv 326)) (fun _ => zz_v327 : zz_rv 327)) (fun _ => zz_v328 : zz_rv 328)) (fun _ => zz_v329 : zz_rv 329)
theorem zz_vs352 : ∀ a, a < 352 → zz_rv a := lt_s (lt_s (lt_s (lt_s (lt_s (lt_s (lt_s (lt_s (lt_s (lt_s (lt_s (lt_s (lt_s (lt_s (lt_s (lt_s (lt_s (lt_s (lt_s (lt_s (lt_s (lt_s (zz_vs330) (fun _ => zz_v330 : zz_rv 330)) (fun _ => zz_v331 : zz_rv 331)) (fun _ => zz_v332 : zz_rv 332)) (fun _ => zz_v333 : zz_rv 333)) (fun _ => zz_v334 : zz_rv 334)) (fun _ => zz_v335 : zz_rv 335)) (fun _ => zz_v336 : zz_rv 336)) (fun _ => zz_v337 : zz_rv 337)) (fun _ => zz_v338 : zz_rv 338)) (fun _ => zz_v339 : zz_rv 339)) (fun _ => zz_v340 : zz_rv 340)) (fun _ => zz_v341 : zz_rv 341)) (fun _ => zz_v342 : zz_rv 342)) (fun _ => zz_v343 : zz_rv 343)) (fun _ => zz_v344 : zz_rv 344)) (fun _ => zz_v345 : zz_rv 345)) (fun _ => zz_v346 : zz_rv 346)) (fun _ => zz_v347 : zz_rv 347)) (fun _ => zz_v348 : zz_rv 348)) (fun _ => zz_v349 : zz_rv 349)) (fun _ => zz_v350 : zz_rv 350)) (fun _ => zz_v351 : zz_rv 351)
theorem zz_ok {m q : Nat} {e : zz_I} (hr : zz_real m = true) (he : zz_T m q = some e) : zz_okI m q e = true := zz_vs352 m (zz_real_lt hr) hr q e he
