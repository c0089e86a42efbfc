theorem rf_0_0 : rf 0 0 = 1 := rfl
theorem rf_0_1 : rf 0 1 = 3 := rfl
theorem rf_0_2 : rf 0 2 = 7 := rfl
theorem rf_0_4 : rf 0 4 = 8 := rfl
theorem rf_0_5 : rf 0 5 = 23 := rfl
theorem rf_0_6 : rf 0 6 = 25 := rfl
theorem rf_0_8 : rf 0 8 = 27 := rfl
theorem rf_0_9 : rf 0 9 = 30 := rfl
theorem rf_0_10 : rf 0 10 = 33 := rfl
theorem rf_0_11 : rf 0 11 = 38 := rfl
theorem rf_0_12 : rf 0 12 = 39 := rfl
theorem rf_0_13 : rf 0 13 = 42 := rfl
theorem rf_1_0 : rf 1 0 = 2 := rfl
theorem rf_3_0 : rf 3 0 = 4 := rfl
theorem rf_3_1 : rf 3 1 = 5 := rfl
theorem rf_3_2 : rf 3 2 = 6 := rfl
theorem rf_8_0 : rf 8 0 = 9 := rfl
theorem rf_8_1 : rf 8 1 = 10 := rfl
theorem rf_8_2 : rf 8 2 = 14 := rfl
theorem rf_8_3 : rf 8 3 = 18 := rfl
theorem rf_10_0 : rf 10 0 = 11 := rfl
theorem rf_10_1 : rf 10 1 = 12 := rfl
theorem rf_10_2 : rf 10 2 = 13 := rfl
theorem rf_14_0 : rf 14 0 = 15 := rfl
theorem rf_14_1 : rf 14 1 = 16 := rfl
theorem rf_14_2 : rf 14 2 = 17 := rfl
theorem rf_18_0 : rf 18 0 = 19 := rfl
theorem rf_18_1 : rf 18 1 = 7 := rfl
theorem rf_19_0 : rf 19 0 = 20 := rfl
theorem rf_19_1 : rf 19 1 = 21 := rfl
theorem rf_19_2 : rf 19 2 = 22 := rfl
theorem rf_23_0 : rf 23 0 = 24 := rfl
theorem rf_25_0 : rf 25 0 = 26 := rfl
theorem rf_27_0 : rf 27 0 = 1 := rfl
theorem rf_27_1 : rf 27 1 = 3 := rfl
theorem rf_27_2 : rf 27 2 = 8 := rfl
theorem rf_27_3 : rf 27 3 = 28 := rfl
theorem rf_27_4 : rf 27 4 = 29 := rfl
theorem rf_30_0 : rf 30 0 = 1 := rfl
theorem rf_30_1 : rf 30 1 = 3 := rfl
theorem rf_30_2 : rf 30 2 = 8 := rfl
theorem rf_30_3 : rf 30 3 = 31 := rfl
theorem rf_30_4 : rf 30 4 = 32 := rfl
theorem rf_33_0 : rf 33 0 = 34 := rfl
theorem rf_33_1 : rf 33 1 = 35 := rfl
theorem rf_33_2 : rf 33 2 = 36 := rfl
theorem rf_33_3 : rf 33 3 = 37 := rfl
theorem rf_39_0 : rf 39 0 = 40 := rfl
theorem rf_39_1 : rf 39 1 = 41 := rfl
theorem rf_42_0 : rf 42 0 = 43 := rfl
theorem rf_42_1 : rf 42 1 = 45 := rfl
theorem rf_42_2 : rf 42 2 = 47 := rfl
theorem rf_42_3 : rf 42 3 = 49 := rfl
theorem rf_42_4 : rf 42 4 = 51 := rfl
theorem rf_42_5 : rf 42 5 = 53 := rfl
theorem rf_43_0 : rf 43 0 = 44 := rfl
theorem rf_45_0 : rf 45 0 = 46 := rfl
theorem rf_47_0 : rf 47 0 = 48 := rfl
theorem rf_49_0 : rf 49 0 = 50 := rfl
theorem rf_51_0 : rf 51 0 = 52 := rfl
theorem rf_53_0 : rf 53 0 = 54 := rfl
theorem rf_55_2 : rf 55 2 = 56 := rfl
theorem rf_55_4 : rf 55 4 = 57 := rfl
theorem rf_55_5 : rf 55 5 = 58 := rfl
theorem rf_55_6 : rf 55 6 = 59 := rfl
theorem rf_55_10 : rf 55 10 = 60 := rfl
theorem rf_55_13 : rf 55 13 = 61 := rfl
theorem rf_55_14 : rf 55 14 = 62 := rfl
theorem rf_55_15 : rf 55 15 = 63 := rfl
theorem rf_55_16 : rf 55 16 = 64 := rfl
theorem rf_55_17 : rf 55 17 = 65 := rfl
theorem rf_55_23 : rf 55 23 = 66 := rfl
theorem rf_55_24 : rf 55 24 = 67 := rfl
theorem rf_55_25 : rf 55 25 = 68 := rfl
theorem rf_55_26 : rf 55 26 = 69 := rfl
theorem rf_55_27 : rf 55 27 = 70 := rfl
theorem rf_55_28 : rf 55 28 = 71 := rfl
theorem rf_55_29 : rf 55 29 = 72 := rfl
theorem rf_55_30 : rf 55 30 = 73 := rfl
theorem rf_55_31 : rf 55 31 = 74 := rfl
theorem rf_55_32 : rf 55 32 = 75 := rfl
theorem rf_55_37 : rf 55 37 = 76 := rfl
theorem rf_55_38 : rf 55 38 = 77 := rfl
theorem rf_55_39 : rf 55 39 = 78 := rfl
theorem rf_55_40 : rf 55 40 = 79 := rfl
theorem rf_55_47 : rf 55 47 = 80 := rfl
theorem rf_55_49 : rf 55 49 = 81 := rfl
theorem rf_55_51 : rf 55 51 = 82 := rfl
theorem rf_55_52 : rf 55 52 = 83 := rfl
theorem rf_55_53 : rf 55 53 = 84 := rfl
theorem rf_55_54 : rf 55 54 = 85 := rfl
theorem rf_55_55 : rf 55 55 = 86 := rfl
theorem ln_2 : ln 2 = 3 := rfl
theorem ln_4 : ln 4 = 12 := rfl
theorem ln_5 : ln 5 = 12 := rfl
theorem ln_6 : ln 6 = 12 := rfl
theorem ln_7 : ln 7 = 120 := rfl
theorem ln_9 : ln 9 = 6 := rfl
theorem ln_11 : ln 11 = 121 := rfl
theorem ln_12 : ln 12 = 121 := rfl
theorem ln_13 : ln 13 = 121 := rfl
theorem ln_15 : ln 15 = 121 := rfl
theorem ln_16 : ln 16 = 121 := rfl
theorem ln_17 : ln 17 = 121 := rfl
theorem ln_20 : ln 20 = 121 := rfl
theorem ln_21 : ln 21 = 121 := rfl
theorem ln_22 : ln 22 = 121 := rfl
theorem ln_24 : ln 24 = 12 := rfl
theorem ln_26 : ln 26 = 12 := rfl
theorem ln_28 : ln 28 = 12 := rfl
theorem ln_29 : ln 29 = 12 := rfl
theorem ln_31 : ln 31 = 1024 := rfl
theorem ln_32 : ln 32 = 32 := rfl
theorem ln_34 : ln 34 = 40 := rfl
theorem ln_35 : ln 35 = 40 := rfl
theorem ln_36 : ln 36 = 40 := rfl
theorem ln_37 : ln 37 = 40 := rfl
theorem ln_38 : ln 38 = 6 := rfl
theorem ln_40 : ln 40 = 50 := rfl
theorem ln_41 : ln 41 = 24 := rfl
theorem ln_42 : ln 42 = 6 := rfl
theorem ln_44 : ln 44 = 60 := rfl
theorem ln_46 : ln 46 = 60 := rfl
theorem ln_48 : ln 48 = 60 := rfl
theorem ln_50 : ln 50 = 60 := rfl
theorem ln_52 : ln 52 = 60 := rfl
theorem ln_54 : ln 54 = 60 := rfl
theorem ln_56 : ln 56 = 3 := rfl
theorem ln_57 : ln 57 = 12 := rfl
theorem ln_58 : ln 58 = 12 := rfl
theorem ln_59 : ln 59 = 12 := rfl
theorem ln_60 : ln 60 = 12 := rfl
theorem ln_61 : ln 61 = 40 := rfl
theorem ln_62 : ln 62 = 40 := rfl
theorem ln_63 : ln 63 = 40 := rfl
theorem ln_64 : ln 64 = 40 := rfl
theorem ln_65 : ln 65 = 120 := rfl
theorem ln_66 : ln 66 = 390 := rfl
theorem ln_67 : ln 67 = 390 := rfl
theorem ln_68 : ln 68 = 3 := rfl
theorem ln_69 : ln 69 = 183 := rfl
theorem ln_70 : ln 70 = 183 := rfl
theorem ln_71 : ln 71 = 6 := rfl
theorem ln_72 : ln 72 = 130 := rfl
theorem ln_73 : ln 73 = 2 := rfl
theorem ln_74 : ln 74 = 12 := rfl
theorem ln_75 : ln 75 = 12 := rfl
theorem ln_76 : ln 76 = 1024 := rfl
theorem ln_77 : ln 77 = 1024 := rfl
theorem ln_78 : ln 78 = 41 := rfl
theorem ln_79 : ln 79 = 100 := rfl
theorem ln_80 : ln 80 = 12 := rfl
theorem ln_81 : ln 81 = 50 := rfl
theorem ln_82 : ln 82 = 24 := rfl
theorem ln_83 : ln 83 = 6 := rfl
theorem ln_84 : ln 84 = 6 := rfl
theorem ln_85 : ln 85 = 360 := rfl
theorem ln_86 : ln 86 = 60 := rfl
