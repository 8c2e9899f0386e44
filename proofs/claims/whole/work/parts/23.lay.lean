/-! the literal cells -/
theorem rf_0_0 : rf 0 0 = 1 := rfl
theorem rf_0_1 : rf 0 1 = 3 := rfl
theorem rf_0_2 : rf 0 2 = 25 := rfl
theorem rf_0_3 : rf 0 3 = 26 := rfl
theorem rf_0_4 : rf 0 4 = 32 := rfl
theorem rf_0_5 : rf 0 5 = 37 := rfl
theorem rf_0_6 : rf 0 6 = 39 := rfl
theorem rf_0_7 : rf 0 7 = 41 := rfl
theorem rf_1_0 : rf 1 0 = 2 := rfl
theorem ln_2 : ln 2 = 40 := rfl
theorem rf_3_1 : rf 3 1 = 4 := rfl
theorem rf_3_2 : rf 3 2 = 5 := rfl
theorem rf_3_3 : rf 3 3 = 6 := rfl
theorem ln_4 : ln 4 = 6 := rfl
theorem ln_5 : ln 5 = 6 := rfl
theorem ln_6 : ln 6 = 3 := rfl
theorem rf_25_0 : rf 25 0 = 42 := rfl
theorem rf_25_1 : rf 25 1 = 64 := rfl
theorem ln_25 : ln 25 = 2 := rfl
theorem rf_26_0 : rf 26 0 = 27 := rfl
theorem rf_26_1 : rf 26 1 = 28 := rfl
theorem rf_26_2 : rf 26 2 = 29 := rfl
theorem rf_26_3 : rf 26 3 = 30 := rfl
theorem ln_27 : ln 27 = 1750 := rfl
theorem ln_28 : ln 28 = 1245 := rfl
theorem ln_29 : ln 29 = 1245 := rfl
theorem rf_30_0 : rf 30 0 = 31 := rfl
theorem ln_31 : ln 31 = 6 := rfl
theorem rf_32_0 : rf 32 0 = 33 := rfl
theorem rf_32_1 : rf 32 1 = 34 := rfl
theorem rf_32_2 : rf 32 2 = 35 := rfl
theorem rf_32_3 : rf 32 3 = 36 := rfl
theorem ln_33 : ln 33 = 36 := rfl
theorem ln_34 : ln 34 = 6 := rfl
theorem ln_35 : ln 35 = 6 := rfl
theorem ln_36 : ln 36 = 6 := rfl
theorem rf_37_0 : rf 37 0 = 38 := rfl
theorem ln_38 : ln 38 = 6 := rfl
theorem rf_39_0 : rf 39 0 = 40 := rfl
theorem ln_40 : ln 40 = 6 := rfl
theorem ln_41 : ln 41 = 7 := rfl
theorem rf_86_2 : rf 86 2 = 87 := rfl
theorem rf_86_3 : rf 86 3 = 88 := rfl
theorem rf_86_5 : rf 86 5 = 89 := rfl
theorem rf_86_6 : rf 86 6 = 90 := rfl
theorem rf_86_8 : rf 86 8 = 91 := rfl
theorem rf_86_9 : rf 86 9 = 92 := rfl
theorem rf_86_11 : rf 86 11 = 93 := rfl
theorem rf_86_12 : rf 86 12 = 94 := rfl
theorem rf_86_14 : rf 86 14 = 95 := rfl
theorem rf_86_16 : rf 86 16 = 96 := rfl
theorem rf_86_17 : rf 86 17 = 97 := rfl
theorem rf_86_18 : rf 86 18 = 98 := rfl
theorem rf_86_21 : rf 86 21 = 99 := rfl
theorem rf_86_22 : rf 86 22 = 100 := rfl
theorem rf_86_23 : rf 86 23 = 101 := rfl
theorem rf_86_24 : rf 86 24 = 102 := rfl
theorem ln_87 : ln 87 = 36 := rfl
theorem ln_88 : ln 88 = 6 := rfl
theorem ln_89 : ln 89 = 18 := rfl
theorem ln_90 : ln 90 = 3 := rfl
theorem ln_91 : ln 91 = 40 := rfl
theorem ln_92 : ln 92 = 8 := rfl
theorem ln_93 : ln 93 = 55987 := rfl
theorem ln_94 : ln 94 = 55987 := rfl
theorem ln_95 : ln 95 = 8 := rfl
theorem ln_96 : ln 96 = 4 := rfl
theorem ln_97 : ln 97 = 16 := rfl
theorem ln_98 : ln 98 = 49 := rfl
theorem ln_99 : ln 99 = 6 := rfl
theorem ln_100 : ln 100 = 36 := rfl
theorem ln_101 : ln 101 = 140 := rfl
theorem ln_102 : ln 102 = 2 := rfl
theorem kd_0 : kd 0 = 4 := rfl
theorem kd_1 : kd 1 = 2 := rfl
theorem kd_3 : kd 3 = 0 := rfl
theorem kd_25 : kd 25 = 9 := rfl
theorem kd_26 : kd 26 = 3 := rfl
theorem kd_32 : kd 32 = 1 := rfl
theorem kd_30 : kd 30 = 2 := rfl
theorem kd_37 : kd 37 = 2 := rfl
theorem kd_39 : kd 39 = 2 := rfl
theorem kd_41 : kd 41 = 6 := rfl
theorem kd_2 : kd 2 = 6 := rfl
theorem kd_4 : kd 4 = 8 := rfl
theorem kd_5 : kd 5 = 7 := rfl
theorem kd_6 : kd 6 = 8 := rfl
theorem kd_27 : kd 27 = 6 := rfl
theorem kd_28 : kd 28 = 6 := rfl
theorem kd_29 : kd 29 = 6 := rfl
theorem kd_31 : kd 31 = 6 := rfl
theorem kd_33 : kd 33 = 6 := rfl
theorem kd_34 : kd 34 = 7 := rfl
theorem kd_35 : kd 35 = 6 := rfl
theorem kd_36 : kd 36 = 6 := rfl
theorem kd_38 : kd 38 = 6 := rfl
theorem kd_40 : kd 40 = 6 := rfl
theorem kd_86 : kd 86 = 5 := rfl
theorem kd_87 : kd 87 = 6 := rfl
theorem kd_88 : kd 88 = 6 := rfl
theorem kd_89 : kd 89 = 6 := rfl
theorem kd_90 : kd 90 = 6 := rfl
theorem kd_91 : kd 91 = 6 := rfl
theorem kd_92 : kd 92 = 6 := rfl
theorem kd_93 : kd 93 = 6 := rfl
theorem kd_94 : kd 94 = 6 := rfl
theorem kd_95 : kd 95 = 6 := rfl
theorem kd_96 : kd 96 = 6 := rfl
theorem kd_97 : kd 97 = 6 := rfl
theorem kd_98 : kd 98 = 6 := rfl
theorem kd_99 : kd 99 = 6 := rfl
theorem kd_100 : kd 100 = 6 := rfl
theorem kd_101 : kd 101 = 6 := rfl
theorem kd_102 : kd 102 = 7 := rfl
theorem kq_4 : kd 4 = 8 ∨ kd 4 = 9 := Or.inl rfl
theorem kq_6 : kd 6 = 8 ∨ kd 6 = 9 := Or.inl rfl
theorem kq_25 : kd 25 = 8 ∨ kd 25 = 9 := Or.inr rfl
