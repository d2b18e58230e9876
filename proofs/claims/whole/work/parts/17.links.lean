theorem uwX0 : ∀ w ∈ u_ws RX0 TX0 4, w ∈ tbg := by
  intro w hw
  obtain ⟨k, hk, rfl⟩ := List.mem_map.mp hw
  have hk := List.mem_range.mp hk
  match k, hk with
  | 0, _ => exact kw_477
  | 1, _ => exact kw_478
  | 2, _ => exact kw_479
  | 3, _ => exact kw_480
  | n + 4, h => exact absurd h (by omega)
theorem ciX0 : CI 0 := ⟨by decide, (RX0, TX0, 4), tyX0, rfl, uwX0, tyX0_ok, kw_475, kw_14, rfl, by decide +kernel⟩
theorem uwX1 : ∀ w ∈ u_ws RX1 TX1 11, w ∈ tbg := by
  intro w hw
  obtain ⟨k, hk, rfl⟩ := List.mem_map.mp hw
  have hk := List.mem_range.mp hk
  match k, hk with
  | 0, _ => exact kw_70
  | 1, _ => exact kw_72
  | 2, _ => exact kw_74
  | 3, _ => exact kw_76
  | 4, _ => exact kw_78
  | 5, _ => exact kw_80
  | 6, _ => exact kw_82
  | 7, _ => exact kw_84
  | 8, _ => exact kw_86
  | 9, _ => exact kw_88
  | 10, _ => exact kw_90
  | n + 11, h => exact absurd h (by omega)
theorem ciX1 : CI 1 := ⟨by decide, (RX1, TX1, 11), tyX1, rfl, uwX1, tyX1_ok, kw_37, kw_3, rfl, by decide +kernel⟩
theorem uwX2 : ∀ w ∈ u_ws RX2 TX2 4, w ∈ tbg := by
  intro w hw
  obtain ⟨k, hk, rfl⟩ := List.mem_map.mp hw
  have hk := List.mem_range.mp hk
  match k, hk with
  | 0, _ => exact kw_459
  | 1, _ => exact kw_460
  | 2, _ => exact kw_461
  | 3, _ => exact kw_462
  | n + 4, h => exact absurd h (by omega)
theorem ciX2 : CI 2 := ⟨by decide, (RX2, TX2, 4), tyX2, rfl, uwX2, tyX2_ok, kw_454, kw_18, rfl, by decide +kernel⟩
theorem uwX3 : ∀ w ∈ u_ws RX3 TX3 3, w ∈ tbg := by
  intro w hw
  obtain ⟨k, hk, rfl⟩ := List.mem_map.mp hw
  have hk := List.mem_range.mp hk
  match k, hk with
  | 0, _ => exact kw_177
  | 1, _ => exact kw_179
  | 2, _ => exact kw_181
  | n + 3, h => exact absurd h (by omega)
theorem ciX3 : CI 3 := ⟨by decide, (RX3, TX3, 3), tyX3, rfl, uwX3, tyX3_ok, kw_166, kw_6, rfl, by decide +kernel⟩
theorem uwX4 : ∀ w ∈ u_ws RX4 TX4 4, w ∈ tbg := by
  intro w hw
  obtain ⟨k, hk, rfl⟩ := List.mem_map.mp hw
  have hk := List.mem_range.mp hk
  match k, hk with
  | 0, _ => exact kw_422
  | 1, _ => exact kw_424
  | 2, _ => exact kw_426
  | 3, _ => exact kw_428
  | n + 4, h => exact absurd h (by omega)
theorem ciX4 : CI 4 := ⟨by decide, (RX4, TX4, 4), tyX4, rfl, uwX4, tyX4_ok, kw_397, kw_15, rfl, by decide +kernel⟩
theorem uwX5 : ∀ w ∈ u_ws RX5 TX5 4, w ∈ tbg := by
  intro w hw
  obtain ⟨k, hk, rfl⟩ := List.mem_map.mp hw
  have hk := List.mem_range.mp hk
  match k, hk with
  | 0, _ => exact kw_437
  | 1, _ => exact kw_438
  | 2, _ => exact kw_439
  | 3, _ => exact kw_440
  | n + 4, h => exact absurd h (by omega)
theorem ciX5 : CI 5 := ⟨by decide, (RX5, TX5, 4), tyX5, rfl, uwX5, tyX5_ok, kw_432, kw_16, rfl, by decide +kernel⟩
theorem uwX6 : ∀ w ∈ u_ws RX6 TX6 4, w ∈ tbg := by
  intro w hw
  obtain ⟨k, hk, rfl⟩ := List.mem_map.mp hw
  have hk := List.mem_range.mp hk
  match k, hk with
  | 0, _ => exact kw_132
  | 1, _ => exact kw_134
  | 2, _ => exact kw_136
  | 3, _ => exact kw_138
  | n + 4, h => exact absurd h (by omega)
theorem ciX6 : CI 6 := ⟨by decide, (RX6, TX6, 4), tyX6, rfl, uwX6, tyX6_ok, kw_122, kw_4, rfl, by decide +kernel⟩
theorem uwX7 : ∀ w ∈ u_ws RX7 TX7 3, w ∈ tbg := by
  intro w hw
  obtain ⟨k, hk, rfl⟩ := List.mem_map.mp hw
  have hk := List.mem_range.mp hk
  match k, hk with
  | 0, _ => exact kw_155
  | 1, _ => exact kw_157
  | 2, _ => exact kw_159
  | n + 3, h => exact absurd h (by omega)
theorem ciX7 : CI 7 := ⟨by decide, (RX7, TX7, 3), tyX7, rfl, uwX7, tyX7_ok, kw_143, kw_5, rfl, by decide +kernel⟩
theorem uwX8 : ∀ w ∈ u_ws RX8 TX8 4, w ∈ tbg := by
  intro w hw
  obtain ⟨k, hk, rfl⟩ := List.mem_map.mp hw
  have hk := List.mem_range.mp hk
  match k, hk with
  | 0, _ => exact kw_448
  | 1, _ => exact kw_449
  | 2, _ => exact kw_450
  | 3, _ => exact kw_451
  | n + 4, h => exact absurd h (by omega)
theorem ciX8 : CI 8 := ⟨by decide, (RX8, TX8, 4), tyX8, rfl, uwX8, tyX8_ok, kw_443, kw_17, rfl, by decide +kernel⟩
theorem uwX9 : ∀ w ∈ u_ws RX9 TX9 4, w ∈ tbg := by
  intro w hw
  obtain ⟨k, hk, rfl⟩ := List.mem_map.mp hw
  have hk := List.mem_range.mp hk
  match k, hk with
  | 0, _ => exact kw_470
  | 1, _ => exact kw_471
  | 2, _ => exact kw_472
  | 3, _ => exact kw_473
  | n + 4, h => exact absurd h (by omega)
theorem ciX9 : CI 9 := ⟨by decide, (RX9, TX9, 4), tyX9, rfl, uwX9, tyX9_ok, kw_465, kw_19, rfl, by decide +kernel⟩
theorem uwX10 : ∀ w ∈ u_ws RX10 TX10 6, w ∈ tbg := by
  intro w hw
  obtain ⟨k, hk, rfl⟩ := List.mem_map.mp hw
  have hk := List.mem_range.mp hk
  match k, hk with
  | 0, _ => exact kw_108
  | 1, _ => exact kw_110
  | 2, _ => exact kw_112
  | 3, _ => exact kw_114
  | 4, _ => exact kw_116
  | 5, _ => exact kw_118
  | n + 6, h => exact absurd h (by omega)
theorem ciX10 : CI 10 := ⟨by decide, (RX10, TX10, 6), tyX10, rfl, uwX10, tyX10_ok, kw_29, kw_2, rfl, by decide +kernel⟩
theorem uwX11 : ∀ w ∈ u_ws RX11 TX11 16, w ∈ tbg := by
  intro w hw
  obtain ⟨k, hk, rfl⟩ := List.mem_map.mp hw
  have hk := List.mem_range.mp hk
  match k, hk with
  | 0, _ => exact kw_201
  | 1, _ => exact kw_203
  | 2, _ => exact kw_205
  | 3, _ => exact kw_207
  | 4, _ => exact kw_209
  | 5, _ => exact kw_211
  | 6, _ => exact kw_213
  | 7, _ => exact kw_215
  | 8, _ => exact kw_217
  | 9, _ => exact kw_219
  | 10, _ => exact kw_221
  | 11, _ => exact kw_223
  | 12, _ => exact kw_225
  | 13, _ => exact kw_227
  | 14, _ => exact kw_229
  | 15, _ => exact kw_231
  | n + 16, h => exact absurd h (by omega)
theorem ciX11 : CI 11 := ⟨by decide, (RX11, TX11, 16), tyX11, rfl, uwX11, tyX11_ok, kw_21, kw_1, rfl, by decide +kernel⟩
theorem uwX12 : ∀ w ∈ u_ws RX12 TX12 54, w ∈ tbg := by
  intro w hw
  obtain ⟨k, hk, rfl⟩ := List.mem_map.mp hw
  have hk := List.mem_range.mp hk
  match k, hk with
  | 0, _ => exact kw_971
  | 1, _ => exact kw_973
  | 2, _ => exact kw_975
  | 3, _ => exact kw_977
  | 4, _ => exact kw_979
  | 5, _ => exact kw_981
  | 6, _ => exact kw_983
  | 7, _ => exact kw_985
  | 8, _ => exact kw_987
  | 9, _ => exact kw_989
  | 10, _ => exact kw_991
  | 11, _ => exact kw_993
  | 12, _ => exact kw_995
  | 13, _ => exact kw_997
  | 14, _ => exact kw_999
  | 15, _ => exact kw_1001
  | 16, _ => exact kw_1003
  | 17, _ => exact kw_1005
  | 18, _ => exact kw_1007
  | 19, _ => exact kw_1009
  | 20, _ => exact kw_1011
  | 21, _ => exact kw_1013
  | 22, _ => exact kw_1015
  | 23, _ => exact kw_1017
  | 24, _ => exact kw_1019
  | 25, _ => exact kw_1021
  | 26, _ => exact kw_1023
  | 27, _ => exact kw_1025
  | 28, _ => exact kw_1027
  | 29, _ => exact kw_1029
  | 30, _ => exact kw_1031
  | 31, _ => exact kw_1033
  | 32, _ => exact kw_1035
  | 33, _ => exact kw_1037
  | 34, _ => exact kw_1039
  | 35, _ => exact kw_1041
  | 36, _ => exact kw_1043
  | 37, _ => exact kw_1045
  | 38, _ => exact kw_1047
  | 39, _ => exact kw_1049
  | 40, _ => exact kw_1051
  | 41, _ => exact kw_1053
  | 42, _ => exact kw_1055
  | 43, _ => exact kw_1057
  | 44, _ => exact kw_1059
  | 45, _ => exact kw_1061
  | 46, _ => exact kw_1063
  | 47, _ => exact kw_1065
  | 48, _ => exact kw_1067
  | 49, _ => exact kw_1069
  | 50, _ => exact kw_1071
  | 51, _ => exact kw_1073
  | 52, _ => exact kw_1075
  | 53, _ => exact kw_1077
  | n + 54, h => exact absurd h (by omega)
theorem ciX12 : CI 12 := ⟨by decide, (RX12, TX12, 54), tyX12, rfl, uwX12, tyX12_ok, kw_912, kw_7, rfl, by decide +kernel⟩
theorem lk_X1_9 : LK RX1 9 1 0 2 (.object "FallCards$Fall") 1 := ⟨by decide, rfl, (RX1, TX1, 11), "FallCards$Flight", tyX1, rfl, uwX1, by decide, kw_42, Or.inl rfl, tyX1_ok, nmX1, by decide +kernel, (fun _ => rfl), (fun h => absurd h (by decide))⟩
theorem lk_X10_48 : LK RX10 48 1 0 2 (.object "FallCards$Fall") 1 := ⟨by decide, rfl, (RX1, TX1, 11), "FallCards$Flight", tyX1, rfl, uwX1, by decide, kw_43, Or.inl rfl, tyX1_ok, nmX1, by decide +kernel, (fun _ => rfl), (fun h => absurd h (by decide))⟩
theorem lk_X11_136 : LK RX11 136 1 0 2 (.object "FallCards$Fall") 1 := ⟨by decide, rfl, (RX1, TX1, 11), "FallCards$Flight", tyX1, rfl, uwX1, by decide, kw_44, Or.inl rfl, tyX1_ok, nmX1, by decide +kernel, (fun _ => rfl), (fun h => absurd h (by decide))⟩
theorem lk_X1_21 : LK RX1 21 1 1 0 .int 1 := ⟨by decide, rfl, (RX1, TX1, 11), "FallCards$Flight", tyX1, rfl, uwX1, by decide, kw_45, Or.inl rfl, tyX1_ok, nmX1, by decide +kernel, (fun _ => rfl), (fun h => absurd h (by decide))⟩
theorem lk_X11_197 : LK RX11 197 1 1 0 .int 1 := ⟨by decide, rfl, (RX1, TX1, 11), "FallCards$Flight", tyX1, rfl, uwX1, by decide, kw_46, Or.inl rfl, tyX1_ok, nmX1, by decide +kernel, (fun _ => rfl), (fun h => absurd h (by decide))⟩
theorem lk_X1_22 : LK RX1 22 1 2 0 .int 1 := ⟨by decide, rfl, (RX1, TX1, 11), "FallCards$Flight", tyX1, rfl, uwX1, by decide, kw_47, Or.inl rfl, tyX1_ok, nmX1, by decide +kernel, (fun _ => rfl), (fun h => absurd h (by decide))⟩
theorem lk_X11_156 : LK RX11 156 1 2 0 .int 1 := ⟨by decide, rfl, (RX1, TX1, 11), "FallCards$Flight", tyX1, rfl, uwX1, by decide, kw_48, Or.inl rfl, tyX1_ok, nmX1, by decide +kernel, (fun _ => rfl), (fun h => absurd h (by decide))⟩
theorem lk_X1_25 : LK RX1 25 1 3 0 .int 1 := ⟨by decide, rfl, (RX1, TX1, 11), "FallCards$Flight", tyX1, rfl, uwX1, by decide, kw_49, Or.inl rfl, tyX1_ok, nmX1, by decide +kernel, (fun _ => rfl), (fun h => absurd h (by decide))⟩
theorem lk_X11_159 : LK RX11 159 1 3 0 .int 1 := ⟨by decide, rfl, (RX1, TX1, 11), "FallCards$Flight", tyX1, rfl, uwX1, by decide, kw_50, Or.inl rfl, tyX1_ok, nmX1, by decide +kernel, (fun _ => rfl), (fun h => absurd h (by decide))⟩
theorem lk_X1_28 : LK RX1 28 1 4 0 .int 1 := ⟨by decide, rfl, (RX1, TX1, 11), "FallCards$Flight", tyX1, rfl, uwX1, by decide, kw_51, Or.inl rfl, tyX1_ok, nmX1, by decide +kernel, (fun _ => rfl), (fun h => absurd h (by decide))⟩
theorem lk_X11_162 : LK RX11 162 1 4 0 .int 1 := ⟨by decide, rfl, (RX1, TX1, 11), "FallCards$Flight", tyX1, rfl, uwX1, by decide, kw_52, Or.inl rfl, tyX1_ok, nmX1, by decide +kernel, (fun _ => rfl), (fun h => absurd h (by decide))⟩
theorem lk_X1_31 : LK RX1 31 1 5 0 .int 1 := ⟨by decide, rfl, (RX1, TX1, 11), "FallCards$Flight", tyX1, rfl, uwX1, by decide, kw_53, Or.inl rfl, tyX1_ok, nmX1, by decide +kernel, (fun _ => rfl), (fun h => absurd h (by decide))⟩
theorem lk_X2_7 : LK RX2 7 1 5 0 .int 1 := ⟨by decide, rfl, (RX1, TX1, 11), "FallCards$Flight", tyX1, rfl, uwX1, by decide, kw_54, Or.inl rfl, tyX1_ok, nmX1, by decide +kernel, (fun _ => rfl), (fun h => absurd h (by decide))⟩
theorem lk_X5_11 : LK RX5 11 1 5 0 .int 1 := ⟨by decide, rfl, (RX1, TX1, 11), "FallCards$Flight", tyX1, rfl, uwX1, by decide, kw_55, Or.inl rfl, tyX1_ok, nmX1, by decide +kernel, (fun _ => rfl), (fun h => absurd h (by decide))⟩
theorem lk_X11_165 : LK RX11 165 1 5 0 .int 1 := ⟨by decide, rfl, (RX1, TX1, 11), "FallCards$Flight", tyX1, rfl, uwX1, by decide, kw_56, Or.inl rfl, tyX1_ok, nmX1, by decide +kernel, (fun _ => rfl), (fun h => absurd h (by decide))⟩
theorem lk_X1_34 : LK RX1 34 1 6 0 .int 1 := ⟨by decide, rfl, (RX1, TX1, 11), "FallCards$Flight", tyX1, rfl, uwX1, by decide, kw_57, Or.inl rfl, tyX1_ok, nmX1, by decide +kernel, (fun _ => rfl), (fun h => absurd h (by decide))⟩
theorem lk_X8_11 : LK RX8 11 1 6 0 .int 1 := ⟨by decide, rfl, (RX1, TX1, 11), "FallCards$Flight", tyX1, rfl, uwX1, by decide, kw_58, Or.inl rfl, tyX1_ok, nmX1, by decide +kernel, (fun _ => rfl), (fun h => absurd h (by decide))⟩
theorem lk_X0_24 : LK RX0 24 1 6 0 .int 1 := ⟨by decide, rfl, (RX1, TX1, 11), "FallCards$Flight", tyX1, rfl, uwX1, by decide, kw_59, Or.inl rfl, tyX1_ok, nmX1, by decide +kernel, (fun _ => rfl), (fun h => absurd h (by decide))⟩
theorem lk_X11_168 : LK RX11 168 1 6 0 .int 1 := ⟨by decide, rfl, (RX1, TX1, 11), "FallCards$Flight", tyX1, rfl, uwX1, by decide, kw_60, Or.inl rfl, tyX1_ok, nmX1, by decide +kernel, (fun _ => rfl), (fun h => absurd h (by decide))⟩
theorem lk_X1_37 : LK RX1 37 1 7 0 .int 1 := ⟨by decide, rfl, (RX1, TX1, 11), "FallCards$Flight", tyX1, rfl, uwX1, by decide, kw_61, Or.inl rfl, tyX1_ok, nmX1, by decide +kernel, (fun _ => rfl), (fun h => absurd h (by decide))⟩
theorem lk_X0_29 : LK RX0 29 1 7 0 .int 1 := ⟨by decide, rfl, (RX1, TX1, 11), "FallCards$Flight", tyX1, rfl, uwX1, by decide, kw_62, Or.inl rfl, tyX1_ok, nmX1, by decide +kernel, (fun _ => rfl), (fun h => absurd h (by decide))⟩
theorem lk_X11_171 : LK RX11 171 1 7 0 .int 1 := ⟨by decide, rfl, (RX1, TX1, 11), "FallCards$Flight", tyX1, rfl, uwX1, by decide, kw_63, Or.inl rfl, tyX1_ok, nmX1, by decide +kernel, (fun _ => rfl), (fun h => absurd h (by decide))⟩
theorem lk_X1_40 : LK RX1 40 1 8 0 .int 1 := ⟨by decide, rfl, (RX1, TX1, 11), "FallCards$Flight", tyX1, rfl, uwX1, by decide, kw_64, Or.inl rfl, tyX1_ok, nmX1, by decide +kernel, (fun _ => rfl), (fun h => absurd h (by decide))⟩
theorem lk_X11_174 : LK RX11 174 1 8 0 .int 1 := ⟨by decide, rfl, (RX1, TX1, 11), "FallCards$Flight", tyX1, rfl, uwX1, by decide, kw_65, Or.inl rfl, tyX1_ok, nmX1, by decide +kernel, (fun _ => rfl), (fun h => absurd h (by decide))⟩
theorem lk_X1_43 : LK RX1 43 1 9 0 .int 1 := ⟨by decide, rfl, (RX1, TX1, 11), "FallCards$Flight", tyX1, rfl, uwX1, by decide, kw_66, Or.inl rfl, tyX1_ok, nmX1, by decide +kernel, (fun _ => rfl), (fun h => absurd h (by decide))⟩
theorem lk_X11_185 : LK RX11 185 1 9 0 .int 1 := ⟨by decide, rfl, (RX1, TX1, 11), "FallCards$Flight", tyX1, rfl, uwX1, by decide, kw_67, Or.inl rfl, tyX1_ok, nmX1, by decide +kernel, (fun _ => rfl), (fun h => absurd h (by decide))⟩
theorem lk_X1_46 : LK RX1 46 1 10 0 .int 1 := ⟨by decide, rfl, (RX1, TX1, 11), "FallCards$Flight", tyX1, rfl, uwX1, by decide, kw_68, Or.inl rfl, tyX1_ok, nmX1, by decide +kernel, (fun _ => rfl), (fun h => absurd h (by decide))⟩
theorem lk_X11_188 : LK RX11 188 1 10 0 .int 1 := ⟨by decide, rfl, (RX1, TX1, 11), "FallCards$Flight", tyX1, rfl, uwX1, by decide, kw_69, Or.inl rfl, tyX1_ok, nmX1, by decide +kernel, (fun _ => rfl), (fun h => absurd h (by decide))⟩
theorem lk_X10_11 : LK RX10 11 10 0 2 (.array (.object "FallCards$Fall")) 2 := ⟨by decide, rfl, (RX10, TX10, 6), "FallCards$World", tyX10, rfl, uwX10, by decide, kw_94, Or.inl rfl, tyX10_ok, nmX10, by decide +kernel, (fun h => absurd h (by decide)), (fun _ => ⟨rfl, rfl⟩)⟩
theorem lk_X10_41 : LK RX10 41 10 1 0 .int 1 := ⟨by decide, rfl, (RX10, TX10, 6), "FallCards$World", tyX10, rfl, uwX10, by decide, kw_95, Or.inl rfl, tyX10_ok, nmX10, by decide +kernel, (fun _ => rfl), (fun h => absurd h (by decide))⟩
theorem lk_X11_94 : LK RX11 94 10 1 0 .int 1 := ⟨by decide, rfl, (RX10, TX10, 6), "FallCards$World", tyX10, rfl, uwX10, by decide, kw_96, Or.inl rfl, tyX10_ok, nmX10, by decide +kernel, (fun _ => rfl), (fun h => absurd h (by decide))⟩
theorem lk_X6_67 : LK RX6 67 10 1 0 .int 1 := ⟨by decide, rfl, (RX10, TX10, 6), "FallCards$World", tyX10, rfl, uwX10, by decide, kw_97, Or.inl rfl, tyX10_ok, nmX10, by decide +kernel, (fun _ => rfl), (fun h => absurd h (by decide))⟩
theorem lk_X10_17 : LK RX10 17 10 2 2 (.array .int) 2 := ⟨by decide, rfl, (RX10, TX10, 6), "FallCards$World", tyX10, rfl, uwX10, by decide, kw_98, Or.inl rfl, tyX10_ok, nmX10, by decide +kernel, (fun h => absurd h (by decide)), (fun _ => ⟨rfl, rfl⟩)⟩
theorem lk_X6_44 : LK RX6 44 10 2 2 (.array .int) 0 := ⟨by decide, rfl, (RX10, TX10, 6), "FallCards$World", tyX10, rfl, uwX10, by decide, kw_99, Or.inl rfl, tyX10_ok, nmX10, by decide +kernel, (fun h => absurd h (by decide)), (fun h => absurd h (by decide))⟩
theorem lk_X11_120 : LK RX11 120 10 2 2 (.array .int) 0 := ⟨by decide, rfl, (RX10, TX10, 6), "FallCards$World", tyX10, rfl, uwX10, by decide, kw_100, Or.inl rfl, tyX10_ok, nmX10, by decide +kernel, (fun h => absurd h (by decide)), (fun h => absurd h (by decide))⟩
theorem lk_X10_21 : LK RX10 21 10 3 2 (.array .int) 2 := ⟨by decide, rfl, (RX10, TX10, 6), "FallCards$World", tyX10, rfl, uwX10, by decide, kw_101, Or.inl rfl, tyX10_ok, nmX10, by decide +kernel, (fun h => absurd h (by decide)), (fun _ => ⟨rfl, rfl⟩)⟩
theorem lk_X6_65 : LK RX6 65 10 3 2 (.array .int) 0 := ⟨by decide, rfl, (RX10, TX10, 6), "FallCards$World", tyX10, rfl, uwX10, by decide, kw_102, Or.inl rfl, tyX10_ok, nmX10, by decide +kernel, (fun h => absurd h (by decide)), (fun h => absurd h (by decide))⟩
theorem lk_X11_123 : LK RX11 123 10 3 2 (.array .int) 0 := ⟨by decide, rfl, (RX10, TX10, 6), "FallCards$World", tyX10, rfl, uwX10, by decide, kw_103, Or.inl rfl, tyX10_ok, nmX10, by decide +kernel, (fun h => absurd h (by decide)), (fun h => absurd h (by decide))⟩
theorem lk_X10_27 : LK RX10 27 10 4 2 (.object "FallCards$Flight") 2 := ⟨by decide, rfl, (RX10, TX10, 6), "FallCards$World", tyX10, rfl, uwX10, by decide, kw_104, Or.inl rfl, tyX10_ok, nmX10, by decide +kernel, (fun h => absurd h (by decide)), (fun _ => ⟨rfl, rfl⟩)⟩
theorem lk_X11_133 : LK RX11 133 10 4 2 (.object "FallCards$Flight") 0 := ⟨by decide, rfl, (RX10, TX10, 6), "FallCards$World", tyX10, rfl, uwX10, by decide, kw_105, Or.inl rfl, tyX10_ok, nmX10, by decide +kernel, (fun h => absurd h (by decide)), (fun h => absurd h (by decide))⟩
theorem lk_X10_31 : LK RX10 31 10 5 0 .int 1 := ⟨by decide, rfl, (RX10, TX10, 6), "FallCards$World", tyX10, rfl, uwX10, by decide, kw_106, Or.inl rfl, tyX10_ok, nmX10, by decide +kernel, (fun _ => rfl), (fun h => absurd h (by decide))⟩
theorem lk_X11_243 : LK RX11 243 10 5 0 .int 1 := ⟨by decide, rfl, (RX10, TX10, 6), "FallCards$World", tyX10, rfl, uwX10, by decide, kw_107, Or.inl rfl, tyX10_ok, nmX10, by decide +kernel, (fun _ => rfl), (fun h => absurd h (by decide))⟩
theorem lk_X6_9 : LK RX6 9 6 0 2 (.array .byte) 2 := ⟨by decide, rfl, (RX6, TX6, 4), "FallCards$Tape", tyX6, rfl, uwX6, by decide, kw_127, Or.inl rfl, tyX6_ok, nmX6, by decide +kernel, (fun h => absurd h (by decide)), (fun _ => ⟨rfl, rfl⟩)⟩
theorem lk_X6_15 : LK RX6 15 6 1 0 .int 1 := ⟨by decide, rfl, (RX6, TX6, 4), "FallCards$Tape", tyX6, rfl, uwX6, by decide, kw_128, Or.inl rfl, tyX6_ok, nmX6, by decide +kernel, (fun _ => rfl), (fun h => absurd h (by decide))⟩
theorem lk_X11_76 : LK RX11 76 6 1 0 .int 1 := ⟨by decide, rfl, (RX6, TX6, 4), "FallCards$Tape", tyX6, rfl, uwX6, by decide, kw_129, Or.inl rfl, tyX6_ok, nmX6, by decide +kernel, (fun _ => rfl), (fun h => absurd h (by decide))⟩
theorem lk_X6_19 : LK RX6 19 6 2 0 .int 1 := ⟨by decide, rfl, (RX6, TX6, 4), "FallCards$Tape", tyX6, rfl, uwX6, by decide, kw_130, Or.inl rfl, tyX6_ok, nmX6, by decide +kernel, (fun _ => rfl), (fun h => absurd h (by decide))⟩
theorem lk_X6_22 : LK RX6 22 6 3 0 .int 1 := ⟨by decide, rfl, (RX6, TX6, 4), "FallCards$Tape", tyX6, rfl, uwX6, by decide, kw_131, Or.inl rfl, tyX6_ok, nmX6, by decide +kernel, (fun _ => rfl), (fun h => absurd h (by decide))⟩
theorem lk_X7_9 : LK RX7 9 7 0 2 (.array .int) 2 := ⟨by decide, rfl, (RX7, TX7, 3), "FallCards$Trace", tyX7, rfl, uwX7, by decide, kw_148, Or.inl rfl, tyX7_ok, nmX7, by decide +kernel, (fun h => absurd h (by decide)), (fun _ => ⟨rfl, rfl⟩)⟩
theorem lk_X11_310 : LK RX11 310 7 0 2 (.array .int) 0 := ⟨by decide, rfl, (RX7, TX7, 3), "FallCards$Trace", tyX7, rfl, uwX7, by decide, kw_149, Or.inl rfl, tyX7_ok, nmX7, by decide +kernel, (fun h => absurd h (by decide)), (fun h => absurd h (by decide))⟩
theorem lk_X7_15 : LK RX7 15 7 1 0 .int 1 := ⟨by decide, rfl, (RX7, TX7, 3), "FallCards$Trace", tyX7, rfl, uwX7, by decide, kw_150, Or.inl rfl, tyX7_ok, nmX7, by decide +kernel, (fun _ => rfl), (fun h => absurd h (by decide))⟩
theorem lk_X11_309 : LK RX11 309 7 1 0 .int 1 := ⟨by decide, rfl, (RX7, TX7, 3), "FallCards$Trace", tyX7, rfl, uwX7, by decide, kw_151, Or.inl rfl, tyX7_ok, nmX7, by decide +kernel, (fun _ => rfl), (fun h => absurd h (by decide))⟩
theorem lk_X7_19 : LK RX7 19 7 2 0 .boolean 1 := ⟨by decide, rfl, (RX7, TX7, 3), "FallCards$Trace", tyX7, rfl, uwX7, by decide, kw_152, Or.inl rfl, tyX7_ok, nmX7, by decide +kernel, (fun _ => rfl), (fun h => absurd h (by decide))⟩
theorem lk_X0_42 : LK RX0 42 7 2 0 .boolean 1 := ⟨by decide, rfl, (RX7, TX7, 3), "FallCards$Trace", tyX7, rfl, uwX7, by decide, kw_153, Or.inl rfl, tyX7_ok, nmX7, by decide +kernel, (fun _ => rfl), (fun h => absurd h (by decide))⟩
theorem lk_X11_305 : LK RX11 305 7 2 0 .boolean 1 := ⟨by decide, rfl, (RX7, TX7, 3), "FallCards$Trace", tyX7, rfl, uwX7, by decide, kw_154, Or.inl rfl, tyX7_ok, nmX7, by decide +kernel, (fun _ => rfl), (fun h => absurd h (by decide))⟩
theorem lk_X3_9 : LK RX3 9 3 0 0 .int 1 := ⟨by decide, rfl, (RX3, TX3, 3), "FallCards$Sheet", tyX3, rfl, uwX3, by decide, kw_171, Or.inl rfl, tyX3_ok, nmX3, by decide +kernel, (fun _ => rfl), (fun h => absurd h (by decide))⟩
theorem lk_X11_261 : LK RX11 261 3 0 0 .int 1 := ⟨by decide, rfl, (RX3, TX3, 3), "FallCards$Sheet", tyX3, rfl, uwX3, by decide, kw_172, Or.inl rfl, tyX3_ok, nmX3, by decide +kernel, (fun _ => rfl), (fun h => absurd h (by decide))⟩
theorem lk_X3_19 : LK RX3 19 3 1 0 .int 1 := ⟨by decide, rfl, (RX3, TX3, 3), "FallCards$Sheet", tyX3, rfl, uwX3, by decide, kw_173, Or.inl rfl, tyX3_ok, nmX3, by decide +kernel, (fun _ => rfl), (fun h => absurd h (by decide))⟩
theorem lk_X11_263 : LK RX11 263 3 1 0 .int 1 := ⟨by decide, rfl, (RX3, TX3, 3), "FallCards$Sheet", tyX3, rfl, uwX3, by decide, kw_174, Or.inl rfl, tyX3_ok, nmX3, by decide +kernel, (fun _ => rfl), (fun h => absurd h (by decide))⟩
theorem lk_X3_15 : LK RX3 15 3 2 2 (.array .long) 2 := ⟨by decide, rfl, (RX3, TX3, 3), "FallCards$Sheet", tyX3, rfl, uwX3, by decide, kw_175, Or.inl rfl, tyX3_ok, nmX3, by decide +kernel, (fun h => absurd h (by decide)), (fun _ => ⟨rfl, rfl⟩)⟩
theorem lk_X11_264 : LK RX11 264 3 2 2 (.array .long) 0 := ⟨by decide, rfl, (RX3, TX3, 3), "FallCards$Sheet", tyX3, rfl, uwX3, by decide, kw_176, Or.inl rfl, tyX3_ok, nmX3, by decide +kernel, (fun h => absurd h (by decide)), (fun h => absurd h (by decide))⟩
theorem lk_X11_10 : LK RX11 10 11 0 2 (.object "FallCards$World") 2 := ⟨by decide, rfl, (RX11, TX11, 16), "FallCards", tyX11, rfl, uwX11, by decide, kw_185, Or.inl rfl, tyX11_ok, nmX11, by decide +kernel, (fun h => absurd h (by decide)), (fun _ => ⟨rfl, rfl⟩)⟩
theorem lk_X11_16 : LK RX11 16 11 1 2 (.object "FallCards$World") 2 := ⟨by decide, rfl, (RX11, TX11, 16), "FallCards", tyX11, rfl, uwX11, by decide, kw_186, Or.inl rfl, tyX11_ok, nmX11, by decide +kernel, (fun h => absurd h (by decide)), (fun _ => ⟨rfl, rfl⟩)⟩
theorem lk_X11_313 : LK RX11 313 11 2 0 .boolean 1 := ⟨by decide, rfl, (RX11, TX11, 16), "FallCards", tyX11, rfl, uwX11, by decide, kw_187, Or.inl rfl, tyX11_ok, nmX11, by decide +kernel, (fun _ => rfl), (fun h => absurd h (by decide))⟩
theorem lk_X11_19 : LK RX11 19 11 3 2 (.object "FallCards$World") 2 := ⟨by decide, rfl, (RX11, TX11, 16), "FallCards", tyX11, rfl, uwX11, by decide, kw_188, Or.inl rfl, tyX11_ok, nmX11, by decide +kernel, (fun h => absurd h (by decide)), (fun _ => ⟨rfl, rfl⟩)⟩
theorem lk_X11_25 : LK RX11 25 11 4 2 (.object "FallCards$Tape") 2 := ⟨by decide, rfl, (RX11, TX11, 16), "FallCards", tyX11, rfl, uwX11, by decide, kw_189, Or.inl rfl, tyX11_ok, nmX11, by decide +kernel, (fun h => absurd h (by decide)), (fun _ => ⟨rfl, rfl⟩)⟩
theorem lk_X11_32 : LK RX11 32 11 5 2 (.object "FallCards$Trace") 2 := ⟨by decide, rfl, (RX11, TX11, 16), "FallCards", tyX11, rfl, uwX11, by decide, kw_190, Or.inl rfl, tyX11_ok, nmX11, by decide +kernel, (fun h => absurd h (by decide)), (fun _ => ⟨rfl, rfl⟩)⟩
theorem lk_X11_38 : LK RX11 38 11 6 2 (.array (.object "FallCards$Sheet")) 2 := ⟨by decide, rfl, (RX11, TX11, 16), "FallCards", tyX11, rfl, uwX11, by decide, kw_191, Or.inl rfl, tyX11_ok, nmX11, by decide +kernel, (fun h => absurd h (by decide)), (fun _ => ⟨rfl, rfl⟩)⟩
theorem lk_X11_42 : LK RX11 42 11 7 2 (.array .int) 2 := ⟨by decide, rfl, (RX11, TX11, 16), "FallCards", tyX11, rfl, uwX11, by decide, kw_192, Or.inl rfl, tyX11_ok, nmX11, by decide +kernel, (fun h => absurd h (by decide)), (fun _ => ⟨rfl, rfl⟩)⟩
theorem lk_X11_46 : LK RX11 46 11 8 2 (.array .int) 2 := ⟨by decide, rfl, (RX11, TX11, 16), "FallCards", tyX11, rfl, uwX11, by decide, kw_193, Or.inl rfl, tyX11_ok, nmX11, by decide +kernel, (fun h => absurd h (by decide)), (fun _ => ⟨rfl, rfl⟩)⟩
theorem lk_X11_49 : LK RX11 49 11 9 2 (.array .int) 2 := ⟨by decide, rfl, (RX11, TX11, 16), "FallCards", tyX11, rfl, uwX11, by decide, kw_194, Or.inl rfl, tyX11_ok, nmX11, by decide +kernel, (fun h => absurd h (by decide)), (fun _ => ⟨rfl, rfl⟩)⟩
theorem lk_X11_52 : LK RX11 52 11 10 2 (.array .int) 2 := ⟨by decide, rfl, (RX11, TX11, 16), "FallCards", tyX11, rfl, uwX11, by decide, kw_195, Or.inl rfl, tyX11_ok, nmX11, by decide +kernel, (fun h => absurd h (by decide)), (fun _ => ⟨rfl, rfl⟩)⟩
theorem lk_X11_91 : LK RX11 91 11 11 0 .int 1 := ⟨by decide, rfl, (RX11, TX11, 16), "FallCards", tyX11, rfl, uwX11, by decide, kw_196, Or.inl rfl, tyX11_ok, nmX11, by decide +kernel, (fun _ => rfl), (fun h => absurd h (by decide))⟩
theorem lk_X11_58 : LK RX11 58 11 12 2 (.object "FallCards$Flight") 2 := ⟨by decide, rfl, (RX11, TX11, 16), "FallCards", tyX11, rfl, uwX11, by decide, kw_197, Or.inl rfl, tyX11_ok, nmX11, by decide +kernel, (fun h => absurd h (by decide)), (fun _ => ⟨rfl, rfl⟩)⟩
theorem lk_X11_62 : LK RX11 62 11 13 2 (.object "FallCards$Flight") 2 := ⟨by decide, rfl, (RX11, TX11, 16), "FallCards", tyX11, rfl, uwX11, by decide, kw_198, Or.inl rfl, tyX11_ok, nmX11, by decide +kernel, (fun h => absurd h (by decide)), (fun _ => ⟨rfl, rfl⟩)⟩
theorem lk_X11_65 : LK RX11 65 11 14 2 (.array .int) 2 := ⟨by decide, rfl, (RX11, TX11, 16), "FallCards", tyX11, rfl, uwX11, by decide, kw_199, Or.inl rfl, tyX11_ok, nmX11, by decide +kernel, (fun h => absurd h (by decide)), (fun _ => ⟨rfl, rfl⟩)⟩
theorem lk_X11_68 : LK RX11 68 11 15 2 (.array .int) 2 := ⟨by decide, rfl, (RX11, TX11, 16), "FallCards", tyX11, rfl, uwX11, by decide, kw_200, Or.inl rfl, tyX11_ok, nmX11, by decide +kernel, (fun h => absurd h (by decide)), (fun _ => ⟨rfl, rfl⟩)⟩
theorem lk_X0_9_0 : LK RX0 9 0 0 0 .int 2 := ⟨by decide, rfl, (RX0, TX0, 4), "FallCards$Fall", tyX0, rfl, uwX0, by decide, kw_405, Or.inl rfl, tyX0_ok, nmX0, by decide +kernel, (fun h => absurd h (by decide)), (fun _ => ⟨rfl, rfl⟩)⟩
theorem lk_X0_9_2 : LK RX0 9 2 0 0 .int 2 := ⟨by decide, rfl, (RX2, TX2, 4), "FallCards$Fall", tyX2, rfl, uwX2, by decide, kw_405, Or.inl rfl, tyX2_ok, nmX2, by decide +kernel, (fun h => absurd h (by decide)), (fun _ => ⟨rfl, rfl⟩)⟩
theorem lk_X0_9_4 : LK RX0 9 4 0 0 .int 2 := ⟨by decide, rfl, (RX4, TX4, 4), "FallCards$Fall", tyX4, rfl, uwX4, by decide, kw_405, Or.inl rfl, tyX4_ok, nmX4, by decide +kernel, (fun h => absurd h (by decide)), (fun _ => ⟨rfl, rfl⟩)⟩
theorem lk_X0_9_5 : LK RX0 9 5 0 0 .int 2 := ⟨by decide, rfl, (RX5, TX5, 4), "FallCards$Fall", tyX5, rfl, uwX5, by decide, kw_405, Or.inl rfl, tyX5_ok, nmX5, by decide +kernel, (fun h => absurd h (by decide)), (fun _ => ⟨rfl, rfl⟩)⟩
theorem lk_X0_9_8 : LK RX0 9 8 0 0 .int 2 := ⟨by decide, rfl, (RX8, TX8, 4), "FallCards$Fall", tyX8, rfl, uwX8, by decide, kw_405, Or.inl rfl, tyX8_ok, nmX8, by decide +kernel, (fun h => absurd h (by decide)), (fun _ => ⟨rfl, rfl⟩)⟩
theorem lk_X0_9_9 : LK RX0 9 9 0 0 .int 2 := ⟨by decide, rfl, (RX9, TX9, 4), "FallCards$Fall", tyX9, rfl, uwX9, by decide, kw_405, Or.inl rfl, tyX9_ok, nmX9, by decide +kernel, (fun h => absurd h (by decide)), (fun _ => ⟨rfl, rfl⟩)⟩
theorem lf_X0_9 : ∀ ci ∈ fks, LK RX0 9 ci 0 0 .int 2 := by
  intro ci hc
  simp only [fks, List.mem_cons, List.not_mem_nil, or_false] at hc
  rcases hc with rfl | rfl | rfl | rfl | rfl | rfl
  · exact lk_X0_9_0
  · exact lk_X0_9_2
  · exact lk_X0_9_4
  · exact lk_X0_9_5
  · exact lk_X0_9_8
  · exact lk_X0_9_9
theorem lk_X2_26_0 : LK RX2 26 0 0 0 .int 0 := ⟨by decide, rfl, (RX0, TX0, 4), "FallCards$Righted", tyX0, rfl, uwX0, by decide, kw_406, Or.inr kw_407, tyX0_ok, nmX0, by decide +kernel, (fun h => absurd h (by decide)), (fun h => absurd h (by decide))⟩
theorem lk_X2_26_2 : LK RX2 26 2 0 0 .int 0 := ⟨by decide, rfl, (RX2, TX2, 4), "FallCards$Righted", tyX2, rfl, uwX2, by decide, kw_406, Or.inr kw_407, tyX2_ok, nmX2, by decide +kernel, (fun h => absurd h (by decide)), (fun h => absurd h (by decide))⟩
theorem lk_X2_26_4 : LK RX2 26 4 0 0 .int 0 := ⟨by decide, rfl, (RX4, TX4, 4), "FallCards$Righted", tyX4, rfl, uwX4, by decide, kw_406, Or.inr kw_407, tyX4_ok, nmX4, by decide +kernel, (fun h => absurd h (by decide)), (fun h => absurd h (by decide))⟩
theorem lk_X2_26_5 : LK RX2 26 5 0 0 .int 0 := ⟨by decide, rfl, (RX5, TX5, 4), "FallCards$Righted", tyX5, rfl, uwX5, by decide, kw_406, Or.inr kw_407, tyX5_ok, nmX5, by decide +kernel, (fun h => absurd h (by decide)), (fun h => absurd h (by decide))⟩
theorem lk_X2_26_8 : LK RX2 26 8 0 0 .int 0 := ⟨by decide, rfl, (RX8, TX8, 4), "FallCards$Righted", tyX8, rfl, uwX8, by decide, kw_406, Or.inr kw_407, tyX8_ok, nmX8, by decide +kernel, (fun h => absurd h (by decide)), (fun h => absurd h (by decide))⟩
theorem lk_X2_26_9 : LK RX2 26 9 0 0 .int 0 := ⟨by decide, rfl, (RX9, TX9, 4), "FallCards$Righted", tyX9, rfl, uwX9, by decide, kw_406, Or.inr kw_407, tyX9_ok, nmX9, by decide +kernel, (fun h => absurd h (by decide)), (fun h => absurd h (by decide))⟩
theorem lf_X2_26 : ∀ ci ∈ fks, LK RX2 26 ci 0 0 .int 0 := by
  intro ci hc
  simp only [fks, List.mem_cons, List.not_mem_nil, or_false] at hc
  rcases hc with rfl | rfl | rfl | rfl | rfl | rfl
  · exact lk_X2_26_0
  · exact lk_X2_26_2
  · exact lk_X2_26_4
  · exact lk_X2_26_5
  · exact lk_X2_26_8
  · exact lk_X2_26_9
theorem lk_X5_30_0 : LK RX5 30 0 0 0 .int 0 := ⟨by decide, rfl, (RX0, TX0, 4), "FallCards$Swinging", tyX0, rfl, uwX0, by decide, kw_408, Or.inr kw_409, tyX0_ok, nmX0, by decide +kernel, (fun h => absurd h (by decide)), (fun h => absurd h (by decide))⟩
theorem lk_X5_30_2 : LK RX5 30 2 0 0 .int 0 := ⟨by decide, rfl, (RX2, TX2, 4), "FallCards$Swinging", tyX2, rfl, uwX2, by decide, kw_408, Or.inr kw_409, tyX2_ok, nmX2, by decide +kernel, (fun h => absurd h (by decide)), (fun h => absurd h (by decide))⟩
theorem lk_X5_30_4 : LK RX5 30 4 0 0 .int 0 := ⟨by decide, rfl, (RX4, TX4, 4), "FallCards$Swinging", tyX4, rfl, uwX4, by decide, kw_408, Or.inr kw_409, tyX4_ok, nmX4, by decide +kernel, (fun h => absurd h (by decide)), (fun h => absurd h (by decide))⟩
theorem lk_X5_30_5 : LK RX5 30 5 0 0 .int 0 := ⟨by decide, rfl, (RX5, TX5, 4), "FallCards$Swinging", tyX5, rfl, uwX5, by decide, kw_408, Or.inr kw_409, tyX5_ok, nmX5, by decide +kernel, (fun h => absurd h (by decide)), (fun h => absurd h (by decide))⟩
theorem lk_X5_30_8 : LK RX5 30 8 0 0 .int 0 := ⟨by decide, rfl, (RX8, TX8, 4), "FallCards$Swinging", tyX8, rfl, uwX8, by decide, kw_408, Or.inr kw_409, tyX8_ok, nmX8, by decide +kernel, (fun h => absurd h (by decide)), (fun h => absurd h (by decide))⟩
theorem lk_X5_30_9 : LK RX5 30 9 0 0 .int 0 := ⟨by decide, rfl, (RX9, TX9, 4), "FallCards$Swinging", tyX9, rfl, uwX9, by decide, kw_408, Or.inr kw_409, tyX9_ok, nmX9, by decide +kernel, (fun h => absurd h (by decide)), (fun h => absurd h (by decide))⟩
theorem lf_X5_30 : ∀ ci ∈ fks, LK RX5 30 ci 0 0 .int 0 := by
  intro ci hc
  simp only [fks, List.mem_cons, List.not_mem_nil, or_false] at hc
  rcases hc with rfl | rfl | rfl | rfl | rfl | rfl
  · exact lk_X5_30_0
  · exact lk_X5_30_2
  · exact lk_X5_30_4
  · exact lk_X5_30_5
  · exact lk_X5_30_8
  · exact lk_X5_30_9
theorem lk_X11_140_0 : LK RX11 140 0 0 0 .int 0 := ⟨by decide, rfl, (RX0, TX0, 4), "FallCards$Fall", tyX0, rfl, uwX0, by decide, kw_410, Or.inl rfl, tyX0_ok, nmX0, by decide +kernel, (fun h => absurd h (by decide)), (fun h => absurd h (by decide))⟩
theorem lk_X11_140_2 : LK RX11 140 2 0 0 .int 0 := ⟨by decide, rfl, (RX2, TX2, 4), "FallCards$Fall", tyX2, rfl, uwX2, by decide, kw_410, Or.inl rfl, tyX2_ok, nmX2, by decide +kernel, (fun h => absurd h (by decide)), (fun h => absurd h (by decide))⟩
theorem lk_X11_140_4 : LK RX11 140 4 0 0 .int 0 := ⟨by decide, rfl, (RX4, TX4, 4), "FallCards$Fall", tyX4, rfl, uwX4, by decide, kw_410, Or.inl rfl, tyX4_ok, nmX4, by decide +kernel, (fun h => absurd h (by decide)), (fun h => absurd h (by decide))⟩
theorem lk_X11_140_5 : LK RX11 140 5 0 0 .int 0 := ⟨by decide, rfl, (RX5, TX5, 4), "FallCards$Fall", tyX5, rfl, uwX5, by decide, kw_410, Or.inl rfl, tyX5_ok, nmX5, by decide +kernel, (fun h => absurd h (by decide)), (fun h => absurd h (by decide))⟩
theorem lk_X11_140_8 : LK RX11 140 8 0 0 .int 0 := ⟨by decide, rfl, (RX8, TX8, 4), "FallCards$Fall", tyX8, rfl, uwX8, by decide, kw_410, Or.inl rfl, tyX8_ok, nmX8, by decide +kernel, (fun h => absurd h (by decide)), (fun h => absurd h (by decide))⟩
theorem lk_X11_140_9 : LK RX11 140 9 0 0 .int 0 := ⟨by decide, rfl, (RX9, TX9, 4), "FallCards$Fall", tyX9, rfl, uwX9, by decide, kw_410, Or.inl rfl, tyX9_ok, nmX9, by decide +kernel, (fun h => absurd h (by decide)), (fun h => absurd h (by decide))⟩
theorem lf_X11_140 : ∀ ci ∈ fks, LK RX11 140 ci 0 0 .int 0 := by
  intro ci hc
  simp only [fks, List.mem_cons, List.not_mem_nil, or_false] at hc
  rcases hc with rfl | rfl | rfl | rfl | rfl | rfl
  · exact lk_X11_140_0
  · exact lk_X11_140_2
  · exact lk_X11_140_4
  · exact lk_X11_140_5
  · exact lk_X11_140_8
  · exact lk_X11_140_9
theorem lk_X0_15_0 : LK RX0 15 0 1 0 .int 2 := ⟨by decide, rfl, (RX0, TX0, 4), "FallCards$Fall", tyX0, rfl, uwX0, by decide, kw_411, Or.inl rfl, tyX0_ok, nmX0, by decide +kernel, (fun h => absurd h (by decide)), (fun _ => ⟨rfl, rfl⟩)⟩
theorem lk_X0_15_2 : LK RX0 15 2 1 0 .int 2 := ⟨by decide, rfl, (RX2, TX2, 4), "FallCards$Fall", tyX2, rfl, uwX2, by decide, kw_411, Or.inl rfl, tyX2_ok, nmX2, by decide +kernel, (fun h => absurd h (by decide)), (fun _ => ⟨rfl, rfl⟩)⟩
theorem lk_X0_15_4 : LK RX0 15 4 1 0 .int 2 := ⟨by decide, rfl, (RX4, TX4, 4), "FallCards$Fall", tyX4, rfl, uwX4, by decide, kw_411, Or.inl rfl, tyX4_ok, nmX4, by decide +kernel, (fun h => absurd h (by decide)), (fun _ => ⟨rfl, rfl⟩)⟩
theorem lk_X0_15_5 : LK RX0 15 5 1 0 .int 2 := ⟨by decide, rfl, (RX5, TX5, 4), "FallCards$Fall", tyX5, rfl, uwX5, by decide, kw_411, Or.inl rfl, tyX5_ok, nmX5, by decide +kernel, (fun h => absurd h (by decide)), (fun _ => ⟨rfl, rfl⟩)⟩
theorem lk_X0_15_8 : LK RX0 15 8 1 0 .int 2 := ⟨by decide, rfl, (RX8, TX8, 4), "FallCards$Fall", tyX8, rfl, uwX8, by decide, kw_411, Or.inl rfl, tyX8_ok, nmX8, by decide +kernel, (fun h => absurd h (by decide)), (fun _ => ⟨rfl, rfl⟩)⟩
theorem lk_X0_15_9 : LK RX0 15 9 1 0 .int 2 := ⟨by decide, rfl, (RX9, TX9, 4), "FallCards$Fall", tyX9, rfl, uwX9, by decide, kw_411, Or.inl rfl, tyX9_ok, nmX9, by decide +kernel, (fun h => absurd h (by decide)), (fun _ => ⟨rfl, rfl⟩)⟩
theorem lf_X0_15 : ∀ ci ∈ fks, LK RX0 15 ci 1 0 .int 2 := by
  intro ci hc
  simp only [fks, List.mem_cons, List.not_mem_nil, or_false] at hc
  rcases hc with rfl | rfl | rfl | rfl | rfl | rfl
  · exact lk_X0_15_0
  · exact lk_X0_15_2
  · exact lk_X0_15_4
  · exact lk_X0_15_5
  · exact lk_X0_15_8
  · exact lk_X0_15_9
theorem lk_X1_15_0 : LK RX1 15 0 1 0 .int 0 := ⟨by decide, rfl, (RX0, TX0, 4), "FallCards$Fall", tyX0, rfl, uwX0, by decide, kw_412, Or.inl rfl, tyX0_ok, nmX0, by decide +kernel, (fun h => absurd h (by decide)), (fun h => absurd h (by decide))⟩
theorem lk_X1_15_2 : LK RX1 15 2 1 0 .int 0 := ⟨by decide, rfl, (RX2, TX2, 4), "FallCards$Fall", tyX2, rfl, uwX2, by decide, kw_412, Or.inl rfl, tyX2_ok, nmX2, by decide +kernel, (fun h => absurd h (by decide)), (fun h => absurd h (by decide))⟩
theorem lk_X1_15_4 : LK RX1 15 4 1 0 .int 0 := ⟨by decide, rfl, (RX4, TX4, 4), "FallCards$Fall", tyX4, rfl, uwX4, by decide, kw_412, Or.inl rfl, tyX4_ok, nmX4, by decide +kernel, (fun h => absurd h (by decide)), (fun h => absurd h (by decide))⟩
theorem lk_X1_15_5 : LK RX1 15 5 1 0 .int 0 := ⟨by decide, rfl, (RX5, TX5, 4), "FallCards$Fall", tyX5, rfl, uwX5, by decide, kw_412, Or.inl rfl, tyX5_ok, nmX5, by decide +kernel, (fun h => absurd h (by decide)), (fun h => absurd h (by decide))⟩
theorem lk_X1_15_8 : LK RX1 15 8 1 0 .int 0 := ⟨by decide, rfl, (RX8, TX8, 4), "FallCards$Fall", tyX8, rfl, uwX8, by decide, kw_412, Or.inl rfl, tyX8_ok, nmX8, by decide +kernel, (fun h => absurd h (by decide)), (fun h => absurd h (by decide))⟩
theorem lk_X1_15_9 : LK RX1 15 9 1 0 .int 0 := ⟨by decide, rfl, (RX9, TX9, 4), "FallCards$Fall", tyX9, rfl, uwX9, by decide, kw_412, Or.inl rfl, tyX9_ok, nmX9, by decide +kernel, (fun h => absurd h (by decide)), (fun h => absurd h (by decide))⟩
theorem lf_X1_15 : ∀ ci ∈ fks, LK RX1 15 ci 1 0 .int 0 := by
  intro ci hc
  simp only [fks, List.mem_cons, List.not_mem_nil, or_false] at hc
  rcases hc with rfl | rfl | rfl | rfl | rfl | rfl
  · exact lk_X1_15_0
  · exact lk_X1_15_2
  · exact lk_X1_15_4
  · exact lk_X1_15_5
  · exact lk_X1_15_8
  · exact lk_X1_15_9
theorem lk_X4_17_0 : LK RX4 17 0 1 0 .int 0 := ⟨by decide, rfl, (RX0, TX0, 4), "FallCards$Steady", tyX0, rfl, uwX0, by decide, kw_413, Or.inr kw_414, tyX0_ok, nmX0, by decide +kernel, (fun h => absurd h (by decide)), (fun h => absurd h (by decide))⟩
theorem lk_X4_17_2 : LK RX4 17 2 1 0 .int 0 := ⟨by decide, rfl, (RX2, TX2, 4), "FallCards$Steady", tyX2, rfl, uwX2, by decide, kw_413, Or.inr kw_414, tyX2_ok, nmX2, by decide +kernel, (fun h => absurd h (by decide)), (fun h => absurd h (by decide))⟩
theorem lk_X4_17_4 : LK RX4 17 4 1 0 .int 0 := ⟨by decide, rfl, (RX4, TX4, 4), "FallCards$Steady", tyX4, rfl, uwX4, by decide, kw_413, Or.inr kw_414, tyX4_ok, nmX4, by decide +kernel, (fun h => absurd h (by decide)), (fun h => absurd h (by decide))⟩
theorem lk_X4_17_5 : LK RX4 17 5 1 0 .int 0 := ⟨by decide, rfl, (RX5, TX5, 4), "FallCards$Steady", tyX5, rfl, uwX5, by decide, kw_413, Or.inr kw_414, tyX5_ok, nmX5, by decide +kernel, (fun h => absurd h (by decide)), (fun h => absurd h (by decide))⟩
theorem lk_X4_17_8 : LK RX4 17 8 1 0 .int 0 := ⟨by decide, rfl, (RX8, TX8, 4), "FallCards$Steady", tyX8, rfl, uwX8, by decide, kw_413, Or.inr kw_414, tyX8_ok, nmX8, by decide +kernel, (fun h => absurd h (by decide)), (fun h => absurd h (by decide))⟩
theorem lk_X4_17_9 : LK RX4 17 9 1 0 .int 0 := ⟨by decide, rfl, (RX9, TX9, 4), "FallCards$Steady", tyX9, rfl, uwX9, by decide, kw_413, Or.inr kw_414, tyX9_ok, nmX9, by decide +kernel, (fun h => absurd h (by decide)), (fun h => absurd h (by decide))⟩
theorem lf_X4_17 : ∀ ci ∈ fks, LK RX4 17 ci 1 0 .int 0 := by
  intro ci hc
  simp only [fks, List.mem_cons, List.not_mem_nil, or_false] at hc
  rcases hc with rfl | rfl | rfl | rfl | rfl | rfl
  · exact lk_X4_17_0
  · exact lk_X4_17_2
  · exact lk_X4_17_4
  · exact lk_X4_17_5
  · exact lk_X4_17_8
  · exact lk_X4_17_9
theorem lk_X9_20_0 : LK RX9 20 0 1 0 .int 0 := ⟨by decide, rfl, (RX0, TX0, 4), "FallCards$Winged", tyX0, rfl, uwX0, by decide, kw_415, Or.inr kw_416, tyX0_ok, nmX0, by decide +kernel, (fun h => absurd h (by decide)), (fun h => absurd h (by decide))⟩
theorem lk_X9_20_2 : LK RX9 20 2 1 0 .int 0 := ⟨by decide, rfl, (RX2, TX2, 4), "FallCards$Winged", tyX2, rfl, uwX2, by decide, kw_415, Or.inr kw_416, tyX2_ok, nmX2, by decide +kernel, (fun h => absurd h (by decide)), (fun h => absurd h (by decide))⟩
theorem lk_X9_20_4 : LK RX9 20 4 1 0 .int 0 := ⟨by decide, rfl, (RX4, TX4, 4), "FallCards$Winged", tyX4, rfl, uwX4, by decide, kw_415, Or.inr kw_416, tyX4_ok, nmX4, by decide +kernel, (fun h => absurd h (by decide)), (fun h => absurd h (by decide))⟩
theorem lk_X9_20_5 : LK RX9 20 5 1 0 .int 0 := ⟨by decide, rfl, (RX5, TX5, 4), "FallCards$Winged", tyX5, rfl, uwX5, by decide, kw_415, Or.inr kw_416, tyX5_ok, nmX5, by decide +kernel, (fun h => absurd h (by decide)), (fun h => absurd h (by decide))⟩
theorem lk_X9_20_8 : LK RX9 20 8 1 0 .int 0 := ⟨by decide, rfl, (RX8, TX8, 4), "FallCards$Winged", tyX8, rfl, uwX8, by decide, kw_415, Or.inr kw_416, tyX8_ok, nmX8, by decide +kernel, (fun h => absurd h (by decide)), (fun h => absurd h (by decide))⟩
theorem lk_X9_20_9 : LK RX9 20 9 1 0 .int 0 := ⟨by decide, rfl, (RX9, TX9, 4), "FallCards$Winged", tyX9, rfl, uwX9, by decide, kw_415, Or.inr kw_416, tyX9_ok, nmX9, by decide +kernel, (fun h => absurd h (by decide)), (fun h => absurd h (by decide))⟩
theorem lf_X9_20 : ∀ ci ∈ fks, LK RX9 20 ci 1 0 .int 0 := by
  intro ci hc
  simp only [fks, List.mem_cons, List.not_mem_nil, or_false] at hc
  rcases hc with rfl | rfl | rfl | rfl | rfl | rfl
  · exact lk_X9_20_0
  · exact lk_X9_20_2
  · exact lk_X9_20_4
  · exact lk_X9_20_5
  · exact lk_X9_20_8
  · exact lk_X9_20_9
theorem lk_X11_111_0 : LK RX11 111 0 1 0 .int 0 := ⟨by decide, rfl, (RX0, TX0, 4), "FallCards$Fall", tyX0, rfl, uwX0, by decide, kw_417, Or.inl rfl, tyX0_ok, nmX0, by decide +kernel, (fun h => absurd h (by decide)), (fun h => absurd h (by decide))⟩
theorem lk_X11_111_2 : LK RX11 111 2 1 0 .int 0 := ⟨by decide, rfl, (RX2, TX2, 4), "FallCards$Fall", tyX2, rfl, uwX2, by decide, kw_417, Or.inl rfl, tyX2_ok, nmX2, by decide +kernel, (fun h => absurd h (by decide)), (fun h => absurd h (by decide))⟩
theorem lk_X11_111_4 : LK RX11 111 4 1 0 .int 0 := ⟨by decide, rfl, (RX4, TX4, 4), "FallCards$Fall", tyX4, rfl, uwX4, by decide, kw_417, Or.inl rfl, tyX4_ok, nmX4, by decide +kernel, (fun h => absurd h (by decide)), (fun h => absurd h (by decide))⟩
theorem lk_X11_111_5 : LK RX11 111 5 1 0 .int 0 := ⟨by decide, rfl, (RX5, TX5, 4), "FallCards$Fall", tyX5, rfl, uwX5, by decide, kw_417, Or.inl rfl, tyX5_ok, nmX5, by decide +kernel, (fun h => absurd h (by decide)), (fun h => absurd h (by decide))⟩
theorem lk_X11_111_8 : LK RX11 111 8 1 0 .int 0 := ⟨by decide, rfl, (RX8, TX8, 4), "FallCards$Fall", tyX8, rfl, uwX8, by decide, kw_417, Or.inl rfl, tyX8_ok, nmX8, by decide +kernel, (fun h => absurd h (by decide)), (fun h => absurd h (by decide))⟩
theorem lk_X11_111_9 : LK RX11 111 9 1 0 .int 0 := ⟨by decide, rfl, (RX9, TX9, 4), "FallCards$Fall", tyX9, rfl, uwX9, by decide, kw_417, Or.inl rfl, tyX9_ok, nmX9, by decide +kernel, (fun h => absurd h (by decide)), (fun h => absurd h (by decide))⟩
theorem lf_X11_111 : ∀ ci ∈ fks, LK RX11 111 ci 1 0 .int 0 := by
  intro ci hc
  simp only [fks, List.mem_cons, List.not_mem_nil, or_false] at hc
  rcases hc with rfl | rfl | rfl | rfl | rfl | rfl
  · exact lk_X11_111_0
  · exact lk_X11_111_2
  · exact lk_X11_111_4
  · exact lk_X11_111_5
  · exact lk_X11_111_8
  · exact lk_X11_111_9
theorem lk_X0_18_0 : LK RX0 18 0 2 0 .int 2 := ⟨by decide, rfl, (RX0, TX0, 4), "FallCards$Fall", tyX0, rfl, uwX0, by decide, kw_418, Or.inl rfl, tyX0_ok, nmX0, by decide +kernel, (fun h => absurd h (by decide)), (fun _ => ⟨rfl, rfl⟩)⟩
theorem lk_X0_18_2 : LK RX0 18 2 2 0 .int 2 := ⟨by decide, rfl, (RX2, TX2, 4), "FallCards$Fall", tyX2, rfl, uwX2, by decide, kw_418, Or.inl rfl, tyX2_ok, nmX2, by decide +kernel, (fun h => absurd h (by decide)), (fun _ => ⟨rfl, rfl⟩)⟩
theorem lk_X0_18_4 : LK RX0 18 4 2 0 .int 2 := ⟨by decide, rfl, (RX4, TX4, 4), "FallCards$Fall", tyX4, rfl, uwX4, by decide, kw_418, Or.inl rfl, tyX4_ok, nmX4, by decide +kernel, (fun h => absurd h (by decide)), (fun _ => ⟨rfl, rfl⟩)⟩
theorem lk_X0_18_5 : LK RX0 18 5 2 0 .int 2 := ⟨by decide, rfl, (RX5, TX5, 4), "FallCards$Fall", tyX5, rfl, uwX5, by decide, kw_418, Or.inl rfl, tyX5_ok, nmX5, by decide +kernel, (fun h => absurd h (by decide)), (fun _ => ⟨rfl, rfl⟩)⟩
theorem lk_X0_18_8 : LK RX0 18 8 2 0 .int 2 := ⟨by decide, rfl, (RX8, TX8, 4), "FallCards$Fall", tyX8, rfl, uwX8, by decide, kw_418, Or.inl rfl, tyX8_ok, nmX8, by decide +kernel, (fun h => absurd h (by decide)), (fun _ => ⟨rfl, rfl⟩)⟩
theorem lk_X0_18_9 : LK RX0 18 9 2 0 .int 2 := ⟨by decide, rfl, (RX9, TX9, 4), "FallCards$Fall", tyX9, rfl, uwX9, by decide, kw_418, Or.inl rfl, tyX9_ok, nmX9, by decide +kernel, (fun h => absurd h (by decide)), (fun _ => ⟨rfl, rfl⟩)⟩
theorem lf_X0_18 : ∀ ci ∈ fks, LK RX0 18 ci 2 0 .int 2 := by
  intro ci hc
  simp only [fks, List.mem_cons, List.not_mem_nil, or_false] at hc
  rcases hc with rfl | rfl | rfl | rfl | rfl | rfl
  · exact lk_X0_18_0
  · exact lk_X0_18_2
  · exact lk_X0_18_4
  · exact lk_X0_18_5
  · exact lk_X0_18_8
  · exact lk_X0_18_9
theorem lk_X11_114_0 : LK RX11 114 0 2 0 .int 0 := ⟨by decide, rfl, (RX0, TX0, 4), "FallCards$Fall", tyX0, rfl, uwX0, by decide, kw_419, Or.inl rfl, tyX0_ok, nmX0, by decide +kernel, (fun h => absurd h (by decide)), (fun h => absurd h (by decide))⟩
theorem lk_X11_114_2 : LK RX11 114 2 2 0 .int 0 := ⟨by decide, rfl, (RX2, TX2, 4), "FallCards$Fall", tyX2, rfl, uwX2, by decide, kw_419, Or.inl rfl, tyX2_ok, nmX2, by decide +kernel, (fun h => absurd h (by decide)), (fun h => absurd h (by decide))⟩
theorem lk_X11_114_4 : LK RX11 114 4 2 0 .int 0 := ⟨by decide, rfl, (RX4, TX4, 4), "FallCards$Fall", tyX4, rfl, uwX4, by decide, kw_419, Or.inl rfl, tyX4_ok, nmX4, by decide +kernel, (fun h => absurd h (by decide)), (fun h => absurd h (by decide))⟩
theorem lk_X11_114_5 : LK RX11 114 5 2 0 .int 0 := ⟨by decide, rfl, (RX5, TX5, 4), "FallCards$Fall", tyX5, rfl, uwX5, by decide, kw_419, Or.inl rfl, tyX5_ok, nmX5, by decide +kernel, (fun h => absurd h (by decide)), (fun h => absurd h (by decide))⟩
theorem lk_X11_114_8 : LK RX11 114 8 2 0 .int 0 := ⟨by decide, rfl, (RX8, TX8, 4), "FallCards$Fall", tyX8, rfl, uwX8, by decide, kw_419, Or.inl rfl, tyX8_ok, nmX8, by decide +kernel, (fun h => absurd h (by decide)), (fun h => absurd h (by decide))⟩
theorem lk_X11_114_9 : LK RX11 114 9 2 0 .int 0 := ⟨by decide, rfl, (RX9, TX9, 4), "FallCards$Fall", tyX9, rfl, uwX9, by decide, kw_419, Or.inl rfl, tyX9_ok, nmX9, by decide +kernel, (fun h => absurd h (by decide)), (fun h => absurd h (by decide))⟩
theorem lf_X11_114 : ∀ ci ∈ fks, LK RX11 114 ci 2 0 .int 0 := by
  intro ci hc
  simp only [fks, List.mem_cons, List.not_mem_nil, or_false] at hc
  rcases hc with rfl | rfl | rfl | rfl | rfl | rfl
  · exact lk_X11_114_0
  · exact lk_X11_114_2
  · exact lk_X11_114_4
  · exact lk_X11_114_5
  · exact lk_X11_114_8
  · exact lk_X11_114_9
theorem lk_X0_21_0 : LK RX0 21 0 3 0 .int 2 := ⟨by decide, rfl, (RX0, TX0, 4), "FallCards$Fall", tyX0, rfl, uwX0, by decide, kw_420, Or.inl rfl, tyX0_ok, nmX0, by decide +kernel, (fun h => absurd h (by decide)), (fun _ => ⟨rfl, rfl⟩)⟩
theorem lk_X0_21_2 : LK RX0 21 2 3 0 .int 2 := ⟨by decide, rfl, (RX2, TX2, 4), "FallCards$Fall", tyX2, rfl, uwX2, by decide, kw_420, Or.inl rfl, tyX2_ok, nmX2, by decide +kernel, (fun h => absurd h (by decide)), (fun _ => ⟨rfl, rfl⟩)⟩
theorem lk_X0_21_4 : LK RX0 21 4 3 0 .int 2 := ⟨by decide, rfl, (RX4, TX4, 4), "FallCards$Fall", tyX4, rfl, uwX4, by decide, kw_420, Or.inl rfl, tyX4_ok, nmX4, by decide +kernel, (fun h => absurd h (by decide)), (fun _ => ⟨rfl, rfl⟩)⟩
theorem lk_X0_21_5 : LK RX0 21 5 3 0 .int 2 := ⟨by decide, rfl, (RX5, TX5, 4), "FallCards$Fall", tyX5, rfl, uwX5, by decide, kw_420, Or.inl rfl, tyX5_ok, nmX5, by decide +kernel, (fun h => absurd h (by decide)), (fun _ => ⟨rfl, rfl⟩)⟩
theorem lk_X0_21_8 : LK RX0 21 8 3 0 .int 2 := ⟨by decide, rfl, (RX8, TX8, 4), "FallCards$Fall", tyX8, rfl, uwX8, by decide, kw_420, Or.inl rfl, tyX8_ok, nmX8, by decide +kernel, (fun h => absurd h (by decide)), (fun _ => ⟨rfl, rfl⟩)⟩
theorem lk_X0_21_9 : LK RX0 21 9 3 0 .int 2 := ⟨by decide, rfl, (RX9, TX9, 4), "FallCards$Fall", tyX9, rfl, uwX9, by decide, kw_420, Or.inl rfl, tyX9_ok, nmX9, by decide +kernel, (fun h => absurd h (by decide)), (fun _ => ⟨rfl, rfl⟩)⟩
theorem lf_X0_21 : ∀ ci ∈ fks, LK RX0 21 ci 3 0 .int 2 := by
  intro ci hc
  simp only [fks, List.mem_cons, List.not_mem_nil, or_false] at hc
  rcases hc with rfl | rfl | rfl | rfl | rfl | rfl
  · exact lk_X0_21_0
  · exact lk_X0_21_2
  · exact lk_X0_21_4
  · exact lk_X0_21_5
  · exact lk_X0_21_8
  · exact lk_X0_21_9
theorem lk_X11_117_0 : LK RX11 117 0 3 0 .int 0 := ⟨by decide, rfl, (RX0, TX0, 4), "FallCards$Fall", tyX0, rfl, uwX0, by decide, kw_421, Or.inl rfl, tyX0_ok, nmX0, by decide +kernel, (fun h => absurd h (by decide)), (fun h => absurd h (by decide))⟩
theorem lk_X11_117_2 : LK RX11 117 2 3 0 .int 0 := ⟨by decide, rfl, (RX2, TX2, 4), "FallCards$Fall", tyX2, rfl, uwX2, by decide, kw_421, Or.inl rfl, tyX2_ok, nmX2, by decide +kernel, (fun h => absurd h (by decide)), (fun h => absurd h (by decide))⟩
theorem lk_X11_117_4 : LK RX11 117 4 3 0 .int 0 := ⟨by decide, rfl, (RX4, TX4, 4), "FallCards$Fall", tyX4, rfl, uwX4, by decide, kw_421, Or.inl rfl, tyX4_ok, nmX4, by decide +kernel, (fun h => absurd h (by decide)), (fun h => absurd h (by decide))⟩
theorem lk_X11_117_5 : LK RX11 117 5 3 0 .int 0 := ⟨by decide, rfl, (RX5, TX5, 4), "FallCards$Fall", tyX5, rfl, uwX5, by decide, kw_421, Or.inl rfl, tyX5_ok, nmX5, by decide +kernel, (fun h => absurd h (by decide)), (fun h => absurd h (by decide))⟩
theorem lk_X11_117_8 : LK RX11 117 8 3 0 .int 0 := ⟨by decide, rfl, (RX8, TX8, 4), "FallCards$Fall", tyX8, rfl, uwX8, by decide, kw_421, Or.inl rfl, tyX8_ok, nmX8, by decide +kernel, (fun h => absurd h (by decide)), (fun h => absurd h (by decide))⟩
theorem lk_X11_117_9 : LK RX11 117 9 3 0 .int 0 := ⟨by decide, rfl, (RX9, TX9, 4), "FallCards$Fall", tyX9, rfl, uwX9, by decide, kw_421, Or.inl rfl, tyX9_ok, nmX9, by decide +kernel, (fun h => absurd h (by decide)), (fun h => absurd h (by decide))⟩
theorem lf_X11_117 : ∀ ci ∈ fks, LK RX11 117 ci 3 0 .int 0 := by
  intro ci hc
  simp only [fks, List.mem_cons, List.not_mem_nil, or_false] at hc
  rcases hc with rfl | rfl | rfl | rfl | rfl | rfl
  · exact lk_X11_117_0
  · exact lk_X11_117_2
  · exact lk_X11_117_4
  · exact lk_X11_117_5
  · exact lk_X11_117_8
  · exact lk_X11_117_9
theorem lk_X12_81 : LK RX12 81 12 0 0 .int 1 := ⟨by decide, rfl, (RX12, TX12, 54), "FallCardsModel", tyX12, rfl, uwX12, by decide, kw_917, Or.inl rfl, tyX12_ok, nmX12, by decide +kernel, (fun _ => rfl), (fun h => absurd h (by decide))⟩
theorem lk_X12_7 : LK RX12 7 12 1 2 (.array .int) 2 := ⟨by decide, rfl, (RX12, TX12, 54), "FallCardsModel", tyX12, rfl, uwX12, by decide, kw_918, Or.inl rfl, tyX12_ok, nmX12, by decide +kernel, (fun h => absurd h (by decide)), (fun _ => ⟨rfl, rfl⟩)⟩
theorem lk_X12_13 : LK RX12 13 12 2 2 (.array .int) 2 := ⟨by decide, rfl, (RX12, TX12, 54), "FallCardsModel", tyX12, rfl, uwX12, by decide, kw_919, Or.inl rfl, tyX12_ok, nmX12, by decide +kernel, (fun h => absurd h (by decide)), (fun _ => ⟨rfl, rfl⟩)⟩
theorem lk_X12_16 : LK RX12 16 12 3 2 (.array .int) 2 := ⟨by decide, rfl, (RX12, TX12, 54), "FallCardsModel", tyX12, rfl, uwX12, by decide, kw_920, Or.inl rfl, tyX12_ok, nmX12, by decide +kernel, (fun h => absurd h (by decide)), (fun _ => ⟨rfl, rfl⟩)⟩
theorem lk_X12_19 : LK RX12 19 12 4 2 (.array .int) 2 := ⟨by decide, rfl, (RX12, TX12, 54), "FallCardsModel", tyX12, rfl, uwX12, by decide, kw_921, Or.inl rfl, tyX12_ok, nmX12, by decide +kernel, (fun h => absurd h (by decide)), (fun _ => ⟨rfl, rfl⟩)⟩
theorem lk_X12_22 : LK RX12 22 12 5 0 .int 1 := ⟨by decide, rfl, (RX12, TX12, 54), "FallCardsModel", tyX12, rfl, uwX12, by decide, kw_922, Or.inl rfl, tyX12_ok, nmX12, by decide +kernel, (fun _ => rfl), (fun h => absurd h (by decide))⟩
theorem lk_X12_26 : LK RX12 26 12 6 2 (.array .int) 2 := ⟨by decide, rfl, (RX12, TX12, 54), "FallCardsModel", tyX12, rfl, uwX12, by decide, kw_923, Or.inl rfl, tyX12_ok, nmX12, by decide +kernel, (fun h => absurd h (by decide)), (fun _ => ⟨rfl, rfl⟩)⟩
theorem lk_X12_29 : LK RX12 29 12 7 2 (.array .int) 2 := ⟨by decide, rfl, (RX12, TX12, 54), "FallCardsModel", tyX12, rfl, uwX12, by decide, kw_924, Or.inl rfl, tyX12_ok, nmX12, by decide +kernel, (fun h => absurd h (by decide)), (fun _ => ⟨rfl, rfl⟩)⟩
theorem lk_X12_88 : LK RX12 88 12 8 0 .int 1 := ⟨by decide, rfl, (RX12, TX12, 54), "FallCardsModel", tyX12, rfl, uwX12, by decide, kw_925, Or.inl rfl, tyX12_ok, nmX12, by decide +kernel, (fun _ => rfl), (fun h => absurd h (by decide))⟩
theorem lk_X12_110 : LK RX12 110 12 9 0 .int 1 := ⟨by decide, rfl, (RX12, TX12, 54), "FallCardsModel", tyX12, rfl, uwX12, by decide, kw_926, Or.inl rfl, tyX12_ok, nmX12, by decide +kernel, (fun _ => rfl), (fun h => absurd h (by decide))⟩
theorem lk_X12_96 : LK RX12 96 12 10 0 .int 1 := ⟨by decide, rfl, (RX12, TX12, 54), "FallCardsModel", tyX12, rfl, uwX12, by decide, kw_927, Or.inl rfl, tyX12_ok, nmX12, by decide +kernel, (fun _ => rfl), (fun h => absurd h (by decide))⟩
theorem lk_X12_93 : LK RX12 93 12 11 0 .int 1 := ⟨by decide, rfl, (RX12, TX12, 54), "FallCardsModel", tyX12, rfl, uwX12, by decide, kw_928, Or.inl rfl, tyX12_ok, nmX12, by decide +kernel, (fun _ => rfl), (fun h => absurd h (by decide))⟩
theorem lk_X12_113 : LK RX12 113 12 12 1 .long 1 := ⟨by decide, rfl, (RX12, TX12, 54), "FallCardsModel", tyX12, rfl, uwX12, by decide, kw_929, Or.inl rfl, tyX12_ok, nmX12, by decide +kernel, (fun _ => rfl), (fun h => absurd h (by decide))⟩
theorem lk_X12_117 : LK RX12 117 12 13 0 .int 1 := ⟨by decide, rfl, (RX12, TX12, 54), "FallCardsModel", tyX12, rfl, uwX12, by decide, kw_930, Or.inl rfl, tyX12_ok, nmX12, by decide +kernel, (fun _ => rfl), (fun h => absurd h (by decide))⟩
theorem lk_X12_154 : LK RX12 154 12 14 0 .boolean 1 := ⟨by decide, rfl, (RX12, TX12, 54), "FallCardsModel", tyX12, rfl, uwX12, by decide, kw_931, Or.inl rfl, tyX12_ok, nmX12, by decide +kernel, (fun _ => rfl), (fun h => absurd h (by decide))⟩
theorem lk_X12_164 : LK RX12 164 12 15 0 .int 1 := ⟨by decide, rfl, (RX12, TX12, 54), "FallCardsModel", tyX12, rfl, uwX12, by decide, kw_932, Or.inl rfl, tyX12_ok, nmX12, by decide +kernel, (fun _ => rfl), (fun h => absurd h (by decide))⟩
theorem lk_X12_32 : LK RX12 32 12 16 2 (.array .int) 2 := ⟨by decide, rfl, (RX12, TX12, 54), "FallCardsModel", tyX12, rfl, uwX12, by decide, kw_933, Or.inl rfl, tyX12_ok, nmX12, by decide +kernel, (fun h => absurd h (by decide)), (fun _ => ⟨rfl, rfl⟩)⟩
theorem lk_X12_35 : LK RX12 35 12 17 2 (.array .int) 2 := ⟨by decide, rfl, (RX12, TX12, 54), "FallCardsModel", tyX12, rfl, uwX12, by decide, kw_934, Or.inl rfl, tyX12_ok, nmX12, by decide +kernel, (fun h => absurd h (by decide)), (fun _ => ⟨rfl, rfl⟩)⟩
theorem lk_X12_38 : LK RX12 38 12 18 2 (.array .int) 2 := ⟨by decide, rfl, (RX12, TX12, 54), "FallCardsModel", tyX12, rfl, uwX12, by decide, kw_935, Or.inl rfl, tyX12_ok, nmX12, by decide +kernel, (fun h => absurd h (by decide)), (fun _ => ⟨rfl, rfl⟩)⟩
theorem lk_X12_220 : LK RX12 220 12 19 0 .int 1 := ⟨by decide, rfl, (RX12, TX12, 54), "FallCardsModel", tyX12, rfl, uwX12, by decide, kw_936, Or.inl rfl, tyX12_ok, nmX12, by decide +kernel, (fun _ => rfl), (fun h => absurd h (by decide))⟩
theorem lk_X12_223 : LK RX12 223 12 20 0 .int 1 := ⟨by decide, rfl, (RX12, TX12, 54), "FallCardsModel", tyX12, rfl, uwX12, by decide, kw_937, Or.inl rfl, tyX12_ok, nmX12, by decide +kernel, (fun _ => rfl), (fun h => absurd h (by decide))⟩
theorem lk_X12_226 : LK RX12 226 12 21 0 .int 1 := ⟨by decide, rfl, (RX12, TX12, 54), "FallCardsModel", tyX12, rfl, uwX12, by decide, kw_938, Or.inl rfl, tyX12_ok, nmX12, by decide +kernel, (fun _ => rfl), (fun h => absurd h (by decide))⟩
theorem lk_X12_229 : LK RX12 229 12 22 0 .int 1 := ⟨by decide, rfl, (RX12, TX12, 54), "FallCardsModel", tyX12, rfl, uwX12, by decide, kw_939, Or.inl rfl, tyX12_ok, nmX12, by decide +kernel, (fun _ => rfl), (fun h => absurd h (by decide))⟩
theorem lk_X12_232 : LK RX12 232 12 23 0 .int 1 := ⟨by decide, rfl, (RX12, TX12, 54), "FallCardsModel", tyX12, rfl, uwX12, by decide, kw_940, Or.inl rfl, tyX12_ok, nmX12, by decide +kernel, (fun _ => rfl), (fun h => absurd h (by decide))⟩
theorem lk_X12_235 : LK RX12 235 12 24 0 .int 1 := ⟨by decide, rfl, (RX12, TX12, 54), "FallCardsModel", tyX12, rfl, uwX12, by decide, kw_941, Or.inl rfl, tyX12_ok, nmX12, by decide +kernel, (fun _ => rfl), (fun h => absurd h (by decide))⟩
theorem lk_X12_238 : LK RX12 238 12 25 0 .int 1 := ⟨by decide, rfl, (RX12, TX12, 54), "FallCardsModel", tyX12, rfl, uwX12, by decide, kw_942, Or.inl rfl, tyX12_ok, nmX12, by decide +kernel, (fun _ => rfl), (fun h => absurd h (by decide))⟩
theorem lk_X12_241 : LK RX12 241 12 26 0 .int 1 := ⟨by decide, rfl, (RX12, TX12, 54), "FallCardsModel", tyX12, rfl, uwX12, by decide, kw_943, Or.inl rfl, tyX12_ok, nmX12, by decide +kernel, (fun _ => rfl), (fun h => absurd h (by decide))⟩
theorem lk_X12_244 : LK RX12 244 12 27 0 .int 1 := ⟨by decide, rfl, (RX12, TX12, 54), "FallCardsModel", tyX12, rfl, uwX12, by decide, kw_944, Or.inl rfl, tyX12_ok, nmX12, by decide +kernel, (fun _ => rfl), (fun h => absurd h (by decide))⟩
theorem lk_X12_247 : LK RX12 247 12 28 0 .int 1 := ⟨by decide, rfl, (RX12, TX12, 54), "FallCardsModel", tyX12, rfl, uwX12, by decide, kw_945, Or.inl rfl, tyX12_ok, nmX12, by decide +kernel, (fun _ => rfl), (fun h => absurd h (by decide))⟩
theorem lk_X12_250 : LK RX12 250 12 29 0 .int 1 := ⟨by decide, rfl, (RX12, TX12, 54), "FallCardsModel", tyX12, rfl, uwX12, by decide, kw_946, Or.inl rfl, tyX12_ok, nmX12, by decide +kernel, (fun _ => rfl), (fun h => absurd h (by decide))⟩
theorem lk_X12_253 : LK RX12 253 12 30 0 .int 1 := ⟨by decide, rfl, (RX12, TX12, 54), "FallCardsModel", tyX12, rfl, uwX12, by decide, kw_947, Or.inl rfl, tyX12_ok, nmX12, by decide +kernel, (fun _ => rfl), (fun h => absurd h (by decide))⟩
theorem lk_X12_256 : LK RX12 256 12 31 0 .int 1 := ⟨by decide, rfl, (RX12, TX12, 54), "FallCardsModel", tyX12, rfl, uwX12, by decide, kw_948, Or.inl rfl, tyX12_ok, nmX12, by decide +kernel, (fun _ => rfl), (fun h => absurd h (by decide))⟩
theorem lk_X12_41 : LK RX12 41 12 32 2 (.array .int) 2 := ⟨by decide, rfl, (RX12, TX12, 54), "FallCardsModel", tyX12, rfl, uwX12, by decide, kw_949, Or.inl rfl, tyX12_ok, nmX12, by decide +kernel, (fun h => absurd h (by decide)), (fun _ => ⟨rfl, rfl⟩)⟩
theorem lk_X12_44 : LK RX12 44 12 33 2 (.array .int) 2 := ⟨by decide, rfl, (RX12, TX12, 54), "FallCardsModel", tyX12, rfl, uwX12, by decide, kw_950, Or.inl rfl, tyX12_ok, nmX12, by decide +kernel, (fun h => absurd h (by decide)), (fun _ => ⟨rfl, rfl⟩)⟩
theorem lk_X12_47 : LK RX12 47 12 34 2 (.array .int) 2 := ⟨by decide, rfl, (RX12, TX12, 54), "FallCardsModel", tyX12, rfl, uwX12, by decide, kw_951, Or.inl rfl, tyX12_ok, nmX12, by decide +kernel, (fun h => absurd h (by decide)), (fun _ => ⟨rfl, rfl⟩)⟩
theorem lk_X12_50 : LK RX12 50 12 35 2 (.array .int) 2 := ⟨by decide, rfl, (RX12, TX12, 54), "FallCardsModel", tyX12, rfl, uwX12, by decide, kw_952, Or.inl rfl, tyX12_ok, nmX12, by decide +kernel, (fun h => absurd h (by decide)), (fun _ => ⟨rfl, rfl⟩)⟩
theorem lk_X12_198 : LK RX12 198 12 36 0 .int 1 := ⟨by decide, rfl, (RX12, TX12, 54), "FallCardsModel", tyX12, rfl, uwX12, by decide, kw_953, Or.inl rfl, tyX12_ok, nmX12, by decide +kernel, (fun _ => rfl), (fun h => absurd h (by decide))⟩
theorem lk_X12_338 : LK RX12 338 12 37 0 .int 1 := ⟨by decide, rfl, (RX12, TX12, 54), "FallCardsModel", tyX12, rfl, uwX12, by decide, kw_954, Or.inl rfl, tyX12_ok, nmX12, by decide +kernel, (fun _ => rfl), (fun h => absurd h (by decide))⟩
theorem lk_X12_53 : LK RX12 53 12 38 2 (.array .int) 2 := ⟨by decide, rfl, (RX12, TX12, 54), "FallCardsModel", tyX12, rfl, uwX12, by decide, kw_955, Or.inl rfl, tyX12_ok, nmX12, by decide +kernel, (fun h => absurd h (by decide)), (fun _ => ⟨rfl, rfl⟩)⟩
theorem lk_X12_56 : LK RX12 56 12 39 2 (.array .int) 2 := ⟨by decide, rfl, (RX12, TX12, 54), "FallCardsModel", tyX12, rfl, uwX12, by decide, kw_956, Or.inl rfl, tyX12_ok, nmX12, by decide +kernel, (fun h => absurd h (by decide)), (fun _ => ⟨rfl, rfl⟩)⟩
theorem lk_X12_59 : LK RX12 59 12 40 2 (.array .long) 2 := ⟨by decide, rfl, (RX12, TX12, 54), "FallCardsModel", tyX12, rfl, uwX12, by decide, kw_957, Or.inl rfl, tyX12_ok, nmX12, by decide +kernel, (fun h => absurd h (by decide)), (fun _ => ⟨rfl, rfl⟩)⟩
theorem lk_X12_63 : LK RX12 63 12 41 2 (.array .int) 2 := ⟨by decide, rfl, (RX12, TX12, 54), "FallCardsModel", tyX12, rfl, uwX12, by decide, kw_958, Or.inl rfl, tyX12_ok, nmX12, by decide +kernel, (fun h => absurd h (by decide)), (fun _ => ⟨rfl, rfl⟩)⟩
theorem lk_X12_66 : LK RX12 66 12 42 2 (.array .int) 2 := ⟨by decide, rfl, (RX12, TX12, 54), "FallCardsModel", tyX12, rfl, uwX12, by decide, kw_959, Or.inl rfl, tyX12_ok, nmX12, by decide +kernel, (fun h => absurd h (by decide)), (fun _ => ⟨rfl, rfl⟩)⟩
theorem lk_X12_69 : LK RX12 69 12 43 2 (.array .int) 2 := ⟨by decide, rfl, (RX12, TX12, 54), "FallCardsModel", tyX12, rfl, uwX12, by decide, kw_960, Or.inl rfl, tyX12_ok, nmX12, by decide +kernel, (fun h => absurd h (by decide)), (fun _ => ⟨rfl, rfl⟩)⟩
theorem lk_X12_366 : LK RX12 366 12 44 0 .int 1 := ⟨by decide, rfl, (RX12, TX12, 54), "FallCardsModel", tyX12, rfl, uwX12, by decide, kw_961, Or.inl rfl, tyX12_ok, nmX12, by decide +kernel, (fun _ => rfl), (fun h => absurd h (by decide))⟩
theorem lk_X12_363 : LK RX12 363 12 45 0 .int 1 := ⟨by decide, rfl, (RX12, TX12, 54), "FallCardsModel", tyX12, rfl, uwX12, by decide, kw_962, Or.inl rfl, tyX12_ok, nmX12, by decide +kernel, (fun _ => rfl), (fun h => absurd h (by decide))⟩
theorem lk_X12_378 : LK RX12 378 12 46 0 .int 1 := ⟨by decide, rfl, (RX12, TX12, 54), "FallCardsModel", tyX12, rfl, uwX12, by decide, kw_963, Or.inl rfl, tyX12_ok, nmX12, by decide +kernel, (fun _ => rfl), (fun h => absurd h (by decide))⟩
theorem lk_X12_72 : LK RX12 72 12 47 2 (.array .int) 2 := ⟨by decide, rfl, (RX12, TX12, 54), "FallCardsModel", tyX12, rfl, uwX12, by decide, kw_964, Or.inl rfl, tyX12_ok, nmX12, by decide +kernel, (fun h => absurd h (by decide)), (fun _ => ⟨rfl, rfl⟩)⟩
theorem lk_X12_357 : LK RX12 357 12 48 0 .int 1 := ⟨by decide, rfl, (RX12, TX12, 54), "FallCardsModel", tyX12, rfl, uwX12, by decide, kw_965, Or.inl rfl, tyX12_ok, nmX12, by decide +kernel, (fun _ => rfl), (fun h => absurd h (by decide))⟩
theorem lk_X12_381 : LK RX12 381 12 49 0 .boolean 1 := ⟨by decide, rfl, (RX12, TX12, 54), "FallCardsModel", tyX12, rfl, uwX12, by decide, kw_966, Or.inl rfl, tyX12_ok, nmX12, by decide +kernel, (fun _ => rfl), (fun h => absurd h (by decide))⟩
theorem lk_X12_410 : LK RX12 410 12 50 0 .boolean 1 := ⟨by decide, rfl, (RX12, TX12, 54), "FallCardsModel", tyX12, rfl, uwX12, by decide, kw_967, Or.inl rfl, tyX12_ok, nmX12, by decide +kernel, (fun _ => rfl), (fun h => absurd h (by decide))⟩
theorem lk_X12_75 : LK RX12 75 12 51 2 (.array .int) 2 := ⟨by decide, rfl, (RX12, TX12, 54), "FallCardsModel", tyX12, rfl, uwX12, by decide, kw_968, Or.inl rfl, tyX12_ok, nmX12, by decide +kernel, (fun h => absurd h (by decide)), (fun _ => ⟨rfl, rfl⟩)⟩
theorem lk_X12_399 : LK RX12 399 12 52 0 .int 1 := ⟨by decide, rfl, (RX12, TX12, 54), "FallCardsModel", tyX12, rfl, uwX12, by decide, kw_969, Or.inl rfl, tyX12_ok, nmX12, by decide +kernel, (fun _ => rfl), (fun h => absurd h (by decide))⟩
theorem lk_X12_78 : LK RX12 78 12 53 2 (.array .int) 2 := ⟨by decide, rfl, (RX12, TX12, 54), "FallCardsModel", tyX12, rfl, uwX12, by decide, kw_970, Or.inl rfl, tyX12_ok, nmX12, by decide +kernel, (fun h => absurd h (by decide)), (fun _ => ⟨rfl, rfl⟩)⟩
theorem mi_X0_init : MI mX0_init 4 := ⟨kw_403, kw_14, by decide, by decide, by decide +kernel⟩
theorem mi_X0_kind : MI mX0_kind 0 := ⟨kw_514, kw_14, by decide, by decide, by decide +kernel⟩
theorem mi_X0_downTold : MI mX0_downTold 1 := ⟨kw_585, kw_14, by decide, by decide, by decide +kernel⟩
theorem mi_X0_turnTold : MI mX0_turnTold 3 := ⟨kw_605, kw_14, by decide, by decide, by decide +kernel⟩
theorem mi_X0_falls : MI mX0_falls 2 := ⟨kw_829, kw_14, by decide, by decide, by decide +kernel⟩
theorem mi_X0_turns : MI mX0_turns 2 := ⟨kw_848, kw_14, by decide, by decide, by decide +kernel⟩
theorem mi_X0_shares : MI mX0_shares 2 := ⟨kw_872, kw_14, by decide, by decide, by decide +kernel⟩
theorem mi_X0_tells : MI mX0_tells 2 := ⟨kw_893, kw_14, by decide, by decide, by decide +kernel⟩
theorem mi_X1_init : MI mX1_init 0 := ⟨kw_40, kw_3, by decide, by decide, by decide +kernel⟩
theorem mi_X1_start : MI mX1_start 4 := ⟨kw_550, kw_3, by decide, by decide, by decide +kernel⟩
theorem mi_X1_copyFrom : MI mX1_copyFrom 1 := ⟨kw_256, kw_3, by decide, by decide, by decide +kernel⟩
theorem mi_X1_landed : MI mX1_landed 0 := ⟨kw_558, kw_3, by decide, by decide, by decide +kernel⟩
theorem mi_X1_step : MI mX1_step 1 := ⟨kw_562, kw_3, by decide, by decide, by decide +kernel⟩
theorem mi_X1_countSwing : MI mX1_countSwing 1 := ⟨kw_612, kw_3, by decide, by decide, by decide +kernel⟩
theorem mi_X1_countRound : MI mX1_countRound 1 := ⟨kw_616, kw_3, by decide, by decide, by decide +kernel⟩
theorem mi_X1_runOut : MI mX1_runOut 1 := ⟨kw_634, kw_3, by decide, by decide, by decide +kernel⟩
theorem mi_X1_sort : MI mX1_sort 0 := ⟨kw_640, kw_3, by decide, by decide, by decide +kernel⟩
theorem mi_X1_square : MI mX1_square 0 := ⟨kw_644, kw_3, by decide, by decide, by decide +kernel⟩
theorem mi_X2_init : MI mX2_init 4 := ⟨kw_457, kw_18, by decide, by decide, by decide +kernel⟩
theorem mi_X2_kind : MI mX2_kind 0 := ⟨kw_501, kw_18, by decide, by decide, by decide +kernel⟩
theorem mi_X2_turnTold : MI mX2_turnTold 3 := ⟨kw_592, kw_18, by decide, by decide, by decide +kernel⟩
theorem mi_X2_shares : MI mX2_shares 2 := ⟨kw_856, kw_18, by decide, by decide, by decide +kernel⟩
theorem mi_X2_falls : MI mX2_falls 2 := ⟨kw_813, kw_18, by decide, by decide, by decide +kernel⟩
theorem mi_X3_init : MI mX3_init 0 := ⟨kw_169, kw_6, by decide, by decide, by decide +kernel⟩
theorem mi_X3_become : MI mX3_become 2 := ⟨kw_755, kw_6, by decide, by decide, by decide +kernel⟩
theorem mi_X3_narrowed : MI mX3_narrowed 1 := ⟨kw_763, kw_6, by decide, by decide, by decide +kernel⟩
theorem mi_X4_init : MI mX4_init 4 := ⟨kw_400, kw_15, by decide, by decide, by decide +kernel⟩
theorem mi_X4_kind : MI mX4_kind 0 := ⟨kw_504, kw_15, by decide, by decide, by decide +kernel⟩
theorem mi_X4_turnTold : MI mX4_turnTold 3 := ⟨kw_595, kw_15, by decide, by decide, by decide +kernel⟩
theorem mi_X4_turns : MI mX4_turns 2 := ⟨kw_837, kw_15, by decide, by decide, by decide +kernel⟩
theorem mi_X5_init : MI mX5_init 4 := ⟨kw_435, kw_16, by decide, by decide, by decide +kernel⟩
theorem mi_X5_kind : MI mX5_kind 0 := ⟨kw_507, kw_16, by decide, by decide, by decide +kernel⟩
theorem mi_X5_turnTold : MI mX5_turnTold 3 := ⟨kw_598, kw_16, by decide, by decide, by decide +kernel⟩
theorem mi_X5_falls : MI mX5_falls 2 := ⟨kw_824, kw_16, by decide, by decide, by decide +kernel⟩
theorem mi_X5_tells : MI mX5_tells 2 := ⟨kw_881, kw_16, by decide, by decide, by decide +kernel⟩
theorem mi_X6_init : MI mX6_init 0 := ⟨kw_125, kw_4, by decide, by decide, by decide +kernel⟩
theorem mi_X6_takeBytes : MI mX6_takeBytes 2 := ⟨kw_241, kw_4, by decide, by decide, by decide +kernel⟩
theorem mi_X6_readInto : MI mX6_readInto 1 := ⟨kw_264, kw_4, by decide, by decide, by decide +kernel⟩
theorem mi_X6_readPart : MI mX6_readPart 1 := ⟨kw_276, kw_4, by decide, by decide, by decide +kernel⟩
theorem mi_X6_readHand : MI mX6_readHand 1 := ⟨kw_365, kw_4, by decide, by decide, by decide +kernel⟩
theorem mi_X6_readCard : MI mX6_readCard 1 := ⟨kw_369, kw_4, by decide, by decide, by decide +kernel⟩
theorem mi_X6_readClip : MI mX6_readClip 0 := ⟨kw_388, kw_4, by decide, by decide, by decide +kernel⟩
theorem mi_X6_passKind : MI mX6_passKind 0 := ⟨kw_373, kw_4, by decide, by decide, by decide +kernel⟩
theorem mi_X6_passEnd : MI mX6_passEnd 0 := ⟨kw_356, kw_4, by decide, by decide, by decide +kernel⟩
theorem mi_X6_passSign : MI mX6_passSign 1 := ⟨kw_360, kw_4, by decide, by decide, by decide +kernel⟩
theorem mi_X6_passName : MI mX6_passName 1 := ⟨kw_289, kw_4, by decide, by decide, by decide +kernel⟩
theorem mi_X6_readNumber : MI mX6_readNumber 2 := ⟨kw_345, kw_4, by decide, by decide, by decide +kernel⟩
theorem mi_X6_isBetween : MI mX6_isBetween 3 := ⟨kw_303, kw_4, by decide, by decide, by decide +kernel⟩
theorem mi_X6_skipBlanks : MI mX6_skipBlanks 0 := ⟨kw_268, kw_4, by decide, by decide, by decide +kernel⟩
theorem mi_X6_isGood : MI mX6_isGood 0 := ⟨kw_272, kw_4, by decide, by decide, by decide +kernel⟩
theorem mi_X6_blameHere : MI mX6_blameHere 0 := ⟨kw_352, kw_4, by decide, by decide, by decide +kernel⟩
theorem mi_X6_lawName : MI mX6_lawName 1 := ⟨kw_279, kw_4, by decide, by decide, by decide +kernel⟩
theorem mi_X6_kindName : MI mX6_kindName 1 := ⟨kw_376, kw_4, by decide, by decide, by decide +kernel⟩
theorem mi_X7_init : MI mX7_init 0 := ⟨kw_146, kw_5, by decide, by decide, by decide +kernel⟩
theorem mi_X7_clear : MI mX7_clear 0 := ⟨kw_806, kw_5, by decide, by decide, by decide +kernel⟩
theorem mi_X7_began : MI mX7_began 1 := ⟨kw_817, kw_5, by decide, by decide, by decide +kernel⟩
theorem mi_X8_init : MI mX8_init 4 := ⟨kw_446, kw_17, by decide, by decide, by decide +kernel⟩
theorem mi_X8_kind : MI mX8_kind 0 := ⟨kw_510, kw_17, by decide, by decide, by decide +kernel⟩
theorem mi_X8_turnTold : MI mX8_turnTold 3 := ⟨kw_602, kw_17, by decide, by decide, by decide +kernel⟩
theorem mi_X8_turns : MI mX8_turns 2 := ⟨kw_844, kw_17, by decide, by decide, by decide +kernel⟩
theorem mi_X9_init : MI mX9_init 4 := ⟨kw_468, kw_19, by decide, by decide, by decide +kernel⟩
theorem mi_X9_kind : MI mX9_kind 0 := ⟨kw_513, kw_19, by decide, by decide, by decide +kernel⟩
theorem mi_X9_downTold : MI mX9_downTold 1 := ⟨kw_584, kw_19, by decide, by decide, by decide +kernel⟩
theorem mi_X9_tells : MI mX9_tells 2 := ⟨kw_889, kw_19, by decide, by decide, by decide +kernel⟩
theorem mi_X9_shares : MI mX9_shares 2 := ⟨kw_865, kw_19, by decide, by decide, by decide +kernel⟩
theorem mi_X10_init : MI mX10_init 0 := ⟨kw_32, kw_2, by decide, by decide, by decide +kernel⟩
theorem mi_X10_copyFrom : MI mX10_copyFrom 1 := ⟨kw_249, kw_2, by decide, by decide, by decide +kernel⟩
theorem mi_X10_clearCards : MI mX10_clearCards 0 := ⟨kw_260, kw_2, by decide, by decide, by decide +kernel⟩
theorem mi_X10_cardAt : MI mX10_cardAt 1 := ⟨kw_494, kw_2, by decide, by decide, by decide +kernel⟩
theorem mi_X10_addCard : MI mX10_addCard 4 := ⟨kw_392, kw_2, by decide, by decide, by decide +kernel⟩
theorem mi_X10_allWeights : MI mX10_allWeights 0 := ⟨kw_526, kw_2, by decide, by decide, by decide +kernel⟩
theorem mi_X10_thingOf : MI mX10_thingOf 5 := ⟨kw_395, kw_2, by decide, by decide, by decide +kernel⟩
theorem mi_X11_init : MI mX11_init 0 := ⟨kw_24, kw_1, by decide, by decide, by decide +kernel⟩
theorem mi_X11_feed : MI mX11_feed 2 := ⟨kw_237, kw_1, by decide, by decide, by decide +kernel⟩
theorem mi_X11_cards : MI mX11_cards 0 := ⟨kw_245, kw_1, by decide, by decide, by decide +kernel⟩
theorem mi_X11_card : MI mX11_card 4 := ⟨kw_485, kw_1, by decide, by decide, by decide +kernel⟩
theorem mi_X11_cardOf : MI mX11_cardOf 2 := ⟨kw_490, kw_1, by decide, by decide, by decide +kernel⟩
theorem mi_X11_set : MI mX11_set 2 := ⟨kw_518, kw_1, by decide, by decide, by decide +kernel⟩
theorem mi_X11_hand : MI mX11_hand 2 := ⟨kw_522, kw_1, by decide, by decide, by decide +kernel⟩
theorem mi_X11_sine : MI mX11_sine 1 := ⟨kw_530, kw_1, by decide, by decide, by decide +kernel⟩
theorem mi_X11_letGo : MI mX11_letGo 4 := ⟨kw_539, kw_1, by decide, by decide, by decide +kernel⟩
theorem mi_X11_tick : MI mX11_tick 1 := ⟨kw_554, kw_1, by decide, by decide, by decide +kernel⟩
theorem mi_X11_air : MI mX11_air 1 := ⟨kw_620, kw_1, by decide, by decide, by decide +kernel⟩
theorem mi_X11_gust : MI mX11_gust 2 := ⟨kw_625, kw_1, by decide, by decide, by decide +kernel⟩
theorem mi_X11_fall : MI mX11_fall 5 := ⟨kw_630, kw_1, by decide, by decide, by decide +kernel⟩
theorem mi_X11_line : MI mX11_line 5 := ⟨kw_651, kw_1, by decide, by decide, by decide +kernel⟩
theorem mi_X11_parted : MI mX11_parted 5 := ⟨kw_655, kw_1, by decide, by decide, by decide +kernel⟩
theorem mi_X11_odds : MI mX11_odds 6 := ⟨kw_660, kw_1, by decide, by decide, by decide +kernel⟩
theorem mi_X11_aim : MI mX11_aim 4 := ⟨kw_678, kw_1, by decide, by decide, by decide +kernel⟩
theorem mi_X11_longest : MI mX11_longest 3 := ⟨kw_686, kw_1, by decide, by decide, by decide +kernel⟩
theorem mi_X11_fit : MI mX11_fit 6 := ⟨kw_690, kw_1, by decide, by decide, by decide +kernel⟩
theorem mi_X11_miss : MI mX11_miss 5 := ⟨kw_713, kw_1, by decide, by decide, by decide +kernel⟩
theorem mi_X11_toss : MI mX11_toss 4 := ⟨kw_717, kw_1, by decide, by decide, by decide +kernel⟩
theorem mi_X11_seed : MI mX11_seed 1 := ⟨kw_726, kw_1, by decide, by decide, by decide +kernel⟩
theorem mi_X11_prove : MI mX11_prove 1 := ⟨kw_730, kw_1, by decide, by decide, by decide +kernel⟩
theorem mi_X11_row : MI mX11_row 2 := ⟨kw_735, kw_1, by decide, by decide, by decide +kernel⟩
theorem mi_X11_alterRow : MI mX11_alterRow 3 := ⟨kw_743, kw_1, by decide, by decide, by decide +kernel⟩
theorem mi_X11_judge : MI mX11_judge 0 := ⟨kw_747, kw_1, by decide, by decide, by decide +kernel⟩
theorem mi_X11_sheet : MI mX11_sheet 3 := ⟨kw_751, kw_1, by decide, by decide, by decide +kernel⟩
theorem mi_X11_put : MI mX11_put 3 := ⟨kw_759, kw_1, by decide, by decide, by decide +kernel⟩
theorem mi_X11_item : MI mX11_item 3 := ⟨kw_767, kw_1, by decide, by decide, by decide +kernel⟩
theorem mi_X11_shelf : MI mX11_shelf 3 := ⟨kw_771, kw_1, by decide, by decide, by decide +kernel⟩
theorem mi_X11_taken : MI mX11_taken 2 := ⟨kw_786, kw_1, by decide, by decide, by decide +kernel⟩
theorem mi_X11_act : MI mX11_act 3 := ⟨kw_802, kw_1, by decide, by decide, by decide +kernel⟩
theorem mi_X11_trace : MI mX11_trace 1 := ⟨kw_898, kw_1, by decide, by decide, by decide +kernel⟩
theorem mi_X11_many : MI mX11_many 1 := ⟨kw_902, kw_1, by decide, by decide, by decide +kernel⟩
theorem mi_X11_keep : MI mX11_keep 0 := ⟨kw_906, kw_1, by decide, by decide, by decide +kernel⟩
theorem mi_X11_again : MI mX11_again 0 := ⟨kw_910, kw_1, by decide, by decide, by decide +kernel⟩
theorem mi_X11_sineOf : MI mX11_sineOf 1 := ⟨kw_533, kw_1, by decide, by decide, by decide +kernel⟩
theorem mi_X11_heldTo : MI mX11_heldTo 2 := ⟨kw_569, kw_1, by decide, by decide, by decide +kernel⟩
theorem mi_X11_commonDivisor : MI mX11_commonDivisor 2 := ⟨kw_674, kw_1, by decide, by decide, by decide +kernel⟩
theorem mi_X11_isLettingGo : MI mX11_isLettingGo 3 := ⟨kw_546, kw_1, by decide, by decide, by decide +kernel⟩
theorem mi_X11_isSquare : MI mX11_isSquare 1 := ⟨kw_663, kw_1, by decide, by decide, by decide +kernel⟩
theorem mi_X11_sheetAt : MI mX11_sheetAt 1 := ⟨kw_694, kw_1, by decide, by decide, by decide +kernel⟩
theorem mi_X11_isShelf : MI mX11_isShelf 1 := ⟨kw_774, kw_1, by decide, by decide, by decide +kernel⟩
theorem mi_X11_isRowPart : MI mX11_isRowPart 2 := ⟨kw_739, kw_1, by decide, by decide, by decide +kernel⟩
theorem mi_X11_isOfKind : MI mX11_isOfKind 2 := ⟨kw_793, kw_1, by decide, by decide, by decide +kernel⟩
theorem mi_X11_begin : MI mX11_begin 5 := ⟨kw_543, kw_1, by decide, by decide, by decide +kernel⟩
theorem mi_X11_landsOn : MI mX11_landsOn 4 := ⟨kw_671, kw_1, by decide, by decide, by decide +kernel⟩
theorem mi_X11_byHand : MI mX11_byHand 2 := ⟨kw_666, kw_1, by decide, by decide, by decide +kernel⟩
theorem mi_X11_handAt : MI mX11_handAt 1 := ⟨kw_722, kw_1, by decide, by decide, by decide +kernel⟩
theorem mi_X11_weightsToward : MI mX11_weightsToward 2 := ⟨kw_682, kw_1, by decide, by decide, by decide +kernel⟩
theorem mi_X11_filmRefusal : MI mX11_filmRefusal 1 := ⟨kw_697, kw_1, by decide, by decide, by decide +kernel⟩
theorem mi_X11_missOf : MI mX11_missOf 3 := ⟨kw_702, kw_1, by decide, by decide, by decide +kernel⟩
theorem mi_X11_lay : MI mX11_lay 4 := ⟨kw_778, kw_1, by decide, by decide, by decide +kernel⟩
theorem mi_X11_layRow : MI mX11_layRow 2 := ⟨kw_782, kw_1, by decide, by decide, by decide +kernel⟩
theorem mi_X11_thingOn : MI mX11_thingOn 1 := ⟨kw_790, kw_1, by decide, by decide, by decide +kernel⟩
theorem mi_X12_init : MI mX12_init 0 := ⟨kw_915, kw_7, by decide, by decide, by decide +kernel⟩
theorem mi_X12_in : MI mX12_in 3 := ⟨kw_1086, kw_7, by decide, by decide, by decide +kernel⟩
theorem mi_X12_isCard : MI mX12_isCard 1 := ⟨kw_1174, kw_7, by decide, by decide, by decide +kernel⟩
theorem mi_X12_isSide : MI mX12_isSide 1 := ⟨kw_1301, kw_7, by decide, by decide, by decide +kernel⟩
theorem mi_X12_its : MI mX12_its 2 := ⟨kw_1178, kw_7, by decide, by decide, by decide +kernel⟩
theorem mi_X12_bare : MI mX12_bare 1 := ⟨kw_1243, kw_7, by decide, by decide, by decide +kernel⟩
theorem mi_X12_kept : MI mX12_kept 2 := ⟨kw_1246, kw_7, by decide, by decide, by decide +kernel⟩
theorem mi_X12_isLike : MI mX12_isLike 4 := ⟨kw_1166, kw_7, by decide, by decide, by decide +kernel⟩
theorem mi_X12_feed : MI mX12_feed 2 := ⟨kw_1083, kw_7, by decide, by decide, by decide +kernel⟩
theorem mi_X12_byteAt : MI mX12_byteAt 1 := ⟨kw_1099, kw_7, by decide, by decide, by decide +kernel⟩
theorem mi_X12_isLetter : MI mX12_isLetter 1 := ⟨kw_1102, kw_7, by decide, by decide, by decide +kernel⟩
theorem mi_X12_isDigit : MI mX12_isDigit 1 := ⟨kw_1105, kw_7, by decide, by decide, by decide +kernel⟩
theorem mi_X12_advance : MI mX12_advance 0 := ⟨kw_1095, kw_7, by decide, by decide, by decide +kernel⟩
theorem mi_X12_isWord : MI mX12_isWord 1 := ⟨kw_1117, kw_7, by decide, by decide, by decide +kernel⟩
theorem mi_X12_isMark : MI mX12_isMark 1 := ⟨kw_1140, kw_7, by decide, by decide, by decide +kernel⟩
theorem mi_X12_kindHere : MI mX12_kindHere 0 := ⟨kw_1112, kw_7, by decide, by decide, by decide +kernel⟩
theorem mi_X12_lawHere : MI mX12_lawHere 0 := ⟨kw_1148, kw_7, by decide, by decide, by decide +kernel⟩
theorem mi_X12_wantNumber : MI mX12_wantNumber 2 := ⟨kw_1130, kw_7, by decide, by decide, by decide +kernel⟩
theorem mi_X12_wantWord : MI mX12_wantWord 1 := ⟨kw_1135, kw_7, by decide, by decide, by decide +kernel⟩
theorem mi_X12_wantEnd : MI mX12_wantEnd 0 := ⟨kw_1144, kw_7, by decide, by decide, by decide +kernel⟩
theorem mi_X12_wantCard : MI mX12_wantCard 1 := ⟨kw_1126, kw_7, by decide, by decide, by decide +kernel⟩
theorem mi_X12_wantHand : MI mX12_wantHand 0 := ⟨kw_1159, kw_7, by decide, by decide, by decide +kernel⟩
theorem mi_X12_cards : MI mX12_cards 0 := ⟨kw_1091, kw_7, by decide, by decide, by decide +kernel⟩
theorem mi_X12_card : MI mX12_card 4 := ⟨kw_1163, kw_7, by decide, by decide, by decide +kernel⟩
theorem mi_X12_cardOf : MI mX12_cardOf 2 := ⟨kw_1170, kw_7, by decide, by decide, by decide +kernel⟩
theorem mi_X12_isLaw : MI mX12_isLaw 1 := ⟨kw_1185, kw_7, by decide, by decide, by decide +kernel⟩
theorem mi_X12_set : MI mX12_set 2 := ⟨kw_1182, kw_7, by decide, by decide, by decide +kernel⟩
theorem mi_X12_handMany : MI mX12_handMany 0 := ⟨kw_1193, kw_7, by decide, by decide, by decide +kernel⟩
theorem mi_X12_hand : MI mX12_hand 2 := ⟨kw_1189, kw_7, by decide, by decide, by decide +kernel⟩
theorem mi_X12_sineOf : MI mX12_sineOf 1 := ⟨kw_1201, kw_7, by decide, by decide, by decide +kernel⟩
theorem mi_X12_cosineOf : MI mX12_cosineOf 1 := ⟨kw_1240, kw_7, by decide, by decide, by decide +kernel⟩
theorem mi_X12_sine : MI mX12_sine 1 := ⟨kw_1197, kw_7, by decide, by decide, by decide +kernel⟩
theorem mi_X12_lends : MI mX12_lends 4 := ⟨kw_1216, kw_7, by decide, by decide, by decide +kernel⟩
theorem mi_X12_isLanded : MI mX12_isLanded 0 := ⟨kw_1232, kw_7, by decide, by decide, by decide +kernel⟩
theorem mi_X12_plainTurn : MI mX12_plainTurn 0 := ⟨kw_1254, kw_7, by decide, by decide, by decide +kernel⟩
theorem mi_X12_toldTurn : MI mX12_toldTurn 0 := ⟨kw_1250, kw_7, by decide, by decide, by decide +kernel⟩
theorem mi_X12_ticksOn : MI mX12_ticksOn 0 := ⟨kw_1236, kw_7, by decide, by decide, by decide +kernel⟩
theorem mi_X12_falls : MI mX12_falls 4 := ⟨kw_1271, kw_7, by decide, by decide, by decide +kernel⟩
theorem mi_X12_isLetGo : MI mX12_isLetGo 3 := ⟨kw_1212, kw_7, by decide, by decide, by decide +kernel⟩
theorem mi_X12_isFall : MI mX12_isFall 4 := ⟨kw_1209, kw_7, by decide, by decide, by decide +kernel⟩
theorem mi_X12_takesAir : MI mX12_takesAir 0 := ⟨kw_1228, kw_7, by decide, by decide, by decide +kernel⟩
theorem mi_X12_givesAir : MI mX12_givesAir 0 := ⟨kw_1220, kw_7, by decide, by decide, by decide +kernel⟩
theorem mi_X12_letGo : MI mX12_letGo 4 := ⟨kw_1205, kw_7, by decide, by decide, by decide +kernel⟩
theorem mi_X12_tick : MI mX12_tick 1 := ⟨kw_1224, kw_7, by decide, by decide, by decide +kernel⟩
theorem mi_X12_air : MI mX12_air 1 := ⟨kw_1258, kw_7, by decide, by decide, by decide +kernel⟩
theorem mi_X12_gust : MI mX12_gust 2 := ⟨kw_1263, kw_7, by decide, by decide, by decide +kernel⟩
theorem mi_X12_sortOf : MI mX12_sortOf 0 := ⟨kw_1275, kw_7, by decide, by decide, by decide +kernel⟩
theorem mi_X12_squareOf : MI mX12_squareOf 0 := ⟨kw_1279, kw_7, by decide, by decide, by decide +kernel⟩
theorem mi_X12_fall : MI mX12_fall 5 := ⟨kw_1267, kw_7, by decide, by decide, by decide +kernel⟩
theorem mi_X12_line : MI mX12_line 5 := ⟨kw_1283, kw_7, by decide, by decide, by decide +kernel⟩
theorem mi_X12_films : MI mX12_films 5 := ⟨kw_1291, kw_7, by decide, by decide, by decide +kernel⟩
theorem mi_X12_parted : MI mX12_parted 5 := ⟨kw_1287, kw_7, by decide, by decide, by decide +kernel⟩
theorem mi_X12_oftenOn : MI mX12_oftenOn 5 := ⟨kw_1305, kw_7, by decide, by decide, by decide +kernel⟩
theorem mi_X12_isSquare : MI mX12_isSquare 1 := ⟨kw_1298, kw_7, by decide, by decide, by decide +kernel⟩
theorem mi_X12_partOf : MI mX12_partOf 3 := ⟨kw_1308, kw_7, by decide, by decide, by decide +kernel⟩
theorem mi_X12_odds : MI mX12_odds 6 := ⟨kw_1295, kw_7, by decide, by decide, by decide +kernel⟩
theorem mi_X12_aim : MI mX12_aim 4 := ⟨kw_1312, kw_7, by decide, by decide, by decide +kernel⟩
theorem mi_X12_longest : MI mX12_longest 3 := ⟨kw_1316, kw_7, by decide, by decide, by decide +kernel⟩
theorem mi_X12_missOf : MI mX12_missOf 5 := ⟨kw_1331, kw_7, by decide, by decide, by decide +kernel⟩
theorem mi_X12_miss : MI mX12_miss 5 := ⟨kw_1320, kw_7, by decide, by decide, by decide +kernel⟩
theorem mi_X12_fit : MI mX12_fit 6 := ⟨kw_1337, kw_7, by decide, by decide, by decide +kernel⟩
theorem mi_X12_toss : MI mX12_toss 4 := ⟨kw_1341, kw_7, by decide, by decide, by decide +kernel⟩
theorem mi_X12_seed : MI mX12_seed 1 := ⟨kw_1346, kw_7, by decide, by decide, by decide +kernel⟩
theorem mi_X12_findRows : MI mX12_findRows 1 := ⟨kw_1354, kw_7, by decide, by decide, by decide +kernel⟩
theorem mi_X12_prove : MI mX12_prove 1 := ⟨kw_1350, kw_7, by decide, by decide, by decide +kernel⟩
theorem mi_X12_isRow : MI mX12_isRow 2 := ⟨kw_1362, kw_7, by decide, by decide, by decide +kernel⟩
theorem mi_X12_row : MI mX12_row 2 := ⟨kw_1358, kw_7, by decide, by decide, by decide +kernel⟩
theorem mi_X12_alterRow : MI mX12_alterRow 3 := ⟨kw_1366, kw_7, by decide, by decide, by decide +kernel⟩
theorem mi_X12_judge : MI mX12_judge 0 := ⟨kw_1370, kw_7, by decide, by decide, by decide +kernel⟩
theorem mi_X12_isShelf : MI mX12_isShelf 1 := ⟨kw_1323, kw_7, by decide, by decide, by decide +kernel⟩
theorem mi_X12_sheet : MI mX12_sheet 3 := ⟨kw_1374, kw_7, by decide, by decide, by decide +kernel⟩
theorem mi_X12_put : MI mX12_put 3 := ⟨kw_1378, kw_7, by decide, by decide, by decide +kernel⟩
theorem mi_X12_lacksSort : MI mX12_lacksSort 2 := ⟨kw_1327, kw_7, by decide, by decide, by decide +kernel⟩
theorem mi_X12_item : MI mX12_item 3 := ⟨kw_1382, kw_7, by decide, by decide, by decide +kernel⟩
theorem mi_X12_isHeld : MI mX12_isHeld 2 := ⟨kw_1390, kw_7, by decide, by decide, by decide +kernel⟩
theorem mi_X12_shelf : MI mX12_shelf 3 := ⟨kw_1386, kw_7, by decide, by decide, by decide +kernel⟩
theorem mi_X12_kindOn : MI mX12_kindOn 1 := ⟨kw_1398, kw_7, by decide, by decide, by decide +kernel⟩
theorem mi_X12_isUnder : MI mX12_isUnder 2 := ⟨kw_1401, kw_7, by decide, by decide, by decide +kernel⟩
theorem mi_X12_taken : MI mX12_taken 2 := ⟨kw_1394, kw_7, by decide, by decide, by decide +kernel⟩
theorem mi_X12_ran : MI mX12_ran 1 := ⟨kw_1413, kw_7, by decide, by decide, by decide +kernel⟩
theorem mi_X12_plainFalls : MI mX12_plainFalls 1 := ⟨kw_1417, kw_7, by decide, by decide, by decide +kernel⟩
theorem mi_X12_fallsIt : MI mX12_fallsIt 1 := ⟨kw_1409, kw_7, by decide, by decide, by decide +kernel⟩
theorem mi_X12_plainTurns : MI mX12_plainTurns 1 := ⟨kw_1425, kw_7, by decide, by decide, by decide +kernel⟩
theorem mi_X12_turnsIt : MI mX12_turnsIt 1 := ⟨kw_1421, kw_7, by decide, by decide, by decide +kernel⟩
theorem mi_X12_plainShares : MI mX12_plainShares 1 := ⟨kw_1433, kw_7, by decide, by decide, by decide +kernel⟩
theorem mi_X12_sharesIt : MI mX12_sharesIt 1 := ⟨kw_1429, kw_7, by decide, by decide, by decide +kernel⟩
theorem mi_X12_plainTells : MI mX12_plainTells 1 := ⟨kw_1441, kw_7, by decide, by decide, by decide +kernel⟩
theorem mi_X12_tellsIt : MI mX12_tellsIt 1 := ⟨kw_1437, kw_7, by decide, by decide, by decide +kernel⟩
theorem mi_X12_act : MI mX12_act 3 := ⟨kw_1405, kw_7, by decide, by decide, by decide +kernel⟩
theorem mi_X12_trace : MI mX12_trace 1 := ⟨kw_1445, kw_7, by decide, by decide, by decide +kernel⟩
theorem mi_X12_many : MI mX12_many 1 := ⟨kw_1449, kw_7, by decide, by decide, by decide +kernel⟩
theorem mi_X12_move : MI mX12_move 3 := ⟨kw_1461, kw_7, by decide, by decide, by decide +kernel⟩
theorem mi_X12_moveAll : MI mX12_moveAll 1 := ⟨kw_1457, kw_7, by decide, by decide, by decide +kernel⟩
theorem mi_X12_keep : MI mX12_keep 0 := ⟨kw_1453, kw_7, by decide, by decide, by decide +kernel⟩
theorem mi_X12_again : MI mX12_again 0 := ⟨kw_1465, kw_7, by decide, by decide, by decide +kernel⟩
theorem mi_J9_floorDiv_7cf53 : MI mJ9_floorDiv_7cf53 2 := ⟨kw_647, kw_13, by decide, by decide, by decide +kernel⟩
theorem mi_J9_floorMod_7cf53 : MI mJ9_floorMod_7cf53 2 := ⟨kw_608, kw_13, by decide, by decide, by decide +kernel⟩
theorem mi_J9_abs_0f7a4 : MI mJ9_abs_0f7a4 1 := ⟨kw_566, kw_13, by decide, by decide, by decide +kernel⟩
theorem mi_J9_abs_067f4 : MI mJ9_abs_067f4 1 := ⟨kw_705, kw_13, by decide, by decide, by decide +kernel⟩
theorem mi_J9_max_7cf53 : MI mJ9_max_7cf53 2 := ⟨kw_573, kw_13, by decide, by decide, by decide +kernel⟩
theorem mi_J9_min_7cf53 : MI mJ9_min_7cf53 2 := ⟨kw_348, kw_13, by decide, by decide, by decide +kernel⟩
theorem mi_J9_min_f86c9 : MI mJ9_min_f86c9 2 := ⟨kw_709, kw_13, by decide, by decide, by decide +kernel⟩
theorem mi_J0_length_8abf5 : MI mJ0_length_8abf5 0 := ⟨kw_293, kw_9, by decide, by decide, by decide +kernel⟩
theorem mi_J0_charAt_5068e : MI mJ0_charAt_5068e 1 := ⟨kw_307, kw_9, by decide, by decide, by decide +kernel⟩
theorem mi_J0_coder_7d493 : MI mJ0_coder_7d493 0 := ⟨kw_297, kw_9, by decide, by decide, by decide +kernel⟩
theorem mi_J0_isLatin1_aae02 : MI mJ0_isLatin1_aae02 0 := ⟨kw_311, kw_9, by decide, by decide, by decide +kernel⟩
theorem mi_J0_checkIndex_df160 : MI mJ0_checkIndex_df160 2 := ⟨kw_317, kw_9, by decide, by decide, by decide +kernel⟩
theorem mi_J1_charAt_3b067 : MI mJ1_charAt_3b067 2 := ⟨kw_314, kw_10, by decide, by decide, by decide +kernel⟩
theorem mi_J2_getChar_3b067 : MI mJ2_getChar_3b067 2 := ⟨kw_335, kw_12, by decide, by decide, by decide +kernel⟩
theorem mi_J2_length_9d52b : MI mJ2_length_9d52b 1 := ⟨kw_331, kw_12, by decide, by decide, by decide +kernel⟩
theorem mi_J2_charAt_3b067 : MI mJ2_charAt_3b067 2 := ⟨kw_325, kw_12, by decide, by decide, by decide +kernel⟩
theorem mi_J2_checkIndex_2214a : MI mJ2_checkIndex_2214a 2 := ⟨kw_328, kw_12, by decide, by decide, by decide +kernel⟩
theorem mi_J3_checkIndex_8e157 : MI mJ3_checkIndex_8e157 3 := ⟨kw_322, kw_11, by decide, by decide, by decide +kernel⟩
