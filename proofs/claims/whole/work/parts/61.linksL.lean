/-! the law's own words -/
theorem Lk_RL_7 : Cond.methodLink RL 7 yX11_told ∈ fh_U := fh_at 466 (by decide +kernel) rfl
theorem Lk_RL_15 : Cond.methodLink RL 15 yX11_ask ∈ fh_U := fh_at 689 (by decide +kernel) rfl
theorem Lk_RL_18 : Cond.methodLink RL 18 yX11_count ∈ fh_U := fh_at 902 (by decide +kernel) rfl
theorem Lk_RL_24 : Cond.methodLink RL 24 yX11_of ∈ fh_U := fh_at 918 (by decide +kernel) rfl
theorem Lk_RL_27 : Cond.methodLink RL 27 yX11_term ∈ fh_U := fh_at 942 (by decide +kernel) rfl
theorem Lk_RL_30 : Cond.methodLink RL 30 yX11_read ∈ fh_U := fh_at 955 (by decide +kernel) rfl
theorem Lk_RL_34 : Cond.methodLink RL 34 yX11_convergent ∈ fh_U := fh_at 971 (by decide +kernel) rfl
theorem Lk_RL_38 : Cond.methodLink RL 38 yX11_nearest ∈ fh_U := fh_at 994 (by decide +kernel) rfl
theorem Lk_RL_41 : Cond.methodLink RL 41 yX11_mediant ∈ fh_U := fh_at 1004 (by decide +kernel) rfl
theorem Lk_RL_45 : Cond.methodLink RL 45 yX11_compare ∈ fh_U := fh_at 1013 (by decide +kernel) rfl
theorem Lk_RL_48 : Cond.methodLink RL 48 yX11_alike ∈ fh_U := fh_at 1024 (by decide +kernel) rfl
theorem Lk_RL_51 : Cond.methodLink RL 51 yX11_again ∈ fh_U := fh_at 1031 (by decide +kernel) rfl
theorem Lk_RL_54 : Cond.methodLink RL 54 yX11_tails ∈ fh_U := fh_at 1049 (by decide +kernel) rfl
theorem Lk_RL_58 : Cond.methodLink RL 58 yX11_floor ∈ fh_U := fh_at 1060 (by decide +kernel) rfl
theorem Lk_RL_61 : Cond.methodLink RL 61 yX11_would ∈ fh_U := fh_at 1073 (by decide +kernel) rfl
theorem Lk_RL_65 : Cond.methodLink RL 65 yX11_often ∈ fh_U := fh_at 1082 (by decide +kernel) rfl
theorem Lk_RL_68 : Cond.methodLink RL 68 yX11_left ∈ fh_U := fh_at 1089 (by decide +kernel) rfl
theorem Lk_RL_71 : Cond.methodLink RL 71 yX11_say ∈ fh_U := fh_at 1098 (by decide +kernel) rfl
theorem Lk_RL_74 : Cond.methodLink RL 74 yX11_init ∈ fh_U := fh_at 27 (by decide +kernel) rfl
theorem Lk_RL_77 : Cond.methodLink RL 77 yX12_init ∈ fh_U := fh_at 1140 (by decide +kernel) rfl
theorem Lk_RL_78 : Cond.methodLink RL 78 yX11_feed ∈ fh_U := fh_at 380 (by decide +kernel) rfl
theorem Lk_RL_82 : Cond.methodLink RL 82 yX12_feed ∈ fh_U := fh_at 1640 (by decide +kernel) rfl
theorem Lk_RL_83 : Cond.methodLink RL 83 yL_told ∈ fh_U := fh_at 462 (by decide +kernel) rfl
theorem Lk_RL_88 : Cond.methodLink RL 88 yX12_told ∈ fh_U := fh_at 1648 (by decide +kernel) rfl
theorem Lk_RL_89 : Cond.methodLink RL 89 yX12_thrown ∈ fh_U := fh_at 1439 (by decide +kernel) rfl
theorem Lk_RL_93 : Cond.methodLink RL 93 yL_ask ∈ fh_U := fh_at 686 (by decide +kernel) rfl
theorem Lk_RL_95 : Cond.methodLink RL 95 yX12_ask ∈ fh_U := fh_at 1715 (by decide +kernel) rfl
theorem Lk_RL_96 : Cond.methodLink RL 96 yX11_fault ∈ fh_U := fh_at 392 (by decide +kernel) rfl
theorem Lk_RL_99 : Cond.methodLink RL 99 yX12_fault ∈ fh_U := fh_at 1644 (by decide +kernel) rfl
theorem Lk_RL_100 : Cond.methodLink RL 100 yX11_fraction ∈ fh_U := fh_at 396 (by decide +kernel) rfl
theorem Lk_RL_104 : Cond.methodLink RL 104 yX12_fraction ∈ fh_U := fh_at 1447 (by decide +kernel) rfl
theorem Lk_RL_105 : Cond.methodLink RL 105 yX11_root ∈ fh_U := fh_at 431 (by decide +kernel) rfl
theorem Lk_RL_109 : Cond.methodLink RL 109 yX12_root ∈ fh_U := fh_at 1468 (by decide +kernel) rfl
theorem Lk_RL_110 : Cond.methodLink RL 110 yX11_single ∈ fh_U := fh_at 435 (by decide +kernel) rfl
theorem Lk_RL_114 : Cond.methodLink RL 114 yX12_single ∈ fh_U := fh_at 1476 (by decide +kernel) rfl
theorem Lk_RL_115 : Cond.methodLink RL 115 yX11_join ∈ fh_U := fh_at 442 (by decide +kernel) rfl
theorem Lk_RL_118 : Cond.methodLink RL 118 yX12_join ∈ fh_U := fh_at 1483 (by decide +kernel) rfl
theorem Lk_RL_119 : Cond.methodLink RL 119 yX11_undo ∈ fh_U := fh_at 446 (by decide +kernel) rfl
theorem Lk_RL_122 : Cond.methodLink RL 122 yX12_undo ∈ fh_U := fh_at 1443 (by decide +kernel) rfl
theorem Lk_RL_123 : Cond.methodLink RL 123 yL_count ∈ fh_U := fh_at 898 (by decide +kernel) rfl
theorem Lk_RL_126 : Cond.methodLink RL 126 yX12_count ∈ fh_U := fh_at 1488 (by decide +kernel) rfl
theorem Lk_RL_127 : Cond.methodLink RL 127 yL_of ∈ fh_U := fh_at 915 (by decide +kernel) rfl
theorem Lk_RL_129 : Cond.methodLink RL 129 yX12_of ∈ fh_U := fh_at 1504 (by decide +kernel) rfl
theorem Lk_RL_130 : Cond.methodLink RL 130 yL_term ∈ fh_U := fh_at 939 (by decide +kernel) rfl
theorem Lk_RL_132 : Cond.methodLink RL 132 yX12_term ∈ fh_U := fh_at 1526 (by decide +kernel) rfl
theorem Lk_RL_133 : Cond.methodLink RL 133 yL_read ∈ fh_U := fh_at 952 (by decide +kernel) rfl
theorem Lk_RL_136 : Cond.methodLink RL 136 yX12_read ∈ fh_U := fh_at 1534 (by decide +kernel) rfl
theorem Lk_RL_137 : Cond.methodLink RL 137 yL_convergent ∈ fh_U := fh_at 968 (by decide +kernel) rfl
theorem Lk_RL_139 : Cond.methodLink RL 139 yX12_convergent ∈ fh_U := fh_at 1538 (by decide +kernel) rfl
theorem Lk_RL_140 : Cond.methodLink RL 140 yL_nearest ∈ fh_U := fh_at 991 (by decide +kernel) rfl
theorem Lk_RL_142 : Cond.methodLink RL 142 yX12_nearest ∈ fh_U := fh_at 1547 (by decide +kernel) rfl
theorem Lk_RL_143 : Cond.methodLink RL 143 yL_mediant ∈ fh_U := fh_at 1001 (by decide +kernel) rfl
theorem Lk_RL_146 : Cond.methodLink RL 146 yX12_mediant ∈ fh_U := fh_at 1551 (by decide +kernel) rfl
theorem Lk_RL_147 : Cond.methodLink RL 147 yL_compare ∈ fh_U := fh_at 1010 (by decide +kernel) rfl
theorem Lk_RL_149 : Cond.methodLink RL 149 yX12_compare ∈ fh_U := fh_at 1555 (by decide +kernel) rfl
theorem Lk_RL_150 : Cond.methodLink RL 150 yL_alike ∈ fh_U := fh_at 1021 (by decide +kernel) rfl
theorem Lk_RL_152 : Cond.methodLink RL 152 yX12_alike ∈ fh_U := fh_at 1566 (by decide +kernel) rfl
theorem Lk_RL_153 : Cond.methodLink RL 153 yL_again ∈ fh_U := fh_at 1028 (by decide +kernel) rfl
theorem Lk_RL_155 : Cond.methodLink RL 155 yX12_again ∈ fh_U := fh_at 1570 (by decide +kernel) rfl
theorem Lk_RL_156 : Cond.methodLink RL 156 yL_tails ∈ fh_U := fh_at 1046 (by decide +kernel) rfl
theorem Lk_RL_159 : Cond.methodLink RL 159 yX12_tails ∈ fh_U := fh_at 1582 (by decide +kernel) rfl
theorem Lk_RL_160 : Cond.methodLink RL 160 yL_floor ∈ fh_U := fh_at 1057 (by decide +kernel) rfl
theorem Lk_RL_162 : Cond.methodLink RL 162 yX12_floor ∈ fh_U := fh_at 1590 (by decide +kernel) rfl
theorem Lk_RL_163 : Cond.methodLink RL 163 yL_would ∈ fh_U := fh_at 1070 (by decide +kernel) rfl
theorem Lk_RL_166 : Cond.methodLink RL 166 yX12_would ∈ fh_U := fh_at 1599 (by decide +kernel) rfl
theorem Lk_RL_167 : Cond.methodLink RL 167 yL_often ∈ fh_U := fh_at 1079 (by decide +kernel) rfl
theorem Lk_RL_169 : Cond.methodLink RL 169 yX12_often ∈ fh_U := fh_at 1604 (by decide +kernel) rfl
theorem Lk_RL_170 : Cond.methodLink RL 170 yL_left ∈ fh_U := fh_at 1086 (by decide +kernel) rfl
theorem Lk_RL_172 : Cond.methodLink RL 172 yX12_left ∈ fh_U := fh_at 1608 (by decide +kernel) rfl
theorem Lk_RL_173 : Cond.methodLink RL 173 yL_say ∈ fh_U := fh_at 1095 (by decide +kernel) rfl
theorem Lk_RL_175 : Cond.methodLink RL 175 yX12_say ∈ fh_U := fh_at 1612 (by decide +kernel) rfl
theorem Lk_RL_176 : Cond.methodLink RL 176 yX11_said ∈ fh_U := fh_at 454 (by decide +kernel) rfl
theorem Lk_RL_179 : Cond.methodLink RL 179 yX12_said ∈ fh_U := fh_at 1636 (by decide +kernel) rfl
theorem Kl_RL_13 : Cond.classLink RL 13 (fx_n 0) ∈ fh_U := fh_at 465 (by decide +kernel) rfl
theorem Kl_RL_22 : Cond.classLink RL 22 (fx_n 1) ∈ fh_U := fh_at 901 (by decide +kernel) rfl
theorem Y_L_told : Cond.codeWith yL_told cL_told 5 (some .int) [(0, 10, 13, 13)] ∈ fh_U ∧ Cond.initialized yL_told.cls ∈ fh_U ∧ yL_told.cls ≠ "java/lang/invoke/MethodHandle" ∧ yL_told.cls ≠ "java/lang/invoke/VarHandle" ∧ (parseMethodDescriptor yL_told.desc).map (fun d => d.parameters.length) = some 4 := ⟨fh_at 464 (by decide +kernel) rfl, fh_at 0 (by decide +kernel) rfl, by decide +kernel, by decide +kernel, by decide +kernel⟩
theorem YS_L_told : Cond.static yL_told ∈ fh_U := fh_at 463 (by decide +kernel) rfl
theorem Y_L_ask : Cond.codeWith yL_ask cL_ask 5 (some .int) [(0, 10, 13, 13)] ∈ fh_U ∧ Cond.initialized yL_ask.cls ∈ fh_U ∧ yL_ask.cls ≠ "java/lang/invoke/MethodHandle" ∧ yL_ask.cls ≠ "java/lang/invoke/VarHandle" ∧ (parseMethodDescriptor yL_ask.desc).map (fun d => d.parameters.length) = some 4 := ⟨fh_at 688 (by decide +kernel) rfl, fh_at 0 (by decide +kernel) rfl, by decide +kernel, by decide +kernel, by decide +kernel⟩
theorem YS_L_ask : Cond.static yL_ask ∈ fh_U := fh_at 687 (by decide +kernel) rfl
theorem Y_L_count : Cond.codeWith yL_count cL_count 4 (some .int) [(0, 9, 12, 22)] ∈ fh_U ∧ Cond.initialized yL_count.cls ∈ fh_U ∧ yL_count.cls ≠ "java/lang/invoke/MethodHandle" ∧ yL_count.cls ≠ "java/lang/invoke/VarHandle" ∧ (parseMethodDescriptor yL_count.desc).map (fun d => d.parameters.length) = some 3 := ⟨fh_at 900 (by decide +kernel) rfl, fh_at 0 (by decide +kernel) rfl, by decide +kernel, by decide +kernel, by decide +kernel⟩
theorem YS_L_count : Cond.static yL_count ∈ fh_U := fh_at 899 (by decide +kernel) rfl
theorem Y_L_of : Cond.codeWith yL_of cL_of 5 (some .int) [(0, 10, 13, 22)] ∈ fh_U ∧ Cond.initialized yL_of.cls ∈ fh_U ∧ yL_of.cls ≠ "java/lang/invoke/MethodHandle" ∧ yL_of.cls ≠ "java/lang/invoke/VarHandle" ∧ (parseMethodDescriptor yL_of.desc).map (fun d => d.parameters.length) = some 4 := ⟨fh_at 917 (by decide +kernel) rfl, fh_at 0 (by decide +kernel) rfl, by decide +kernel, by decide +kernel, by decide +kernel⟩
theorem YS_L_of : Cond.static yL_of ∈ fh_U := fh_at 916 (by decide +kernel) rfl
theorem Y_L_term : Cond.codeWith yL_term cL_term 5 (some .int) [(0, 10, 13, 22)] ∈ fh_U ∧ Cond.initialized yL_term.cls ∈ fh_U ∧ yL_term.cls ≠ "java/lang/invoke/MethodHandle" ∧ yL_term.cls ≠ "java/lang/invoke/VarHandle" ∧ (parseMethodDescriptor yL_term.desc).map (fun d => d.parameters.length) = some 4 := ⟨fh_at 941 (by decide +kernel) rfl, fh_at 0 (by decide +kernel) rfl, by decide +kernel, by decide +kernel, by decide +kernel⟩
theorem YS_L_term : Cond.static yL_term ∈ fh_U := fh_at 940 (by decide +kernel) rfl
theorem Y_L_read : Cond.codeWith yL_read cL_read 6 (some .int) [(0, 12, 15, 22)] ∈ fh_U ∧ Cond.initialized yL_read.cls ∈ fh_U ∧ yL_read.cls ≠ "java/lang/invoke/MethodHandle" ∧ yL_read.cls ≠ "java/lang/invoke/VarHandle" ∧ (parseMethodDescriptor yL_read.desc).map (fun d => d.parameters.length) = some 5 := ⟨fh_at 954 (by decide +kernel) rfl, fh_at 0 (by decide +kernel) rfl, by decide +kernel, by decide +kernel, by decide +kernel⟩
theorem YS_L_read : Cond.static yL_read ∈ fh_U := fh_at 953 (by decide +kernel) rfl
theorem Y_L_convergent : Cond.codeWith yL_convergent cL_convergent 6 (some .int) [(0, 11, 14, 22)] ∈ fh_U ∧ Cond.initialized yL_convergent.cls ∈ fh_U ∧ yL_convergent.cls ≠ "java/lang/invoke/MethodHandle" ∧ yL_convergent.cls ≠ "java/lang/invoke/VarHandle" ∧ (parseMethodDescriptor yL_convergent.desc).map (fun d => d.parameters.length) = some 5 := ⟨fh_at 970 (by decide +kernel) rfl, fh_at 0 (by decide +kernel) rfl, by decide +kernel, by decide +kernel, by decide +kernel⟩
theorem YS_L_convergent : Cond.static yL_convergent ∈ fh_U := fh_at 969 (by decide +kernel) rfl
theorem Y_L_nearest : Cond.codeWith yL_nearest cL_nearest 5 (some .int) [(0, 10, 13, 22), (0, 10, 17, 13)] ∈ fh_U ∧ Cond.initialized yL_nearest.cls ∈ fh_U ∧ yL_nearest.cls ≠ "java/lang/invoke/MethodHandle" ∧ yL_nearest.cls ≠ "java/lang/invoke/VarHandle" ∧ (parseMethodDescriptor yL_nearest.desc).map (fun d => d.parameters.length) = some 4 := ⟨fh_at 993 (by decide +kernel) rfl, fh_at 0 (by decide +kernel) rfl, by decide +kernel, by decide +kernel, by decide +kernel⟩
theorem YS_L_nearest : Cond.static yL_nearest ∈ fh_U := fh_at 992 (by decide +kernel) rfl
theorem Y_L_mediant : Cond.codeWith yL_mediant cL_mediant 7 (some .int) [(0, 13, 16, 22)] ∈ fh_U ∧ Cond.initialized yL_mediant.cls ∈ fh_U ∧ yL_mediant.cls ≠ "java/lang/invoke/MethodHandle" ∧ yL_mediant.cls ≠ "java/lang/invoke/VarHandle" ∧ (parseMethodDescriptor yL_mediant.desc).map (fun d => d.parameters.length) = some 6 := ⟨fh_at 1003 (by decide +kernel) rfl, fh_at 0 (by decide +kernel) rfl, by decide +kernel, by decide +kernel, by decide +kernel⟩
theorem YS_L_mediant : Cond.static yL_mediant ∈ fh_U := fh_at 1002 (by decide +kernel) rfl
theorem Y_L_compare : Cond.codeWith yL_compare cL_compare 5 (some .int) [(0, 10, 13, 22)] ∈ fh_U ∧ Cond.initialized yL_compare.cls ∈ fh_U ∧ yL_compare.cls ≠ "java/lang/invoke/MethodHandle" ∧ yL_compare.cls ≠ "java/lang/invoke/VarHandle" ∧ (parseMethodDescriptor yL_compare.desc).map (fun d => d.parameters.length) = some 4 := ⟨fh_at 1012 (by decide +kernel) rfl, fh_at 0 (by decide +kernel) rfl, by decide +kernel, by decide +kernel, by decide +kernel⟩
theorem YS_L_compare : Cond.static yL_compare ∈ fh_U := fh_at 1011 (by decide +kernel) rfl
theorem Y_L_alike : Cond.codeWith yL_alike cL_alike 5 (some .int) [(0, 10, 13, 22)] ∈ fh_U ∧ Cond.initialized yL_alike.cls ∈ fh_U ∧ yL_alike.cls ≠ "java/lang/invoke/MethodHandle" ∧ yL_alike.cls ≠ "java/lang/invoke/VarHandle" ∧ (parseMethodDescriptor yL_alike.desc).map (fun d => d.parameters.length) = some 4 := ⟨fh_at 1023 (by decide +kernel) rfl, fh_at 0 (by decide +kernel) rfl, by decide +kernel, by decide +kernel, by decide +kernel⟩
theorem YS_L_alike : Cond.static yL_alike ∈ fh_U := fh_at 1022 (by decide +kernel) rfl
theorem Y_L_again : Cond.codeWith yL_again cL_again 5 (some .int) [(0, 10, 13, 22)] ∈ fh_U ∧ Cond.initialized yL_again.cls ∈ fh_U ∧ yL_again.cls ≠ "java/lang/invoke/MethodHandle" ∧ yL_again.cls ≠ "java/lang/invoke/VarHandle" ∧ (parseMethodDescriptor yL_again.desc).map (fun d => d.parameters.length) = some 4 := ⟨fh_at 1030 (by decide +kernel) rfl, fh_at 0 (by decide +kernel) rfl, by decide +kernel, by decide +kernel, by decide +kernel⟩
theorem YS_L_again : Cond.static yL_again ∈ fh_U := fh_at 1029 (by decide +kernel) rfl
theorem Y_L_tails : Cond.codeWith yL_tails cL_tails 6 (some .int) [(0, 12, 15, 22)] ∈ fh_U ∧ Cond.initialized yL_tails.cls ∈ fh_U ∧ yL_tails.cls ≠ "java/lang/invoke/MethodHandle" ∧ yL_tails.cls ≠ "java/lang/invoke/VarHandle" ∧ (parseMethodDescriptor yL_tails.desc).map (fun d => d.parameters.length) = some 5 := ⟨fh_at 1048 (by decide +kernel) rfl, fh_at 0 (by decide +kernel) rfl, by decide +kernel, by decide +kernel, by decide +kernel⟩
theorem YS_L_tails : Cond.static yL_tails ∈ fh_U := fh_at 1047 (by decide +kernel) rfl
theorem Y_L_floor : Cond.codeWith yL_floor cL_floor 5 (some .int) [(0, 10, 13, 22), (0, 10, 17, 13)] ∈ fh_U ∧ Cond.initialized yL_floor.cls ∈ fh_U ∧ yL_floor.cls ≠ "java/lang/invoke/MethodHandle" ∧ yL_floor.cls ≠ "java/lang/invoke/VarHandle" ∧ (parseMethodDescriptor yL_floor.desc).map (fun d => d.parameters.length) = some 4 := ⟨fh_at 1059 (by decide +kernel) rfl, fh_at 0 (by decide +kernel) rfl, by decide +kernel, by decide +kernel, by decide +kernel⟩
theorem YS_L_floor : Cond.static yL_floor ∈ fh_U := fh_at 1058 (by decide +kernel) rfl
theorem Y_L_would : Cond.codeWith yL_would cL_would 9 (some .int) [(0, 18, 21, 22), (0, 18, 25, 13)] ∈ fh_U ∧ Cond.initialized yL_would.cls ∈ fh_U ∧ yL_would.cls ≠ "java/lang/invoke/MethodHandle" ∧ yL_would.cls ≠ "java/lang/invoke/VarHandle" ∧ (parseMethodDescriptor yL_would.desc).map (fun d => d.parameters.length) = some 8 := ⟨fh_at 1072 (by decide +kernel) rfl, fh_at 0 (by decide +kernel) rfl, by decide +kernel, by decide +kernel, by decide +kernel⟩
theorem YS_L_would : Cond.static yL_would ∈ fh_U := fh_at 1071 (by decide +kernel) rfl
theorem Y_L_often : Cond.codeWith yL_often cL_often 5 (some .int) [(0, 10, 13, 22)] ∈ fh_U ∧ Cond.initialized yL_often.cls ∈ fh_U ∧ yL_often.cls ≠ "java/lang/invoke/MethodHandle" ∧ yL_often.cls ≠ "java/lang/invoke/VarHandle" ∧ (parseMethodDescriptor yL_often.desc).map (fun d => d.parameters.length) = some 4 := ⟨fh_at 1081 (by decide +kernel) rfl, fh_at 0 (by decide +kernel) rfl, by decide +kernel, by decide +kernel, by decide +kernel⟩
theorem YS_L_often : Cond.static yL_often ∈ fh_U := fh_at 1080 (by decide +kernel) rfl
theorem Y_L_left : Cond.codeWith yL_left cL_left 6 (some .int) [(0, 12, 15, 22)] ∈ fh_U ∧ Cond.initialized yL_left.cls ∈ fh_U ∧ yL_left.cls ≠ "java/lang/invoke/MethodHandle" ∧ yL_left.cls ≠ "java/lang/invoke/VarHandle" ∧ (parseMethodDescriptor yL_left.desc).map (fun d => d.parameters.length) = some 5 := ⟨fh_at 1088 (by decide +kernel) rfl, fh_at 0 (by decide +kernel) rfl, by decide +kernel, by decide +kernel, by decide +kernel⟩
theorem YS_L_left : Cond.static yL_left ∈ fh_U := fh_at 1087 (by decide +kernel) rfl
theorem Y_L_say : Cond.codeWith yL_say cL_say 5 (some .int) [(0, 10, 13, 22), (0, 10, 17, 13)] ∈ fh_U ∧ Cond.initialized yL_say.cls ∈ fh_U ∧ yL_say.cls ≠ "java/lang/invoke/MethodHandle" ∧ yL_say.cls ≠ "java/lang/invoke/VarHandle" ∧ (parseMethodDescriptor yL_say.desc).map (fun d => d.parameters.length) = some 4 := ⟨fh_at 1097 (by decide +kernel) rfl, fh_at 0 (by decide +kernel) rfl, by decide +kernel, by decide +kernel, by decide +kernel⟩
theorem YS_L_say : Cond.static yL_say ∈ fh_U := fh_at 1096 (by decide +kernel) rfl
theorem Kn_RL_8 : fn_K RL 8 11 := ⟨RX11, TX11, 10, tyX11, rfl, ix_11, tyX11_ok, fh_at 25 (by decide +kernel) rfl, fh_at 26 (by decide +kernel) rfl, fh_at 1 (by decide +kernel) rfl, rfl, by decide, by decide +kernel⟩
theorem Kn_RL_75 : fn_K RL 75 12 := ⟨RX12, TX12, 49, tyX12, rfl, ix_12, tyX12_ok, fh_at 1138 (by decide +kernel) rfl, fh_at 1139 (by decide +kernel) rfl, fh_at 13 (by decide +kernel) rfl, rfl, by decide, by decide +kernel⟩
