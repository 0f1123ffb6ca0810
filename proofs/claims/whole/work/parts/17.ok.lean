/-! THE METHODS ARE AS THE MACHINE ASKS (by program: wip/sx/gen_ok.py) -/
theorem s_hexA : ∀ (j : Nat) (X : String), s_ex[j]? = some X → ∀ w ∈ sx_exA X (s_exn j), w ∈ sx_tw ∨ w ∈ sx_xw ∨ w ∈ sx_ew := by
  have h : s_ex.all (fun X => (sx_exA X (s_exn 0)).all (fun w => sx_inT w || sx_inX w || decide (w ∈ sx_ew))) = true := by decide +kernel
  intro j X hX w hw
  have h1 := List.all_eq_true.mp (List.all_eq_true.mp h X (List.mem_of_getElem? hX)) w hw
  simp only [Bool.or_eq_true, decide_eq_true_eq] at h1
  rcases h1 with (h1 | h1) | h1
  · exact Or.inl (sx_inT_ok h1)
  · exact Or.inr (Or.inl (sx_inX_ok h1))
  · exact Or.inr (Or.inr h1)
abbrev s_okM (M : sx_M) : Prop := sx_okM sx_tw sx_xw s_cl s_ft s_df s_tf s_nt s_zs s_ks s_mt 80 s_ex s_nc M
theorem sW_0 : s_okM sM_0 := sx_chkM_ok s_okCl s_okDf s_hexA sK_0 sC_0
theorem sW_1 : s_okM sM_1 := sx_chkM_ok s_okCl s_okDf s_hexA sK_1 sC_1
theorem sW_2 : s_okM sM_2 := sx_chkM_ok s_okCl s_okDf s_hexA sK_2 sC_2
theorem sW_3 : s_okM sM_3 := sx_chkM_ok s_okCl s_okDf s_hexA sK_3 sC_3
theorem sW_4 : s_okM sM_4 := sx_chkM_ok s_okCl s_okDf s_hexA sK_4 sC_4
theorem sW_5 : s_okM sM_5 := sx_chkM_ok s_okCl s_okDf s_hexA sK_5 sC_5
theorem sW_6 : s_okM sM_6 := sx_chkM_ok s_okCl s_okDf s_hexA sK_6 sC_6
theorem sW_7 : s_okM sM_7 := sx_chkM_ok s_okCl s_okDf s_hexA sK_7 sC_7
theorem sW_8 : s_okM sM_8 := sx_chkM_ok s_okCl s_okDf s_hexA sK_8 sC_8
theorem sW_9 : s_okM sM_9 := sx_chkM_ok s_okCl s_okDf s_hexA sK_9 sC_9
theorem sW_10 : s_okM sM_10 := sx_chkM_ok s_okCl s_okDf s_hexA sK_10 sC_10
theorem sW_11 : s_okM sM_11 := sx_chkM_ok s_okCl s_okDf s_hexA sK_11 sC_11
theorem sW_12 : s_okM sM_12 := sx_chkM_ok s_okCl s_okDf s_hexA sK_12 sC_12
theorem sW_13 : s_okM sM_13 := sx_chkM_ok s_okCl s_okDf s_hexA sK_13 sC_13
theorem sW_14 : s_okM sM_14 := sx_chkM_ok s_okCl s_okDf s_hexA sK_14 sC_14
theorem sW_15 : s_okM sM_15 := sx_chkM_ok s_okCl s_okDf s_hexA sK_15 sC_15
theorem sW_16 : s_okM sM_16 := sx_chkM_ok s_okCl s_okDf s_hexA sK_16 sC_16
theorem sW_17 : s_okM sM_17 := sx_chkM_ok s_okCl s_okDf s_hexA sK_17 sC_17
theorem sW_18 : s_okM sM_18 := sx_chkM_ok s_okCl s_okDf s_hexA sK_18 sC_18
theorem sW_19 : s_okM sM_19 := sx_chkM_ok s_okCl s_okDf s_hexA sK_19 sC_19
theorem sW_20 : s_okM sM_20 := sx_chkM_ok s_okCl s_okDf s_hexA sK_20 sC_20
theorem sW_21 : s_okM sM_21 := sx_chkM_ok s_okCl s_okDf s_hexA sK_21 sC_21
theorem sW_22 : s_okM sM_22 := sx_chkM_ok s_okCl s_okDf s_hexA sK_22 sC_22
theorem sW_23 : s_okM sM_23 := sx_chkM_ok s_okCl s_okDf s_hexA sK_23 sC_23
theorem sW_24 : s_okM sM_24 := sx_chkM_ok s_okCl s_okDf s_hexA sK_24 sC_24
theorem sW_25 : s_okM sM_25 := sx_chkM_ok s_okCl s_okDf s_hexA sK_25 sC_25
theorem sW_26 : s_okM sM_26 := sx_chkM_ok s_okCl s_okDf s_hexA sK_26 sC_26
theorem sW_27 : s_okM sM_27 := sx_chkM_ok s_okCl s_okDf s_hexA sK_27 sC_27
theorem sW_28 : s_okM sM_28 := sx_chkM_ok s_okCl s_okDf s_hexA sK_28 sC_28
theorem sW_29 : s_okM sM_29 := sx_chkM_ok s_okCl s_okDf s_hexA sK_29 sC_29
theorem sW_30 : s_okM sM_30 := sx_chkM_ok s_okCl s_okDf s_hexA sK_30 sC_30
theorem sW_31 : s_okM sM_31 := sx_chkM_ok s_okCl s_okDf s_hexA sK_31 sC_31
theorem sW_32 : s_okM sM_32 := sx_chkM_ok s_okCl s_okDf s_hexA sK_32 sC_32
theorem sW_33 : s_okM sM_33 := sx_chkM_ok s_okCl s_okDf s_hexA sK_33 sC_33
theorem sW_34 : s_okM sM_34 := sx_chkM_ok s_okCl s_okDf s_hexA sK_34 sC_34
theorem sW_35 : s_okM sM_35 := sx_chkM_ok s_okCl s_okDf s_hexA sK_35 sC_35
theorem sW_36 : s_okM sM_36 := sx_chkM_ok s_okCl s_okDf s_hexA sK_36 sC_36
theorem sW_37 : s_okM sM_37 := sx_chkM_ok s_okCl s_okDf s_hexA sK_37 sC_37
theorem sW_38 : s_okM sM_38 := sx_chkM_ok s_okCl s_okDf s_hexA sK_38 sC_38
theorem sW_39 : s_okM sM_39 := sx_chkM_ok s_okCl s_okDf s_hexA sK_39 sC_39
theorem sW_40 : s_okM sM_40 := sx_chkM_ok s_okCl s_okDf s_hexA sK_40 sC_40
theorem sW_41 : s_okM sM_41 := sx_chkM_ok s_okCl s_okDf s_hexA sK_41 sC_41
theorem sW_42 : s_okM sM_42 := sx_chkM_ok s_okCl s_okDf s_hexA sK_42 sC_42
theorem sW_43 : s_okM sM_43 := sx_chkM_ok s_okCl s_okDf s_hexA sK_43 sC_43
theorem sW_44 : s_okM sM_44 := sx_chkM_ok s_okCl s_okDf s_hexA sK_44 sC_44
theorem sW_45 : s_okM sM_45 := sx_chkM_ok s_okCl s_okDf s_hexA sK_45 sC_45
theorem sW_46 : s_okM sM_46 := sx_chkM_ok s_okCl s_okDf s_hexA sK_46 sC_46
theorem sW_47 : s_okM sM_47 := sx_chkM_ok s_okCl s_okDf s_hexA sK_47 sC_47
theorem sW_48 : s_okM sM_48 := sx_chkM_ok s_okCl s_okDf s_hexA sK_48 sC_48
theorem sW_49 : s_okM sM_49 := sx_chkM_ok s_okCl s_okDf s_hexA sK_49 sC_49
theorem sW_50 : s_okM sM_50 := sx_chkM_ok s_okCl s_okDf s_hexA sK_50 sC_50
theorem sW_51 : s_okM sM_51 := sx_chkM_ok s_okCl s_okDf s_hexA sK_51 sC_51
theorem sW_52 : s_okM sM_52 := sx_chkM_ok s_okCl s_okDf s_hexA sK_52 sC_52
theorem sW_53 : s_okM sM_53 := sx_chkM_ok s_okCl s_okDf s_hexA sK_53 sC_53
theorem sW_54 : s_okM sM_54 := sx_chkM_ok s_okCl s_okDf s_hexA sK_54 sC_54
theorem sW_55 : s_okM sM_55 := sx_chkM_ok s_okCl s_okDf s_hexA sK_55 sC_55
theorem sW_56 : s_okM sM_56 := sx_chkM_ok s_okCl s_okDf s_hexA sK_56 sC_56
theorem sW_57 : s_okM sM_57 := sx_chkM_ok s_okCl s_okDf s_hexA sK_57 sC_57
theorem sW_58 : s_okM sM_58 := sx_chkM_ok s_okCl s_okDf s_hexA sK_58 sC_58
theorem sW_59 : s_okM sM_59 := sx_chkM_ok s_okCl s_okDf s_hexA sK_59 sC_59
theorem sW_60 : s_okM sM_60 := sx_chkM_ok s_okCl s_okDf s_hexA sK_60 sC_60
theorem sW_61 : s_okM sM_61 := sx_chkM_ok s_okCl s_okDf s_hexA sK_61 sC_61
theorem sW_62 : s_okM sM_62 := sx_chkM_ok s_okCl s_okDf s_hexA sK_62 sC_62
theorem sW_63 : s_okM sM_63 := sx_chkM_ok s_okCl s_okDf s_hexA sK_63 sC_63
theorem sW_64 : s_okM sM_64 := sx_chkM_ok s_okCl s_okDf s_hexA sK_64 sC_64
theorem sW_65 : s_okM sM_65 := sx_chkM_ok s_okCl s_okDf s_hexA sK_65 sC_65
theorem sW_66 : s_okM sM_66 := sx_chkM_ok s_okCl s_okDf s_hexA sK_66 sC_66
theorem sW_67 : s_okM sM_67 := sx_chkM_ok s_okCl s_okDf s_hexA sK_67 sC_67
theorem sW_68 : s_okM sM_68 := sx_chkM_ok s_okCl s_okDf s_hexA sK_68 sC_68
theorem sW_69 : s_okM sM_69 := sx_chkM_ok s_okCl s_okDf s_hexA sK_69 sC_69
theorem sW_70 : s_okM sM_70 := sx_chkM_ok s_okCl s_okDf s_hexA sK_70 sC_70
theorem sW_71 : s_okM sM_71 := sx_chkM_ok s_okCl s_okDf s_hexA sK_71 sC_71
theorem sW_72 : s_okM sM_72 := sx_chkM_ok s_okCl s_okDf s_hexA sK_72 sC_72
theorem sW_73 : s_okM sM_73 := sx_chkM_ok s_okCl s_okDf s_hexA sK_73 sC_73
theorem sW_74 : s_okM sM_74 := sx_chkM_ok s_okCl s_okDf s_hexA sK_74 sC_74
theorem sW_75 : s_okM sM_75 := sx_chkM_ok s_okCl s_okDf s_hexA sK_75 sC_75
theorem sW_76 : s_okM sM_76 := sx_chkM_ok s_okCl s_okDf s_hexA sK_76 sC_76
theorem sW_77 : s_okM sM_77 := sx_chkM_ok s_okCl s_okDf s_hexA sK_77 sC_77
theorem sW_78 : s_okM sM_78 := sx_chkM_ok s_okCl s_okDf s_hexA sK_78 sC_78
theorem sW_79 : s_okM sM_79 := sx_chkM_ok s_okCl s_okDf s_hexA sK_79 sC_79
theorem sW_80 : s_okM sM_80 := sx_chkM_ok s_okCl s_okDf s_hexA sK_80 sC_80
theorem sW_81 : s_okM sM_81 := sx_chkM_ok s_okCl s_okDf s_hexA sK_81 sC_81
theorem sW_82 : s_okM sM_82 := sx_chkM_ok s_okCl s_okDf s_hexA sK_82 sC_82
theorem sW_83 : s_okM sM_83 := sx_chkM_ok s_okCl s_okDf s_hexA sK_83 sC_83
theorem sW_84 : s_okM sM_84 := sx_chkM_ok s_okCl s_okDf s_hexA sK_84 sC_84
theorem sW_85 : s_okM sM_85 := sx_chkM_ok s_okCl s_okDf s_hexA sK_85 sC_85
theorem sW_86 : s_okM sM_86 := sx_chkM_ok s_okCl s_okDf s_hexA sK_86 sC_86
theorem sW_87 : s_okM sM_87 := sx_chkM_ok s_okCl s_okDf s_hexA sK_87 sC_87
theorem sW_88 : s_okM sM_88 := sx_chkM_ok s_okCl s_okDf s_hexA sK_88 sC_88
theorem sW_89 : s_okM sM_89 := sx_chkM_ok s_okCl s_okDf s_hexA sK_89 sC_89
theorem sW_90 : s_okM sM_90 := sx_chkM_ok s_okCl s_okDf s_hexA sK_90 sC_90
theorem sW_91 : s_okM sM_91 := sx_chkM_ok s_okCl s_okDf s_hexA sK_91 sC_91
theorem sW_92 : s_okM sM_92 := sx_chkM_ok s_okCl s_okDf s_hexA sK_92 sC_92
theorem sW_93 : s_okM sM_93 := sx_chkM_ok s_okCl s_okDf s_hexA sK_93 sC_93
theorem sW_94 : s_okM sM_94 := sx_chkM_ok s_okCl s_okDf s_hexA sK_94 sC_94
theorem sW_95 : s_okM sM_95 := sx_chkM_ok s_okCl s_okDf s_hexA sK_95 sC_95
theorem sW_96 : s_okM sM_96 := sx_chkM_ok s_okCl s_okDf s_hexA sK_96 sC_96
theorem sW_97 : s_okM sM_97 := sx_chkM_ok s_okCl s_okDf s_hexA sK_97 sC_97
theorem sW_98 : s_okM sM_98 := sx_chkM_ok s_okCl s_okDf s_hexA sK_98 sC_98
theorem sW_99 : s_okM sM_99 := sx_chkM_ok s_okCl s_okDf s_hexA sK_99 sC_99
theorem sW_100 : s_okM sM_100 := sx_chkM_ok s_okCl s_okDf s_hexA sK_100 sC_100
theorem sW_101 : s_okM sM_101 := sx_chkM_ok s_okCl s_okDf s_hexA sK_101 sC_101
theorem sW_102 : s_okM sM_102 := sx_chkM_ok s_okCl s_okDf s_hexA sK_102 sC_102
theorem sW_103 : s_okM sM_103 := sx_chkM_ok s_okCl s_okDf s_hexA sK_103 sC_103
theorem sW_104 : s_okM sM_104 := sx_chkM_ok s_okCl s_okDf s_hexA sK_104 sC_104
theorem sW_105 : s_okM sM_105 := sx_chkM_ok s_okCl s_okDf s_hexA sK_105 sC_105
theorem sW_106 : s_okM sM_106 := sx_chkM_ok s_okCl s_okDf s_hexA sK_106 sC_106
theorem sW_107 : s_okM sM_107 := sx_chkM_ok s_okCl s_okDf s_hexA sK_107 sC_107
theorem sW_108 : s_okM sM_108 := sx_chkM_ok s_okCl s_okDf s_hexA sK_108 sC_108
theorem sW_109 : s_okM sM_109 := sx_chkM_ok s_okCl s_okDf s_hexA sK_109 sC_109
theorem sW_110 : s_okM sM_110 := sx_chkM_ok s_okCl s_okDf s_hexA sK_110 sC_110
theorem sW_111 : s_okM sM_111 := sx_chkM_ok s_okCl s_okDf s_hexA sK_111 sC_111
theorem sW_112 : s_okM sM_112 := sx_chkM_ok s_okCl s_okDf s_hexA sK_112 sC_112
theorem sW_113 : s_okM sM_113 := sx_chkM_ok s_okCl s_okDf s_hexA sK_113 sC_113
theorem sW_114 : s_okM sM_114 := sx_chkM_ok s_okCl s_okDf s_hexA sK_114 sC_114
theorem sW_115 : s_okM sM_115 := sx_chkM_ok s_okCl s_okDf s_hexA sK_115 sC_115
theorem sW_116 : s_okM sM_116 := sx_chkM_ok s_okCl s_okDf s_hexA sK_116 sC_116
theorem sW_117 : s_okM sM_117 := sx_chkM_ok s_okCl s_okDf s_hexA sK_117 sC_117
theorem sW_118 : s_okM sM_118 := sx_chkM_ok s_okCl s_okDf s_hexA sK_118 sC_118
theorem sW_119 : s_okM sM_119 := sx_chkM_ok s_okCl s_okDf s_hexA sK_119 sC_119
theorem sW_120 : s_okM sM_120 := sx_chkM_ok s_okCl s_okDf s_hexA sK_120 sC_120
theorem sW_121 : s_okM sM_121 := sx_chkM_ok s_okCl s_okDf s_hexA sK_121 sC_121
theorem sW_122 : s_okM sM_122 := sx_chkM_ok s_okCl s_okDf s_hexA sK_122 sC_122
theorem sW_123 : s_okM sM_123 := sx_chkM_ok s_okCl s_okDf s_hexA sK_123 sC_123
theorem sW_124 : s_okM sM_124 := sx_chkM_ok s_okCl s_okDf s_hexA sK_124 sC_124
theorem sW_125 : s_okM sM_125 := sx_chkM_ok s_okCl s_okDf s_hexA sK_125 sC_125
theorem sW_126 : s_okM sM_126 := sx_chkM_ok s_okCl s_okDf s_hexA sK_126 sC_126
theorem sW_127 : s_okM sM_127 := sx_chkM_ok s_okCl s_okDf s_hexA sK_127 sC_127
theorem sW_128 : s_okM sM_128 := sx_chkM_ok s_okCl s_okDf s_hexA sK_128 sC_128
theorem sW_129 : s_okM sM_129 := sx_chkM_ok s_okCl s_okDf s_hexA sK_129 sC_129
theorem sW_130 : s_okM sM_130 := sx_chkM_ok s_okCl s_okDf s_hexA sK_130 sC_130
theorem sW_131 : s_okM sM_131 := sx_chkM_ok s_okCl s_okDf s_hexA sK_131 sC_131
theorem sW_132 : s_okM sM_132 := sx_chkM_ok s_okCl s_okDf s_hexA sK_132 sC_132
theorem sW_133 : s_okM sM_133 := sx_chkM_ok s_okCl s_okDf s_hexA sK_133 sC_133
theorem sW_134 : s_okM sM_134 := sx_chkM_ok s_okCl s_okDf s_hexA sK_134 sC_134
theorem sW_135 : s_okM sM_135 := sx_chkM_ok s_okCl s_okDf s_hexA sK_135 sC_135
theorem sW_136 : s_okM sM_136 := sx_chkM_ok s_okCl s_okDf s_hexA sK_136 sC_136
theorem sW_137 : s_okM sM_137 := sx_chkM_ok s_okCl s_okDf s_hexA sK_137 sC_137
theorem sW_138 : s_okM sM_138 := sx_chkM_ok s_okCl s_okDf s_hexA sK_138 sC_138
theorem sW_139 : s_okM sM_139 := sx_chkM_ok s_okCl s_okDf s_hexA sK_139 sC_139
theorem sW_140 : s_okM sM_140 := sx_chkM_ok s_okCl s_okDf s_hexA sK_140 sC_140
theorem sW_141 : s_okM sM_141 := sx_chkM_ok s_okCl s_okDf s_hexA sK_141 sC_141
theorem sW_142 : s_okM sM_142 := sx_chkM_ok s_okCl s_okDf s_hexA sK_142 sC_142
theorem sW_143 : s_okM sM_143 := sx_chkM_ok s_okCl s_okDf s_hexA sK_143 sC_143
theorem sW_144 : s_okM sM_144 := sx_chkM_ok s_okCl s_okDf s_hexA sK_144 sC_144
theorem sW_145 : s_okM sM_145 := sx_chkM_ok s_okCl s_okDf s_hexA sK_145 sC_145
theorem sW_146 : s_okM sM_146 := sx_chkM_ok s_okCl s_okDf s_hexA sK_146 sC_146
theorem sW_147 : s_okM sM_147 := sx_chkM_ok s_okCl s_okDf s_hexA sK_147 sC_147
theorem sW_148 : s_okM sM_148 := sx_chkM_ok s_okCl s_okDf s_hexA sK_148 sC_148
theorem sW_149 : s_okM sM_149 := sx_chkM_ok s_okCl s_okDf s_hexA sK_149 sC_149
theorem sW_150 : s_okM sM_150 := sx_chkM_ok s_okCl s_okDf s_hexA sK_150 sC_150
theorem sW_151 : s_okM sM_151 := sx_chkM_ok s_okCl s_okDf s_hexA sK_151 sC_151
theorem sW_152 : s_okM sM_152 := sx_chkM_ok s_okCl s_okDf s_hexA sK_152 sC_152
theorem sW_153 : s_okM sM_153 := sx_chkM_ok s_okCl s_okDf s_hexA sK_153 sC_153
theorem sW_154 : s_okM sM_154 := sx_chkM_ok s_okCl s_okDf s_hexA sK_154 sC_154
theorem sW_155 : s_okM sM_155 := sx_chkM_ok s_okCl s_okDf s_hexA sK_155 sC_155
theorem sW_156 : s_okM sM_156 := sx_chkM_ok s_okCl s_okDf s_hexA sK_156 sC_156
theorem sW_157 : s_okM sM_157 := sx_chkM_ok s_okCl s_okDf s_hexA sK_157 sC_157
theorem sW_158 : s_okM sM_158 := sx_chkM_ok s_okCl s_okDf s_hexA sK_158 sC_158
theorem sW_159 : s_okM sM_159 := sx_chkM_ok s_okCl s_okDf s_hexA sK_159 sC_159
theorem sW_160 : s_okM sM_160 := sx_chkM_ok s_okCl s_okDf s_hexA sK_160 sC_160
theorem sW_161 : s_okM sM_161 := sx_chkM_ok s_okCl s_okDf s_hexA sK_161 sC_161
theorem sW_162 : s_okM sM_162 := sx_chkM_ok s_okCl s_okDf s_hexA sK_162 sC_162
theorem sW_163 : s_okM sM_163 := sx_chkM_ok s_okCl s_okDf s_hexA sK_163 sC_163
theorem sW_164 : s_okM sM_164 := sx_chkM_ok s_okCl s_okDf s_hexA sK_164 sC_164
theorem sW_165 : s_okM sM_165 := sx_chkM_ok s_okCl s_okDf s_hexA sK_165 sC_165
theorem sW_law : s_okM sM_law := sx_chkM_ok s_okCl s_okDf s_hexA sK_law sC_law
theorem s_hmt : ∀ k M, s_mt k = some M → s_okM M := by
  have h : ∀ M ∈ s_mts, s_okM M := by
    unfold s_mts
    refine List.forall_mem_cons.mpr ⟨sW_0, ?_⟩
    refine List.forall_mem_cons.mpr ⟨sW_1, ?_⟩
    refine List.forall_mem_cons.mpr ⟨sW_2, ?_⟩
    refine List.forall_mem_cons.mpr ⟨sW_3, ?_⟩
    refine List.forall_mem_cons.mpr ⟨sW_4, ?_⟩
    refine List.forall_mem_cons.mpr ⟨sW_5, ?_⟩
    refine List.forall_mem_cons.mpr ⟨sW_6, ?_⟩
    refine List.forall_mem_cons.mpr ⟨sW_7, ?_⟩
    refine List.forall_mem_cons.mpr ⟨sW_8, ?_⟩
    refine List.forall_mem_cons.mpr ⟨sW_9, ?_⟩
    refine List.forall_mem_cons.mpr ⟨sW_10, ?_⟩
    refine List.forall_mem_cons.mpr ⟨sW_11, ?_⟩
    refine List.forall_mem_cons.mpr ⟨sW_12, ?_⟩
    refine List.forall_mem_cons.mpr ⟨sW_13, ?_⟩
    refine List.forall_mem_cons.mpr ⟨sW_14, ?_⟩
    refine List.forall_mem_cons.mpr ⟨sW_15, ?_⟩
    refine List.forall_mem_cons.mpr ⟨sW_16, ?_⟩
    refine List.forall_mem_cons.mpr ⟨sW_17, ?_⟩
    refine List.forall_mem_cons.mpr ⟨sW_18, ?_⟩
    refine List.forall_mem_cons.mpr ⟨sW_19, ?_⟩
    refine List.forall_mem_cons.mpr ⟨sW_20, ?_⟩
    refine List.forall_mem_cons.mpr ⟨sW_21, ?_⟩
    refine List.forall_mem_cons.mpr ⟨sW_22, ?_⟩
    refine List.forall_mem_cons.mpr ⟨sW_23, ?_⟩
    refine List.forall_mem_cons.mpr ⟨sW_24, ?_⟩
    refine List.forall_mem_cons.mpr ⟨sW_25, ?_⟩
    refine List.forall_mem_cons.mpr ⟨sW_26, ?_⟩
    refine List.forall_mem_cons.mpr ⟨sW_27, ?_⟩
    refine List.forall_mem_cons.mpr ⟨sW_28, ?_⟩
    refine List.forall_mem_cons.mpr ⟨sW_29, ?_⟩
    refine List.forall_mem_cons.mpr ⟨sW_30, ?_⟩
    refine List.forall_mem_cons.mpr ⟨sW_31, ?_⟩
    refine List.forall_mem_cons.mpr ⟨sW_32, ?_⟩
    refine List.forall_mem_cons.mpr ⟨sW_33, ?_⟩
    refine List.forall_mem_cons.mpr ⟨sW_34, ?_⟩
    refine List.forall_mem_cons.mpr ⟨sW_35, ?_⟩
    refine List.forall_mem_cons.mpr ⟨sW_36, ?_⟩
    refine List.forall_mem_cons.mpr ⟨sW_37, ?_⟩
    refine List.forall_mem_cons.mpr ⟨sW_38, ?_⟩
    refine List.forall_mem_cons.mpr ⟨sW_39, ?_⟩
    refine List.forall_mem_cons.mpr ⟨sW_40, ?_⟩
    refine List.forall_mem_cons.mpr ⟨sW_41, ?_⟩
    refine List.forall_mem_cons.mpr ⟨sW_42, ?_⟩
    refine List.forall_mem_cons.mpr ⟨sW_43, ?_⟩
    refine List.forall_mem_cons.mpr ⟨sW_44, ?_⟩
    refine List.forall_mem_cons.mpr ⟨sW_45, ?_⟩
    refine List.forall_mem_cons.mpr ⟨sW_46, ?_⟩
    refine List.forall_mem_cons.mpr ⟨sW_47, ?_⟩
    refine List.forall_mem_cons.mpr ⟨sW_48, ?_⟩
    refine List.forall_mem_cons.mpr ⟨sW_49, ?_⟩
    refine List.forall_mem_cons.mpr ⟨sW_50, ?_⟩
    refine List.forall_mem_cons.mpr ⟨sW_51, ?_⟩
    refine List.forall_mem_cons.mpr ⟨sW_52, ?_⟩
    refine List.forall_mem_cons.mpr ⟨sW_53, ?_⟩
    refine List.forall_mem_cons.mpr ⟨sW_54, ?_⟩
    refine List.forall_mem_cons.mpr ⟨sW_55, ?_⟩
    refine List.forall_mem_cons.mpr ⟨sW_56, ?_⟩
    refine List.forall_mem_cons.mpr ⟨sW_57, ?_⟩
    refine List.forall_mem_cons.mpr ⟨sW_58, ?_⟩
    refine List.forall_mem_cons.mpr ⟨sW_59, ?_⟩
    refine List.forall_mem_cons.mpr ⟨sW_60, ?_⟩
    refine List.forall_mem_cons.mpr ⟨sW_61, ?_⟩
    refine List.forall_mem_cons.mpr ⟨sW_62, ?_⟩
    refine List.forall_mem_cons.mpr ⟨sW_63, ?_⟩
    refine List.forall_mem_cons.mpr ⟨sW_64, ?_⟩
    refine List.forall_mem_cons.mpr ⟨sW_65, ?_⟩
    refine List.forall_mem_cons.mpr ⟨sW_66, ?_⟩
    refine List.forall_mem_cons.mpr ⟨sW_67, ?_⟩
    refine List.forall_mem_cons.mpr ⟨sW_68, ?_⟩
    refine List.forall_mem_cons.mpr ⟨sW_69, ?_⟩
    refine List.forall_mem_cons.mpr ⟨sW_70, ?_⟩
    refine List.forall_mem_cons.mpr ⟨sW_71, ?_⟩
    refine List.forall_mem_cons.mpr ⟨sW_72, ?_⟩
    refine List.forall_mem_cons.mpr ⟨sW_73, ?_⟩
    refine List.forall_mem_cons.mpr ⟨sW_74, ?_⟩
    refine List.forall_mem_cons.mpr ⟨sW_75, ?_⟩
    refine List.forall_mem_cons.mpr ⟨sW_76, ?_⟩
    refine List.forall_mem_cons.mpr ⟨sW_77, ?_⟩
    refine List.forall_mem_cons.mpr ⟨sW_78, ?_⟩
    refine List.forall_mem_cons.mpr ⟨sW_79, ?_⟩
    refine List.forall_mem_cons.mpr ⟨sW_80, ?_⟩
    refine List.forall_mem_cons.mpr ⟨sW_81, ?_⟩
    refine List.forall_mem_cons.mpr ⟨sW_82, ?_⟩
    refine List.forall_mem_cons.mpr ⟨sW_83, ?_⟩
    refine List.forall_mem_cons.mpr ⟨sW_84, ?_⟩
    refine List.forall_mem_cons.mpr ⟨sW_85, ?_⟩
    refine List.forall_mem_cons.mpr ⟨sW_86, ?_⟩
    refine List.forall_mem_cons.mpr ⟨sW_87, ?_⟩
    refine List.forall_mem_cons.mpr ⟨sW_88, ?_⟩
    refine List.forall_mem_cons.mpr ⟨sW_89, ?_⟩
    refine List.forall_mem_cons.mpr ⟨sW_90, ?_⟩
    refine List.forall_mem_cons.mpr ⟨sW_91, ?_⟩
    refine List.forall_mem_cons.mpr ⟨sW_92, ?_⟩
    refine List.forall_mem_cons.mpr ⟨sW_93, ?_⟩
    refine List.forall_mem_cons.mpr ⟨sW_94, ?_⟩
    refine List.forall_mem_cons.mpr ⟨sW_95, ?_⟩
    refine List.forall_mem_cons.mpr ⟨sW_96, ?_⟩
    refine List.forall_mem_cons.mpr ⟨sW_97, ?_⟩
    refine List.forall_mem_cons.mpr ⟨sW_98, ?_⟩
    refine List.forall_mem_cons.mpr ⟨sW_99, ?_⟩
    refine List.forall_mem_cons.mpr ⟨sW_100, ?_⟩
    refine List.forall_mem_cons.mpr ⟨sW_101, ?_⟩
    refine List.forall_mem_cons.mpr ⟨sW_102, ?_⟩
    refine List.forall_mem_cons.mpr ⟨sW_103, ?_⟩
    refine List.forall_mem_cons.mpr ⟨sW_104, ?_⟩
    refine List.forall_mem_cons.mpr ⟨sW_105, ?_⟩
    refine List.forall_mem_cons.mpr ⟨sW_106, ?_⟩
    refine List.forall_mem_cons.mpr ⟨sW_107, ?_⟩
    refine List.forall_mem_cons.mpr ⟨sW_108, ?_⟩
    refine List.forall_mem_cons.mpr ⟨sW_109, ?_⟩
    refine List.forall_mem_cons.mpr ⟨sW_110, ?_⟩
    refine List.forall_mem_cons.mpr ⟨sW_111, ?_⟩
    refine List.forall_mem_cons.mpr ⟨sW_112, ?_⟩
    refine List.forall_mem_cons.mpr ⟨sW_113, ?_⟩
    refine List.forall_mem_cons.mpr ⟨sW_114, ?_⟩
    refine List.forall_mem_cons.mpr ⟨sW_115, ?_⟩
    refine List.forall_mem_cons.mpr ⟨sW_116, ?_⟩
    refine List.forall_mem_cons.mpr ⟨sW_117, ?_⟩
    refine List.forall_mem_cons.mpr ⟨sW_118, ?_⟩
    refine List.forall_mem_cons.mpr ⟨sW_119, ?_⟩
    refine List.forall_mem_cons.mpr ⟨sW_120, ?_⟩
    refine List.forall_mem_cons.mpr ⟨sW_121, ?_⟩
    refine List.forall_mem_cons.mpr ⟨sW_122, ?_⟩
    refine List.forall_mem_cons.mpr ⟨sW_123, ?_⟩
    refine List.forall_mem_cons.mpr ⟨sW_124, ?_⟩
    refine List.forall_mem_cons.mpr ⟨sW_125, ?_⟩
    refine List.forall_mem_cons.mpr ⟨sW_126, ?_⟩
    refine List.forall_mem_cons.mpr ⟨sW_127, ?_⟩
    refine List.forall_mem_cons.mpr ⟨sW_128, ?_⟩
    refine List.forall_mem_cons.mpr ⟨sW_129, ?_⟩
    refine List.forall_mem_cons.mpr ⟨sW_130, ?_⟩
    refine List.forall_mem_cons.mpr ⟨sW_131, ?_⟩
    refine List.forall_mem_cons.mpr ⟨sW_132, ?_⟩
    refine List.forall_mem_cons.mpr ⟨sW_133, ?_⟩
    refine List.forall_mem_cons.mpr ⟨sW_134, ?_⟩
    refine List.forall_mem_cons.mpr ⟨sW_135, ?_⟩
    refine List.forall_mem_cons.mpr ⟨sW_136, ?_⟩
    refine List.forall_mem_cons.mpr ⟨sW_137, ?_⟩
    refine List.forall_mem_cons.mpr ⟨sW_138, ?_⟩
    refine List.forall_mem_cons.mpr ⟨sW_139, ?_⟩
    refine List.forall_mem_cons.mpr ⟨sW_140, ?_⟩
    refine List.forall_mem_cons.mpr ⟨sW_141, ?_⟩
    refine List.forall_mem_cons.mpr ⟨sW_142, ?_⟩
    refine List.forall_mem_cons.mpr ⟨sW_143, ?_⟩
    refine List.forall_mem_cons.mpr ⟨sW_144, ?_⟩
    refine List.forall_mem_cons.mpr ⟨sW_145, ?_⟩
    refine List.forall_mem_cons.mpr ⟨sW_146, ?_⟩
    refine List.forall_mem_cons.mpr ⟨sW_147, ?_⟩
    refine List.forall_mem_cons.mpr ⟨sW_148, ?_⟩
    refine List.forall_mem_cons.mpr ⟨sW_149, ?_⟩
    refine List.forall_mem_cons.mpr ⟨sW_150, ?_⟩
    refine List.forall_mem_cons.mpr ⟨sW_151, ?_⟩
    refine List.forall_mem_cons.mpr ⟨sW_152, ?_⟩
    refine List.forall_mem_cons.mpr ⟨sW_153, ?_⟩
    refine List.forall_mem_cons.mpr ⟨sW_154, ?_⟩
    refine List.forall_mem_cons.mpr ⟨sW_155, ?_⟩
    refine List.forall_mem_cons.mpr ⟨sW_156, ?_⟩
    refine List.forall_mem_cons.mpr ⟨sW_157, ?_⟩
    refine List.forall_mem_cons.mpr ⟨sW_158, ?_⟩
    refine List.forall_mem_cons.mpr ⟨sW_159, ?_⟩
    refine List.forall_mem_cons.mpr ⟨sW_160, ?_⟩
    refine List.forall_mem_cons.mpr ⟨sW_161, ?_⟩
    refine List.forall_mem_cons.mpr ⟨sW_162, ?_⟩
    refine List.forall_mem_cons.mpr ⟨sW_163, ?_⟩
    refine List.forall_mem_cons.mpr ⟨sW_164, ?_⟩
    refine List.forall_mem_cons.mpr ⟨sW_165, ?_⟩
    exact fun M h => absurd h (List.not_mem_nil)
  exact fun k M hk => h M (List.mem_of_getElem? hk)
def s_cst (k t : Nat) : Bool := match k with
  | 0 => decide (4 ≤ t)
  | ci + 1 => if t = 4 then decide (ci ≤ 12) else decide ((ci, t) ∈ [(6, 5), (10, 6), (11, 7), (7, 8)])
theorem s_cst0 : ∀ t, s_cst 0 t = true → ∃ E, s_tf t = .object E := by
  intro t h
  have h : 4 ≤ t := of_decide_eq_true h
  match t, h with
  | 4, _ => exact ⟨_, rfl⟩
  | 5, _ => exact ⟨_, rfl⟩
  | 6, _ => exact ⟨_, rfl⟩
  | 7, _ => exact ⟨_, rfl⟩
  | t + 8, _ => exact ⟨_, rfl⟩
theorem s_cst1 : ∀ ci t, s_cst (ci + 1) t = true → ∃ (r : vw_C) (E : String), s_cl[ci]? = some r ∧ s_tf t = .object E ∧ (r.1 = E ∨ Cond.castable r.1 E ∈ sx_xw) := by
  have hO : (List.range 13).all (fun ci => match s_cl[ci]? with
    | some r => sx_inX (.castable r.1 "java/lang/Object")
    | none => false) = true := by decide +kernel
  intro ci t h
  have h : (if t = 4 then decide (ci ≤ 12) else decide ((ci, t) ∈ [(6, 5), (10, 6), (11, 7), (7, 8)])) = true := h
  split at h
  · rename_i ht
    subst ht
    have hc : ci ≤ 12 := of_decide_eq_true h
    have h1 := List.all_eq_true.mp hO ci (List.mem_range.mpr (by omega))
    cases hr : s_cl[ci]? with
    | none => rw [hr] at h1; cases h1
    | some r =>
      rw [hr] at h1
      exact ⟨r, _, rfl, rfl, Or.inr (sx_inX_ok h1)⟩
  · have h := of_decide_eq_true h
    simp only [List.mem_cons, List.not_mem_nil, or_false, Prod.mk.injEq] at h
    rcases h with ⟨rfl, rfl⟩ | ⟨rfl, rfl⟩ | ⟨rfl, rfl⟩ | ⟨rfl, rfl⟩
    · exact ⟨_, _, rfl, rfl, Or.inl rfl⟩
    · exact ⟨_, _, rfl, rfl, Or.inl rfl⟩
    · exact ⟨_, _, rfl, rfl, Or.inl rfl⟩
    · exact ⟨_, _, rfl, rfl, Or.inl rfl⟩
