/-! THE METHODS ARE AS THE MACHINE ASKS (by program: wip/sx/gen_ok.py) -/
theorem s_hexA : ∀ (j : Nat) (X : String), s_ex[j]? = some X → ∀ w ∈ sx_exA X (s_exn j), w ∈ sx_tw ∨ w ∈ sx_xw ∨ w ∈ sx_ew := by
  have h : s_ex.all (fun X => (sx_exA X (s_exn 0)).all (fun w => sx_inT w || sx_inX w || decide (w ∈ sx_ew))) = true := by decide +kernel
  intro j X hX w hw
  have h1 := List.all_eq_true.mp (List.all_eq_true.mp h X (List.mem_of_getElem? hX)) w hw
  simp only [Bool.or_eq_true, decide_eq_true_eq] at h1
  rcases h1 with (h1 | h1) | h1
  · exact Or.inl (sx_inT_ok h1)
  · exact Or.inr (Or.inl (sx_inX_ok h1))
  · exact Or.inr (Or.inr h1)
abbrev s_okM (M : sx_M) : Prop := sx_okM sx_tw sx_xw s_cl s_ft s_df s_tf s_nt s_zs s_ks s_mt 80 s_ex s_nc M
theorem sO_0 : s_okM sM_0 := sx_chkM_ok s_okCl s_okDf s_hexA sK_0 sC_0
theorem sO_1 : s_okM sM_1 := sx_chkM_ok s_okCl s_okDf s_hexA sK_1 sC_1
theorem sO_2 : s_okM sM_2 := sx_chkM_ok s_okCl s_okDf s_hexA sK_2 sC_2
theorem sO_3 : s_okM sM_3 := sx_chkM_ok s_okCl s_okDf s_hexA sK_3 sC_3
theorem sO_4 : s_okM sM_4 := sx_chkM_ok s_okCl s_okDf s_hexA sK_4 sC_4
theorem sO_5 : s_okM sM_5 := sx_chkM_ok s_okCl s_okDf s_hexA sK_5 sC_5
theorem sO_6 : s_okM sM_6 := sx_chkM_ok s_okCl s_okDf s_hexA sK_6 sC_6
theorem sO_7 : s_okM sM_7 := sx_chkM_ok s_okCl s_okDf s_hexA sK_7 sC_7
theorem sO_8 : s_okM sM_8 := sx_chkM_ok s_okCl s_okDf s_hexA sK_8 sC_8
theorem sO_9 : s_okM sM_9 := sx_chkM_ok s_okCl s_okDf s_hexA sK_9 sC_9
theorem sO_10 : s_okM sM_10 := sx_chkM_ok s_okCl s_okDf s_hexA sK_10 sC_10
theorem sO_11 : s_okM sM_11 := sx_chkM_ok s_okCl s_okDf s_hexA sK_11 sC_11
theorem sO_12 : s_okM sM_12 := sx_chkM_ok s_okCl s_okDf s_hexA sK_12 sC_12
theorem sO_13 : s_okM sM_13 := sx_chkM_ok s_okCl s_okDf s_hexA sK_13 sC_13
theorem sO_14 : s_okM sM_14 := sx_chkM_ok s_okCl s_okDf s_hexA sK_14 sC_14
theorem sO_15 : s_okM sM_15 := sx_chkM_ok s_okCl s_okDf s_hexA sK_15 sC_15
theorem sO_16 : s_okM sM_16 := sx_chkM_ok s_okCl s_okDf s_hexA sK_16 sC_16
theorem sO_17 : s_okM sM_17 := sx_chkM_ok s_okCl s_okDf s_hexA sK_17 sC_17
theorem sO_18 : s_okM sM_18 := sx_chkM_ok s_okCl s_okDf s_hexA sK_18 sC_18
theorem sO_19 : s_okM sM_19 := sx_chkM_ok s_okCl s_okDf s_hexA sK_19 sC_19
theorem sO_20 : s_okM sM_20 := sx_chkM_ok s_okCl s_okDf s_hexA sK_20 sC_20
theorem sO_21 : s_okM sM_21 := sx_chkM_ok s_okCl s_okDf s_hexA sK_21 sC_21
theorem sO_22 : s_okM sM_22 := sx_chkM_ok s_okCl s_okDf s_hexA sK_22 sC_22
theorem sO_23 : s_okM sM_23 := sx_chkM_ok s_okCl s_okDf s_hexA sK_23 sC_23
theorem sO_24 : s_okM sM_24 := sx_chkM_ok s_okCl s_okDf s_hexA sK_24 sC_24
theorem sO_25 : s_okM sM_25 := sx_chkM_ok s_okCl s_okDf s_hexA sK_25 sC_25
theorem sO_26 : s_okM sM_26 := sx_chkM_ok s_okCl s_okDf s_hexA sK_26 sC_26
theorem sO_27 : s_okM sM_27 := sx_chkM_ok s_okCl s_okDf s_hexA sK_27 sC_27
theorem sO_28 : s_okM sM_28 := sx_chkM_ok s_okCl s_okDf s_hexA sK_28 sC_28
theorem sO_29 : s_okM sM_29 := sx_chkM_ok s_okCl s_okDf s_hexA sK_29 sC_29
theorem sO_30 : s_okM sM_30 := sx_chkM_ok s_okCl s_okDf s_hexA sK_30 sC_30
theorem sO_31 : s_okM sM_31 := sx_chkM_ok s_okCl s_okDf s_hexA sK_31 sC_31
theorem sO_32 : s_okM sM_32 := sx_chkM_ok s_okCl s_okDf s_hexA sK_32 sC_32
theorem sO_33 : s_okM sM_33 := sx_chkM_ok s_okCl s_okDf s_hexA sK_33 sC_33
theorem sO_34 : s_okM sM_34 := sx_chkM_ok s_okCl s_okDf s_hexA sK_34 sC_34
theorem sO_35 : s_okM sM_35 := sx_chkM_ok s_okCl s_okDf s_hexA sK_35 sC_35
theorem sO_36 : s_okM sM_36 := sx_chkM_ok s_okCl s_okDf s_hexA sK_36 sC_36
theorem sO_37 : s_okM sM_37 := sx_chkM_ok s_okCl s_okDf s_hexA sK_37 sC_37
theorem sO_38 : s_okM sM_38 := sx_chkM_ok s_okCl s_okDf s_hexA sK_38 sC_38
theorem sO_39 : s_okM sM_39 := sx_chkM_ok s_okCl s_okDf s_hexA sK_39 sC_39
theorem sO_40 : s_okM sM_40 := sx_chkM_ok s_okCl s_okDf s_hexA sK_40 sC_40
theorem sO_41 : s_okM sM_41 := sx_chkM_ok s_okCl s_okDf s_hexA sK_41 sC_41
theorem sO_42 : s_okM sM_42 := sx_chkM_ok s_okCl s_okDf s_hexA sK_42 sC_42
theorem sO_43 : s_okM sM_43 := sx_chkM_ok s_okCl s_okDf s_hexA sK_43 sC_43
theorem sO_44 : s_okM sM_44 := sx_chkM_ok s_okCl s_okDf s_hexA sK_44 sC_44
theorem sO_45 : s_okM sM_45 := sx_chkM_ok s_okCl s_okDf s_hexA sK_45 sC_45
theorem sO_46 : s_okM sM_46 := sx_chkM_ok s_okCl s_okDf s_hexA sK_46 sC_46
theorem sO_47 : s_okM sM_47 := sx_chkM_ok s_okCl s_okDf s_hexA sK_47 sC_47
theorem sO_48 : s_okM sM_48 := sx_chkM_ok s_okCl s_okDf s_hexA sK_48 sC_48
theorem sO_49 : s_okM sM_49 := sx_chkM_ok s_okCl s_okDf s_hexA sK_49 sC_49
theorem sO_50 : s_okM sM_50 := sx_chkM_ok s_okCl s_okDf s_hexA sK_50 sC_50
theorem sO_51 : s_okM sM_51 := sx_chkM_ok s_okCl s_okDf s_hexA sK_51 sC_51
theorem sO_52 : s_okM sM_52 := sx_chkM_ok s_okCl s_okDf s_hexA sK_52 sC_52
theorem sO_53 : s_okM sM_53 := sx_chkM_ok s_okCl s_okDf s_hexA sK_53 sC_53
theorem sO_54 : s_okM sM_54 := sx_chkM_ok s_okCl s_okDf s_hexA sK_54 sC_54
theorem sO_55 : s_okM sM_55 := sx_chkM_ok s_okCl s_okDf s_hexA sK_55 sC_55
theorem sO_56 : s_okM sM_56 := sx_chkM_ok s_okCl s_okDf s_hexA sK_56 sC_56
theorem sO_57 : s_okM sM_57 := sx_chkM_ok s_okCl s_okDf s_hexA sK_57 sC_57
theorem sO_58 : s_okM sM_58 := sx_chkM_ok s_okCl s_okDf s_hexA sK_58 sC_58
theorem sO_59 : s_okM sM_59 := sx_chkM_ok s_okCl s_okDf s_hexA sK_59 sC_59
theorem sO_60 : s_okM sM_60 := sx_chkM_ok s_okCl s_okDf s_hexA sK_60 sC_60
theorem sO_61 : s_okM sM_61 := sx_chkM_ok s_okCl s_okDf s_hexA sK_61 sC_61
theorem sO_62 : s_okM sM_62 := sx_chkM_ok s_okCl s_okDf s_hexA sK_62 sC_62
theorem sO_63 : s_okM sM_63 := sx_chkM_ok s_okCl s_okDf s_hexA sK_63 sC_63
theorem sO_64 : s_okM sM_64 := sx_chkM_ok s_okCl s_okDf s_hexA sK_64 sC_64
theorem sO_65 : s_okM sM_65 := sx_chkM_ok s_okCl s_okDf s_hexA sK_65 sC_65
theorem sO_66 : s_okM sM_66 := sx_chkM_ok s_okCl s_okDf s_hexA sK_66 sC_66
theorem sO_67 : s_okM sM_67 := sx_chkM_ok s_okCl s_okDf s_hexA sK_67 sC_67
theorem sO_68 : s_okM sM_68 := sx_chkM_ok s_okCl s_okDf s_hexA sK_68 sC_68
theorem sO_69 : s_okM sM_69 := sx_chkM_ok s_okCl s_okDf s_hexA sK_69 sC_69
theorem sO_70 : s_okM sM_70 := sx_chkM_ok s_okCl s_okDf s_hexA sK_70 sC_70
theorem sO_71 : s_okM sM_71 := sx_chkM_ok s_okCl s_okDf s_hexA sK_71 sC_71
theorem sO_72 : s_okM sM_72 := sx_chkM_ok s_okCl s_okDf s_hexA sK_72 sC_72
theorem sO_73 : s_okM sM_73 := sx_chkM_ok s_okCl s_okDf s_hexA sK_73 sC_73
theorem sO_74 : s_okM sM_74 := sx_chkM_ok s_okCl s_okDf s_hexA sK_74 sC_74
theorem sO_75 : s_okM sM_75 := sx_chkM_ok s_okCl s_okDf s_hexA sK_75 sC_75
theorem sO_76 : s_okM sM_76 := sx_chkM_ok s_okCl s_okDf s_hexA sK_76 sC_76
theorem sO_77 : s_okM sM_77 := sx_chkM_ok s_okCl s_okDf s_hexA sK_77 sC_77
theorem sO_78 : s_okM sM_78 := sx_chkM_ok s_okCl s_okDf s_hexA sK_78 sC_78
theorem sO_79 : s_okM sM_79 := sx_chkM_ok s_okCl s_okDf s_hexA sK_79 sC_79
theorem sO_80 : s_okM sM_80 := sx_chkM_ok s_okCl s_okDf s_hexA sK_80 sC_80
theorem sO_81 : s_okM sM_81 := sx_chkM_ok s_okCl s_okDf s_hexA sK_81 sC_81
theorem sO_82 : s_okM sM_82 := sx_chkM_ok s_okCl s_okDf s_hexA sK_82 sC_82
theorem sO_83 : s_okM sM_83 := sx_chkM_ok s_okCl s_okDf s_hexA sK_83 sC_83
theorem sO_84 : s_okM sM_84 := sx_chkM_ok s_okCl s_okDf s_hexA sK_84 sC_84
theorem sO_85 : s_okM sM_85 := sx_chkM_ok s_okCl s_okDf s_hexA sK_85 sC_85
theorem sO_86 : s_okM sM_86 := sx_chkM_ok s_okCl s_okDf s_hexA sK_86 sC_86
theorem sO_87 : s_okM sM_87 := sx_chkM_ok s_okCl s_okDf s_hexA sK_87 sC_87
theorem sO_88 : s_okM sM_88 := sx_chkM_ok s_okCl s_okDf s_hexA sK_88 sC_88
theorem sO_89 : s_okM sM_89 := sx_chkM_ok s_okCl s_okDf s_hexA sK_89 sC_89
theorem sO_90 : s_okM sM_90 := sx_chkM_ok s_okCl s_okDf s_hexA sK_90 sC_90
theorem sO_91 : s_okM sM_91 := sx_chkM_ok s_okCl s_okDf s_hexA sK_91 sC_91
theorem sO_92 : s_okM sM_92 := sx_chkM_ok s_okCl s_okDf s_hexA sK_92 sC_92
theorem sO_93 : s_okM sM_93 := sx_chkM_ok s_okCl s_okDf s_hexA sK_93 sC_93
theorem sO_94 : s_okM sM_94 := sx_chkM_ok s_okCl s_okDf s_hexA sK_94 sC_94
theorem sO_95 : s_okM sM_95 := sx_chkM_ok s_okCl s_okDf s_hexA sK_95 sC_95
theorem sO_96 : s_okM sM_96 := sx_chkM_ok s_okCl s_okDf s_hexA sK_96 sC_96
theorem sO_97 : s_okM sM_97 := sx_chkM_ok s_okCl s_okDf s_hexA sK_97 sC_97
theorem sO_98 : s_okM sM_98 := sx_chkM_ok s_okCl s_okDf s_hexA sK_98 sC_98
theorem sO_99 : s_okM sM_99 := sx_chkM_ok s_okCl s_okDf s_hexA sK_99 sC_99
theorem sO_100 : s_okM sM_100 := sx_chkM_ok s_okCl s_okDf s_hexA sK_100 sC_100
theorem sO_101 : s_okM sM_101 := sx_chkM_ok s_okCl s_okDf s_hexA sK_101 sC_101
theorem sO_102 : s_okM sM_102 := sx_chkM_ok s_okCl s_okDf s_hexA sK_102 sC_102
theorem sO_103 : s_okM sM_103 := sx_chkM_ok s_okCl s_okDf s_hexA sK_103 sC_103
theorem sO_104 : s_okM sM_104 := sx_chkM_ok s_okCl s_okDf s_hexA sK_104 sC_104
theorem sO_105 : s_okM sM_105 := sx_chkM_ok s_okCl s_okDf s_hexA sK_105 sC_105
theorem sO_106 : s_okM sM_106 := sx_chkM_ok s_okCl s_okDf s_hexA sK_106 sC_106
theorem sO_107 : s_okM sM_107 := sx_chkM_ok s_okCl s_okDf s_hexA sK_107 sC_107
theorem sO_108 : s_okM sM_108 := sx_chkM_ok s_okCl s_okDf s_hexA sK_108 sC_108
theorem sO_109 : s_okM sM_109 := sx_chkM_ok s_okCl s_okDf s_hexA sK_109 sC_109
theorem sO_110 : s_okM sM_110 := sx_chkM_ok s_okCl s_okDf s_hexA sK_110 sC_110
theorem sO_111 : s_okM sM_111 := sx_chkM_ok s_okCl s_okDf s_hexA sK_111 sC_111
theorem sO_112 : s_okM sM_112 := sx_chkM_ok s_okCl s_okDf s_hexA sK_112 sC_112
theorem sO_113 : s_okM sM_113 := sx_chkM_ok s_okCl s_okDf s_hexA sK_113 sC_113
theorem sO_114 : s_okM sM_114 := sx_chkM_ok s_okCl s_okDf s_hexA sK_114 sC_114
theorem sO_115 : s_okM sM_115 := sx_chkM_ok s_okCl s_okDf s_hexA sK_115 sC_115
theorem sO_116 : s_okM sM_116 := sx_chkM_ok s_okCl s_okDf s_hexA sK_116 sC_116
theorem sO_117 : s_okM sM_117 := sx_chkM_ok s_okCl s_okDf s_hexA sK_117 sC_117
theorem sO_118 : s_okM sM_118 := sx_chkM_ok s_okCl s_okDf s_hexA sK_118 sC_118
theorem sO_119 : s_okM sM_119 := sx_chkM_ok s_okCl s_okDf s_hexA sK_119 sC_119
theorem sO_120 : s_okM sM_120 := sx_chkM_ok s_okCl s_okDf s_hexA sK_120 sC_120
theorem sO_121 : s_okM sM_121 := sx_chkM_ok s_okCl s_okDf s_hexA sK_121 sC_121
theorem sO_122 : s_okM sM_122 := sx_chkM_ok s_okCl s_okDf s_hexA sK_122 sC_122
theorem sO_123 : s_okM sM_123 := sx_chkM_ok s_okCl s_okDf s_hexA sK_123 sC_123
theorem sO_124 : s_okM sM_124 := sx_chkM_ok s_okCl s_okDf s_hexA sK_124 sC_124
theorem sO_125 : s_okM sM_125 := sx_chkM_ok s_okCl s_okDf s_hexA sK_125 sC_125
theorem sO_126 : s_okM sM_126 := sx_chkM_ok s_okCl s_okDf s_hexA sK_126 sC_126
theorem sO_127 : s_okM sM_127 := sx_chkM_ok s_okCl s_okDf s_hexA sK_127 sC_127
theorem sO_128 : s_okM sM_128 := sx_chkM_ok s_okCl s_okDf s_hexA sK_128 sC_128
theorem sO_129 : s_okM sM_129 := sx_chkM_ok s_okCl s_okDf s_hexA sK_129 sC_129
theorem sO_130 : s_okM sM_130 := sx_chkM_ok s_okCl s_okDf s_hexA sK_130 sC_130
theorem sO_131 : s_okM sM_131 := sx_chkM_ok s_okCl s_okDf s_hexA sK_131 sC_131
theorem sO_132 : s_okM sM_132 := sx_chkM_ok s_okCl s_okDf s_hexA sK_132 sC_132
theorem sO_133 : s_okM sM_133 := sx_chkM_ok s_okCl s_okDf s_hexA sK_133 sC_133
theorem sO_134 : s_okM sM_134 := sx_chkM_ok s_okCl s_okDf s_hexA sK_134 sC_134
theorem sO_135 : s_okM sM_135 := sx_chkM_ok s_okCl s_okDf s_hexA sK_135 sC_135
theorem sO_136 : s_okM sM_136 := sx_chkM_ok s_okCl s_okDf s_hexA sK_136 sC_136
theorem sO_137 : s_okM sM_137 := sx_chkM_ok s_okCl s_okDf s_hexA sK_137 sC_137
theorem sO_138 : s_okM sM_138 := sx_chkM_ok s_okCl s_okDf s_hexA sK_138 sC_138
theorem sO_139 : s_okM sM_139 := sx_chkM_ok s_okCl s_okDf s_hexA sK_139 sC_139
theorem sO_140 : s_okM sM_140 := sx_chkM_ok s_okCl s_okDf s_hexA sK_140 sC_140
theorem sO_141 : s_okM sM_141 := sx_chkM_ok s_okCl s_okDf s_hexA sK_141 sC_141
theorem sO_142 : s_okM sM_142 := sx_chkM_ok s_okCl s_okDf s_hexA sK_142 sC_142
theorem sO_143 : s_okM sM_143 := sx_chkM_ok s_okCl s_okDf s_hexA sK_143 sC_143
theorem sO_144 : s_okM sM_144 := sx_chkM_ok s_okCl s_okDf s_hexA sK_144 sC_144
theorem sO_145 : s_okM sM_145 := sx_chkM_ok s_okCl s_okDf s_hexA sK_145 sC_145
theorem sO_146 : s_okM sM_146 := sx_chkM_ok s_okCl s_okDf s_hexA sK_146 sC_146
theorem sO_147 : s_okM sM_147 := sx_chkM_ok s_okCl s_okDf s_hexA sK_147 sC_147
theorem sO_148 : s_okM sM_148 := sx_chkM_ok s_okCl s_okDf s_hexA sK_148 sC_148
theorem sO_149 : s_okM sM_149 := sx_chkM_ok s_okCl s_okDf s_hexA sK_149 sC_149
theorem sO_150 : s_okM sM_150 := sx_chkM_ok s_okCl s_okDf s_hexA sK_150 sC_150
theorem sO_151 : s_okM sM_151 := sx_chkM_ok s_okCl s_okDf s_hexA sK_151 sC_151
theorem sO_152 : s_okM sM_152 := sx_chkM_ok s_okCl s_okDf s_hexA sK_152 sC_152
theorem sO_153 : s_okM sM_153 := sx_chkM_ok s_okCl s_okDf s_hexA sK_153 sC_153
theorem sO_154 : s_okM sM_154 := sx_chkM_ok s_okCl s_okDf s_hexA sK_154 sC_154
theorem sO_155 : s_okM sM_155 := sx_chkM_ok s_okCl s_okDf s_hexA sK_155 sC_155
theorem sO_156 : s_okM sM_156 := sx_chkM_ok s_okCl s_okDf s_hexA sK_156 sC_156
theorem sO_157 : s_okM sM_157 := sx_chkM_ok s_okCl s_okDf s_hexA sK_157 sC_157
theorem sO_158 : s_okM sM_158 := sx_chkM_ok s_okCl s_okDf s_hexA sK_158 sC_158
theorem sO_159 : s_okM sM_159 := sx_chkM_ok s_okCl s_okDf s_hexA sK_159 sC_159
theorem sO_160 : s_okM sM_160 := sx_chkM_ok s_okCl s_okDf s_hexA sK_160 sC_160
theorem sO_161 : s_okM sM_161 := sx_chkM_ok s_okCl s_okDf s_hexA sK_161 sC_161
theorem sO_162 : s_okM sM_162 := sx_chkM_ok s_okCl s_okDf s_hexA sK_162 sC_162
theorem sO_163 : s_okM sM_163 := sx_chkM_ok s_okCl s_okDf s_hexA sK_163 sC_163
theorem sO_164 : s_okM sM_164 := sx_chkM_ok s_okCl s_okDf s_hexA sK_164 sC_164
theorem sO_165 : s_okM sM_165 := sx_chkM_ok s_okCl s_okDf s_hexA sK_165 sC_165
theorem sO_law : s_okM sM_law := sx_chkM_ok s_okCl s_okDf s_hexA sK_law sC_law
theorem s_hmt : ∀ k M, s_mt k = some M → s_okM M := by
  have h : ∀ M ∈ s_mts, s_okM M := by
    unfold s_mts
    refine List.forall_mem_cons.mpr ⟨sO_0, ?_⟩
    refine List.forall_mem_cons.mpr ⟨sO_1, ?_⟩
    refine List.forall_mem_cons.mpr ⟨sO_2, ?_⟩
    refine List.forall_mem_cons.mpr ⟨sO_3, ?_⟩
    refine List.forall_mem_cons.mpr ⟨sO_4, ?_⟩
    refine List.forall_mem_cons.mpr ⟨sO_5, ?_⟩
    refine List.forall_mem_cons.mpr ⟨sO_6, ?_⟩
    refine List.forall_mem_cons.mpr ⟨sO_7, ?_⟩
    refine List.forall_mem_cons.mpr ⟨sO_8, ?_⟩
    refine List.forall_mem_cons.mpr ⟨sO_9, ?_⟩
    refine List.forall_mem_cons.mpr ⟨sO_10, ?_⟩
    refine List.forall_mem_cons.mpr ⟨sO_11, ?_⟩
    refine List.forall_mem_cons.mpr ⟨sO_12, ?_⟩
    refine List.forall_mem_cons.mpr ⟨sO_13, ?_⟩
    refine List.forall_mem_cons.mpr ⟨sO_14, ?_⟩
    refine List.forall_mem_cons.mpr ⟨sO_15, ?_⟩
    refine List.forall_mem_cons.mpr ⟨sO_16, ?_⟩
    refine List.forall_mem_cons.mpr ⟨sO_17, ?_⟩
    refine List.forall_mem_cons.mpr ⟨sO_18, ?_⟩
    refine List.forall_mem_cons.mpr ⟨sO_19, ?_⟩
    refine List.forall_mem_cons.mpr ⟨sO_20, ?_⟩
    refine List.forall_mem_cons.mpr ⟨sO_21, ?_⟩
    refine List.forall_mem_cons.mpr ⟨sO_22, ?_⟩
    refine List.forall_mem_cons.mpr ⟨sO_23, ?_⟩
    refine List.forall_mem_cons.mpr ⟨sO_24, ?_⟩
    refine List.forall_mem_cons.mpr ⟨sO_25, ?_⟩
    refine List.forall_mem_cons.mpr ⟨sO_26, ?_⟩
    refine List.forall_mem_cons.mpr ⟨sO_27, ?_⟩
    refine List.forall_mem_cons.mpr ⟨sO_28, ?_⟩
    refine List.forall_mem_cons.mpr ⟨sO_29, ?_⟩
    refine List.forall_mem_cons.mpr ⟨sO_30, ?_⟩
    refine List.forall_mem_cons.mpr ⟨sO_31, ?_⟩
    refine List.forall_mem_cons.mpr ⟨sO_32, ?_⟩
    refine List.forall_mem_cons.mpr ⟨sO_33, ?_⟩
    refine List.forall_mem_cons.mpr ⟨sO_34, ?_⟩
    refine List.forall_mem_cons.mpr ⟨sO_35, ?_⟩
    refine List.forall_mem_cons.mpr ⟨sO_36, ?_⟩
    refine List.forall_mem_cons.mpr ⟨sO_37, ?_⟩
    refine List.forall_mem_cons.mpr ⟨sO_38, ?_⟩
    refine List.forall_mem_cons.mpr ⟨sO_39, ?_⟩
    refine List.forall_mem_cons.mpr ⟨sO_40, ?_⟩
    refine List.forall_mem_cons.mpr ⟨sO_41, ?_⟩
    refine List.forall_mem_cons.mpr ⟨sO_42, ?_⟩
    refine List.forall_mem_cons.mpr ⟨sO_43, ?_⟩
    refine List.forall_mem_cons.mpr ⟨sO_44, ?_⟩
    refine List.forall_mem_cons.mpr ⟨sO_45, ?_⟩
    refine List.forall_mem_cons.mpr ⟨sO_46, ?_⟩
    refine List.forall_mem_cons.mpr ⟨sO_47, ?_⟩
    refine List.forall_mem_cons.mpr ⟨sO_48, ?_⟩
    refine List.forall_mem_cons.mpr ⟨sO_49, ?_⟩
    refine List.forall_mem_cons.mpr ⟨sO_50, ?_⟩
    refine List.forall_mem_cons.mpr ⟨sO_51, ?_⟩
    refine List.forall_mem_cons.mpr ⟨sO_52, ?_⟩
    refine List.forall_mem_cons.mpr ⟨sO_53, ?_⟩
    refine List.forall_mem_cons.mpr ⟨sO_54, ?_⟩
    refine List.forall_mem_cons.mpr ⟨sO_55, ?_⟩
    refine List.forall_mem_cons.mpr ⟨sO_56, ?_⟩
    refine List.forall_mem_cons.mpr ⟨sO_57, ?_⟩
    refine List.forall_mem_cons.mpr ⟨sO_58, ?_⟩
    refine List.forall_mem_cons.mpr ⟨sO_59, ?_⟩
    refine List.forall_mem_cons.mpr ⟨sO_60, ?_⟩
    refine List.forall_mem_cons.mpr ⟨sO_61, ?_⟩
    refine List.forall_mem_cons.mpr ⟨sO_62, ?_⟩
    refine List.forall_mem_cons.mpr ⟨sO_63, ?_⟩
    refine List.forall_mem_cons.mpr ⟨sO_64, ?_⟩
    refine List.forall_mem_cons.mpr ⟨sO_65, ?_⟩
    refine List.forall_mem_cons.mpr ⟨sO_66, ?_⟩
    refine List.forall_mem_cons.mpr ⟨sO_67, ?_⟩
    refine List.forall_mem_cons.mpr ⟨sO_68, ?_⟩
    refine List.forall_mem_cons.mpr ⟨sO_69, ?_⟩
    refine List.forall_mem_cons.mpr ⟨sO_70, ?_⟩
    refine List.forall_mem_cons.mpr ⟨sO_71, ?_⟩
    refine List.forall_mem_cons.mpr ⟨sO_72, ?_⟩
    refine List.forall_mem_cons.mpr ⟨sO_73, ?_⟩
    refine List.forall_mem_cons.mpr ⟨sO_74, ?_⟩
    refine List.forall_mem_cons.mpr ⟨sO_75, ?_⟩
    refine List.forall_mem_cons.mpr ⟨sO_76, ?_⟩
    refine List.forall_mem_cons.mpr ⟨sO_77, ?_⟩
    refine List.forall_mem_cons.mpr ⟨sO_78, ?_⟩
    refine List.forall_mem_cons.mpr ⟨sO_79, ?_⟩
    refine List.forall_mem_cons.mpr ⟨sO_80, ?_⟩
    refine List.forall_mem_cons.mpr ⟨sO_81, ?_⟩
    refine List.forall_mem_cons.mpr ⟨sO_82, ?_⟩
    refine List.forall_mem_cons.mpr ⟨sO_83, ?_⟩
    refine List.forall_mem_cons.mpr ⟨sO_84, ?_⟩
    refine List.forall_mem_cons.mpr ⟨sO_85, ?_⟩
    refine List.forall_mem_cons.mpr ⟨sO_86, ?_⟩
    refine List.forall_mem_cons.mpr ⟨sO_87, ?_⟩
    refine List.forall_mem_cons.mpr ⟨sO_88, ?_⟩
    refine List.forall_mem_cons.mpr ⟨sO_89, ?_⟩
    refine List.forall_mem_cons.mpr ⟨sO_90, ?_⟩
    refine List.forall_mem_cons.mpr ⟨sO_91, ?_⟩
    refine List.forall_mem_cons.mpr ⟨sO_92, ?_⟩
    refine List.forall_mem_cons.mpr ⟨sO_93, ?_⟩
    refine List.forall_mem_cons.mpr ⟨sO_94, ?_⟩
    refine List.forall_mem_cons.mpr ⟨sO_95, ?_⟩
    refine List.forall_mem_cons.mpr ⟨sO_96, ?_⟩
    refine List.forall_mem_cons.mpr ⟨sO_97, ?_⟩
    refine List.forall_mem_cons.mpr ⟨sO_98, ?_⟩
    refine List.forall_mem_cons.mpr ⟨sO_99, ?_⟩
    refine List.forall_mem_cons.mpr ⟨sO_100, ?_⟩
    refine List.forall_mem_cons.mpr ⟨sO_101, ?_⟩
    refine List.forall_mem_cons.mpr ⟨sO_102, ?_⟩
    refine List.forall_mem_cons.mpr ⟨sO_103, ?_⟩
    refine List.forall_mem_cons.mpr ⟨sO_104, ?_⟩
    refine List.forall_mem_cons.mpr ⟨sO_105, ?_⟩
    refine List.forall_mem_cons.mpr ⟨sO_106, ?_⟩
    refine List.forall_mem_cons.mpr ⟨sO_107, ?_⟩
    refine List.forall_mem_cons.mpr ⟨sO_108, ?_⟩
    refine List.forall_mem_cons.mpr ⟨sO_109, ?_⟩
    refine List.forall_mem_cons.mpr ⟨sO_110, ?_⟩
    refine List.forall_mem_cons.mpr ⟨sO_111, ?_⟩
    refine List.forall_mem_cons.mpr ⟨sO_112, ?_⟩
    refine List.forall_mem_cons.mpr ⟨sO_113, ?_⟩
    refine List.forall_mem_cons.mpr ⟨sO_114, ?_⟩
    refine List.forall_mem_cons.mpr ⟨sO_115, ?_⟩
    refine List.forall_mem_cons.mpr ⟨sO_116, ?_⟩
    refine List.forall_mem_cons.mpr ⟨sO_117, ?_⟩
    refine List.forall_mem_cons.mpr ⟨sO_118, ?_⟩
    refine List.forall_mem_cons.mpr ⟨sO_119, ?_⟩
    refine List.forall_mem_cons.mpr ⟨sO_120, ?_⟩
    refine List.forall_mem_cons.mpr ⟨sO_121, ?_⟩
    refine List.forall_mem_cons.mpr ⟨sO_122, ?_⟩
    refine List.forall_mem_cons.mpr ⟨sO_123, ?_⟩
    refine List.forall_mem_cons.mpr ⟨sO_124, ?_⟩
    refine List.forall_mem_cons.mpr ⟨sO_125, ?_⟩
    refine List.forall_mem_cons.mpr ⟨sO_126, ?_⟩
    refine List.forall_mem_cons.mpr ⟨sO_127, ?_⟩
    refine List.forall_mem_cons.mpr ⟨sO_128, ?_⟩
    refine List.forall_mem_cons.mpr ⟨sO_129, ?_⟩
    refine List.forall_mem_cons.mpr ⟨sO_130, ?_⟩
    refine List.forall_mem_cons.mpr ⟨sO_131, ?_⟩
    refine List.forall_mem_cons.mpr ⟨sO_132, ?_⟩
    refine List.forall_mem_cons.mpr ⟨sO_133, ?_⟩
    refine List.forall_mem_cons.mpr ⟨sO_134, ?_⟩
    refine List.forall_mem_cons.mpr ⟨sO_135, ?_⟩
    refine List.forall_mem_cons.mpr ⟨sO_136, ?_⟩
    refine List.forall_mem_cons.mpr ⟨sO_137, ?_⟩
    refine List.forall_mem_cons.mpr ⟨sO_138, ?_⟩
    refine List.forall_mem_cons.mpr ⟨sO_139, ?_⟩
    refine List.forall_mem_cons.mpr ⟨sO_140, ?_⟩
    refine List.forall_mem_cons.mpr ⟨sO_141, ?_⟩
    refine List.forall_mem_cons.mpr ⟨sO_142, ?_⟩
    refine List.forall_mem_cons.mpr ⟨sO_143, ?_⟩
    refine List.forall_mem_cons.mpr ⟨sO_144, ?_⟩
    refine List.forall_mem_cons.mpr ⟨sO_145, ?_⟩
    refine List.forall_mem_cons.mpr ⟨sO_146, ?_⟩
    refine List.forall_mem_cons.mpr ⟨sO_147, ?_⟩
    refine List.forall_mem_cons.mpr ⟨sO_148, ?_⟩
    refine List.forall_mem_cons.mpr ⟨sO_149, ?_⟩
    refine List.forall_mem_cons.mpr ⟨sO_150, ?_⟩
    refine List.forall_mem_cons.mpr ⟨sO_151, ?_⟩
    refine List.forall_mem_cons.mpr ⟨sO_152, ?_⟩
    refine List.forall_mem_cons.mpr ⟨sO_153, ?_⟩
    refine List.forall_mem_cons.mpr ⟨sO_154, ?_⟩
    refine List.forall_mem_cons.mpr ⟨sO_155, ?_⟩
    refine List.forall_mem_cons.mpr ⟨sO_156, ?_⟩
    refine List.forall_mem_cons.mpr ⟨sO_157, ?_⟩
    refine List.forall_mem_cons.mpr ⟨sO_158, ?_⟩
    refine List.forall_mem_cons.mpr ⟨sO_159, ?_⟩
    refine List.forall_mem_cons.mpr ⟨sO_160, ?_⟩
    refine List.forall_mem_cons.mpr ⟨sO_161, ?_⟩
    refine List.forall_mem_cons.mpr ⟨sO_162, ?_⟩
    refine List.forall_mem_cons.mpr ⟨sO_163, ?_⟩
    refine List.forall_mem_cons.mpr ⟨sO_164, ?_⟩
    refine List.forall_mem_cons.mpr ⟨sO_165, ?_⟩
    exact fun M h => absurd h (List.not_mem_nil)
  exact fun k M hk => h M (List.mem_of_getElem? hk)
def s_cst (k t : Nat) : Bool := match k with
  | 0 => decide (4 ≤ t)
  | ci + 1 => if t = 4 then decide (ci ≤ 12) else decide ((ci, t) ∈ [(6, 5), (10, 6), (11, 7), (7, 8)])
theorem s_cst0 : ∀ t, s_cst 0 t = true → ∃ E, s_tf t = .object E := by
  intro t h
  have h : 4 ≤ t := of_decide_eq_true h
  match t, h with
  | 4, _ => exact ⟨_, rfl⟩
  | 5, _ => exact ⟨_, rfl⟩
  | 6, _ => exact ⟨_, rfl⟩
  | 7, _ => exact ⟨_, rfl⟩
  | t + 8, _ => exact ⟨_, rfl⟩
theorem s_cst1 : ∀ ci t, s_cst (ci + 1) t = true → ∃ (r : vw_C) (E : String), s_cl[ci]? = some r ∧ s_tf t = .object E ∧ (r.1 = E ∨ Cond.castable r.1 E ∈ sx_xw) := by
  have hO : (List.range 13).all (fun ci => match s_cl[ci]? with
    | some r => sx_inX (.castable r.1 "java/lang/Object")
    | none => false) = true := by decide +kernel
  intro ci t h
  unfold s_cst at h
  split at h
  · rename_i ht
    subst ht
    have hc : ci ≤ 12 := of_decide_eq_true h
    have h1 := List.all_eq_true.mp hO ci (List.mem_range.mpr (by omega))
    cases hr : s_cl[ci]? with
    | none => rw [hr] at h1; cases h1
    | some r =>
      rw [hr] at h1
      exact ⟨r, _, rfl, rfl, Or.inr (sx_inX_ok h1)⟩
  · have h := of_decide_eq_true h
    simp only [List.mem_cons, List.not_mem_nil, or_false, Prod.mk.injEq] at h
    rcases h with ⟨rfl, rfl⟩ | ⟨rfl, rfl⟩ | ⟨rfl, rfl⟩ | ⟨rfl, rfl⟩
    · exact ⟨_, _, rfl, rfl, Or.inl rfl⟩
    · exact ⟨_, _, rfl, rfl, Or.inl rfl⟩
    · exact ⟨_, _, rfl, rfl, Or.inl rfl⟩
    · exact ⟨_, _, rfl, rfl, Or.inl rfl⟩
