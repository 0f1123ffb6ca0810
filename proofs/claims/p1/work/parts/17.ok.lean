/-! THE METHODS ARE AS THE MACHINE ASKS (by program: wip/sx/gen_ok.py) -/
theorem s_hexA : ∀ (j : Nat) (X : String), s_ex[j]? = some X → ∀ w ∈ sx_exA X (s_exn j), w ∈ sx_tw ∨ w ∈ sx_xw ∨ w ∈ sx_ew := by
  have h : s_ex.all (fun X => (sx_exA X (s_exn 0)).all (fun w => sx_inT w || sx_inX w || decide (w ∈ sx_ew))) = true := by decide +kernel
  intro j X hX w hw
  have h1 := List.all_eq_true.mp (List.all_eq_true.mp h X (List.mem_of_getElem? hX)) w hw
  simp only [Bool.or_eq_true, decide_eq_true_eq] at h1
  rcases h1 with (h1 | h1) | h1
  · exact Or.inl (sx_inT_ok h1)
  · exact Or.inr (Or.inl (sx_inX_ok h1))
  · exact Or.inr (Or.inr h1)
abbrev s_okM (M : sx_M) : Prop := sx_okM sx_tw sx_xw s_cl s_ft s_df s_tf s_nt s_zs s_ks s_mt 80 s_ex s_nc M
theorem sW_0 : s_okM sM_0 := sx_chkM_ok s_okCl s_okDf s_hexA sK_0 sC_0
theorem sW_1 : s_okM sM_1 := sx_chkM_ok s_okCl s_okDf s_hexA sK_1 sC_1
theorem sW_2 : s_okM sM_2 := sx_chkM_ok s_okCl s_okDf s_hexA sK_2 sC_2
theorem sW_3 : s_okM sM_3 := sx_chkM_ok s_okCl s_okDf s_hexA sK_3 sC_3
theorem sW_4 : s_okM sM_4 := sx_chkM_ok s_okCl s_okDf s_hexA sK_4 sC_4
theorem sW_5 : s_okM sM_5 := sx_chkM_ok s_okCl s_okDf s_hexA sK_5 sC_5
theorem sW_6 : s_okM sM_6 := sx_chkM_ok s_okCl s_okDf s_hexA sK_6 sC_6
theorem sW_7 : s_okM sM_7 := sx_chkM_ok s_okCl s_okDf s_hexA sK_7 sC_7
theorem sW_8 : s_okM sM_8 := sx_chkM_ok s_okCl s_okDf s_hexA sK_8 sC_8
theorem sW_9 : s_okM sM_9 := sx_chkM_ok s_okCl s_okDf s_hexA sK_9 sC_9
theorem sW_10 : s_okM sM_10 := sx_chkM_ok s_okCl s_okDf s_hexA sK_10 sC_10
theorem sW_11 : s_okM sM_11 := sx_chkM_ok s_okCl s_okDf s_hexA sK_11 sC_11
theorem sW_12 : s_okM sM_12 := sx_chkM_ok s_okCl s_okDf s_hexA sK_12 sC_12
theorem sW_13 : s_okM sM_13 := sx_chkM_ok s_okCl s_okDf s_hexA sK_13 sC_13
theorem sW_14 : s_okM sM_14 := sx_chkM_ok s_okCl s_okDf s_hexA sK_14 sC_14
theorem sW_15 : s_okM sM_15 := sx_chkM_ok s_okCl s_okDf s_hexA sK_15 sC_15
theorem sW_16 : s_okM sM_16 := sx_chkM_ok s_okCl s_okDf s_hexA sK_16 sC_16
theorem sW_17 : s_okM sM_17 := sx_chkM_ok s_okCl s_okDf s_hexA sK_17 sC_17
theorem sW_18 : s_okM sM_18 := sx_chkM_ok s_okCl s_okDf s_hexA sK_18 sC_18
theorem sW_19 : s_okM sM_19 := sx_chkM_ok s_okCl s_okDf s_hexA sK_19 sC_19
theorem sW_20 : s_okM sM_20 := sx_chkM_ok s_okCl s_okDf s_hexA sK_20 sC_20
theorem sW_21 : s_okM sM_21 := sx_chkM_ok s_okCl s_okDf s_hexA sK_21 sC_21
theorem sW_22 : s_okM sM_22 := sx_chkM_ok s_okCl s_okDf s_hexA sK_22 sC_22
theorem sW_23 : s_okM sM_23 := sx_chkM_ok s_okCl s_okDf s_hexA sK_23 sC_23
theorem sW_24 : s_okM sM_24 := sx_chkM_ok s_okCl s_okDf s_hexA sK_24 sC_24
theorem sW_25 : s_okM sM_25 := sx_chkM_ok s_okCl s_okDf s_hexA sK_25 sC_25
theorem sW_26 : s_okM sM_26 := sx_chkM_ok s_okCl s_okDf s_hexA sK_26 sC_26
theorem sW_27 : s_okM sM_27 := sx_chkM_ok s_okCl s_okDf s_hexA sK_27 sC_27
theorem sW_28 : s_okM sM_28 := sx_chkM_ok s_okCl s_okDf s_hexA sK_28 sC_28
theorem sW_30 : s_okM sM_30 := sx_chkM_ok s_okCl s_okDf s_hexA sK_30 sC_30
theorem sW_36 : s_okM sM_36 := sx_chkM_ok s_okCl s_okDf s_hexA sK_36 sC_36
theorem sW_39 : s_okM sM_39 := sx_chkM_ok s_okCl s_okDf s_hexA sK_39 sC_39
theorem sW_42 : s_okM sM_42 := sx_chkM_ok s_okCl s_okDf s_hexA sK_42 sC_42
theorem sW_43 : s_okM sM_43 := sx_chkM_ok s_okCl s_okDf s_hexA sK_43 sC_43
theorem sW_44 : s_okM sM_44 := sx_chkM_ok s_okCl s_okDf s_hexA sK_44 sC_44
theorem sW_45 : s_okM sM_45 := sx_chkM_ok s_okCl s_okDf s_hexA sK_45 sC_45
theorem sW_46 : s_okM sM_46 := sx_chkM_ok s_okCl s_okDf s_hexA sK_46 sC_46
theorem sW_47 : s_okM sM_47 := sx_chkM_ok s_okCl s_okDf s_hexA sK_47 sC_47
theorem sW_66 : s_okM sM_66 := sx_chkM_ok s_okCl s_okDf s_hexA sK_66 sC_66
theorem sW_67 : s_okM sM_67 := sx_chkM_ok s_okCl s_okDf s_hexA sK_67 sC_67
theorem sW_101 : s_okM sM_101 := sx_chkM_ok s_okCl s_okDf s_hexA sK_101 sC_101
theorem sW_102 : s_okM sM_102 := sx_chkM_ok s_okCl s_okDf s_hexA sK_102 sC_102
theorem sW_103 : s_okM sM_103 := sx_chkM_ok s_okCl s_okDf s_hexA sK_103 sC_103
theorem sW_105 : s_okM sM_105 := sx_chkM_ok s_okCl s_okDf s_hexA sK_105 sC_105
theorem sW_106 : s_okM sM_106 := sx_chkM_ok s_okCl s_okDf s_hexA sK_106 sC_106
theorem sW_108 : s_okM sM_108 := sx_chkM_ok s_okCl s_okDf s_hexA sK_108 sC_108
theorem sW_109 : s_okM sM_109 := sx_chkM_ok s_okCl s_okDf s_hexA sK_109 sC_109
theorem sW_110 : s_okM sM_110 := sx_chkM_ok s_okCl s_okDf s_hexA sK_110 sC_110
theorem sW_111 : s_okM sM_111 := sx_chkM_ok s_okCl s_okDf s_hexA sK_111 sC_111
theorem sW_112 : s_okM sM_112 := sx_chkM_ok s_okCl s_okDf s_hexA sK_112 sC_112
theorem sW_113 : s_okM sM_113 := sx_chkM_ok s_okCl s_okDf s_hexA sK_113 sC_113
theorem sW_114 : s_okM sM_114 := sx_chkM_ok s_okCl s_okDf s_hexA sK_114 sC_114
theorem sW_115 : s_okM sM_115 := sx_chkM_ok s_okCl s_okDf s_hexA sK_115 sC_115
theorem sW_116 : s_okM sM_116 := sx_chkM_ok s_okCl s_okDf s_hexA sK_116 sC_116
theorem sW_117 : s_okM sM_117 := sx_chkM_ok s_okCl s_okDf s_hexA sK_117 sC_117
theorem sW_119 : s_okM sM_119 := sx_chkM_ok s_okCl s_okDf s_hexA sK_119 sC_119
theorem sW_120 : s_okM sM_120 := sx_chkM_ok s_okCl s_okDf s_hexA sK_120 sC_120
theorem sW_121 : s_okM sM_121 := sx_chkM_ok s_okCl s_okDf s_hexA sK_121 sC_121
theorem sW_133 : s_okM sM_133 := sx_chkM_ok s_okCl s_okDf s_hexA sK_133 sC_133
theorem sW_154 : s_okM sM_154 := sx_chkM_ok s_okCl s_okDf s_hexA sK_154 sC_154
theorem sW_158 : s_okM sM_158 := sx_chkM_ok s_okCl s_okDf s_hexA sK_158 sC_158
theorem sW_159 : s_okM sM_159 := sx_chkM_ok s_okCl s_okDf s_hexA sK_159 sC_159
theorem sW_160 : s_okM sM_160 := sx_chkM_ok s_okCl s_okDf s_hexA sK_160 sC_160
theorem sW_161 : s_okM sM_161 := sx_chkM_ok s_okCl s_okDf s_hexA sK_161 sC_161
theorem sW_162 : s_okM sM_162 := sx_chkM_ok s_okCl s_okDf s_hexA sK_162 sC_162
theorem sW_163 : s_okM sM_163 := sx_chkM_ok s_okCl s_okDf s_hexA sK_163 sC_163
theorem sW_164 : s_okM sM_164 := sx_chkM_ok s_okCl s_okDf s_hexA sK_164 sC_164
theorem sW_165 : s_okM sM_165 := sx_chkM_ok s_okCl s_okDf s_hexA sK_165 sC_165
theorem sW_law : s_okM sM_law := sx_chkM_ok s_okCl s_okDf s_hexA sK_law sC_law
theorem s_hmt : ∀ k M, s_mt k = some M → s_okM M := by
  have h : ∀ q ∈ s_mts, ∀ M, q = some M → s_okM M := by
    unfold s_mts
    refine List.forall_mem_cons.mpr ⟨fun M h => (by cases h; exact sW_0), ?_⟩
    refine List.forall_mem_cons.mpr ⟨fun M h => (by cases h; exact sW_1), ?_⟩
    refine List.forall_mem_cons.mpr ⟨fun M h => (by cases h; exact sW_2), ?_⟩
    refine List.forall_mem_cons.mpr ⟨fun M h => (by cases h; exact sW_3), ?_⟩
    refine List.forall_mem_cons.mpr ⟨fun M h => (by cases h; exact sW_4), ?_⟩
    refine List.forall_mem_cons.mpr ⟨fun M h => (by cases h; exact sW_5), ?_⟩
    refine List.forall_mem_cons.mpr ⟨fun M h => (by cases h; exact sW_6), ?_⟩
    refine List.forall_mem_cons.mpr ⟨fun M h => (by cases h; exact sW_7), ?_⟩
    refine List.forall_mem_cons.mpr ⟨fun M h => (by cases h; exact sW_8), ?_⟩
    refine List.forall_mem_cons.mpr ⟨fun M h => (by cases h; exact sW_9), ?_⟩
    refine List.forall_mem_cons.mpr ⟨fun M h => (by cases h; exact sW_10), ?_⟩
    refine List.forall_mem_cons.mpr ⟨fun M h => (by cases h; exact sW_11), ?_⟩
    refine List.forall_mem_cons.mpr ⟨fun M h => (by cases h; exact sW_12), ?_⟩
    refine List.forall_mem_cons.mpr ⟨fun M h => (by cases h; exact sW_13), ?_⟩
    refine List.forall_mem_cons.mpr ⟨fun M h => (by cases h; exact sW_14), ?_⟩
    refine List.forall_mem_cons.mpr ⟨fun M h => (by cases h; exact sW_15), ?_⟩
    refine List.forall_mem_cons.mpr ⟨fun M h => (by cases h; exact sW_16), ?_⟩
    refine List.forall_mem_cons.mpr ⟨fun M h => (by cases h; exact sW_17), ?_⟩
    refine List.forall_mem_cons.mpr ⟨fun M h => (by cases h; exact sW_18), ?_⟩
    refine List.forall_mem_cons.mpr ⟨fun M h => (by cases h; exact sW_19), ?_⟩
    refine List.forall_mem_cons.mpr ⟨fun M h => (by cases h; exact sW_20), ?_⟩
    refine List.forall_mem_cons.mpr ⟨fun M h => (by cases h; exact sW_21), ?_⟩
    refine List.forall_mem_cons.mpr ⟨fun M h => (by cases h; exact sW_22), ?_⟩
    refine List.forall_mem_cons.mpr ⟨fun M h => (by cases h; exact sW_23), ?_⟩
    refine List.forall_mem_cons.mpr ⟨fun M h => (by cases h; exact sW_24), ?_⟩
    refine List.forall_mem_cons.mpr ⟨fun M h => (by cases h; exact sW_25), ?_⟩
    refine List.forall_mem_cons.mpr ⟨fun M h => (by cases h; exact sW_26), ?_⟩
    refine List.forall_mem_cons.mpr ⟨fun M h => (by cases h; exact sW_27), ?_⟩
    refine List.forall_mem_cons.mpr ⟨fun M h => (by cases h; exact sW_28), ?_⟩
    refine List.forall_mem_cons.mpr ⟨fun M h => (by cases h), ?_⟩
    refine List.forall_mem_cons.mpr ⟨fun M h => (by cases h; exact sW_30), ?_⟩
    refine List.forall_mem_cons.mpr ⟨fun M h => (by cases h), ?_⟩
    refine List.forall_mem_cons.mpr ⟨fun M h => (by cases h), ?_⟩
    refine List.forall_mem_cons.mpr ⟨fun M h => (by cases h), ?_⟩
    refine List.forall_mem_cons.mpr ⟨fun M h => (by cases h), ?_⟩
    refine List.forall_mem_cons.mpr ⟨fun M h => (by cases h), ?_⟩
    refine List.forall_mem_cons.mpr ⟨fun M h => (by cases h; exact sW_36), ?_⟩
    refine List.forall_mem_cons.mpr ⟨fun M h => (by cases h), ?_⟩
    refine List.forall_mem_cons.mpr ⟨fun M h => (by cases h), ?_⟩
    refine List.forall_mem_cons.mpr ⟨fun M h => (by cases h; exact sW_39), ?_⟩
    refine List.forall_mem_cons.mpr ⟨fun M h => (by cases h), ?_⟩
    refine List.forall_mem_cons.mpr ⟨fun M h => (by cases h), ?_⟩
    refine List.forall_mem_cons.mpr ⟨fun M h => (by cases h; exact sW_42), ?_⟩
    refine List.forall_mem_cons.mpr ⟨fun M h => (by cases h; exact sW_43), ?_⟩
    refine List.forall_mem_cons.mpr ⟨fun M h => (by cases h; exact sW_44), ?_⟩
    refine List.forall_mem_cons.mpr ⟨fun M h => (by cases h; exact sW_45), ?_⟩
    refine List.forall_mem_cons.mpr ⟨fun M h => (by cases h; exact sW_46), ?_⟩
    refine List.forall_mem_cons.mpr ⟨fun M h => (by cases h; exact sW_47), ?_⟩
    refine List.forall_mem_cons.mpr ⟨fun M h => (by cases h), ?_⟩
    refine List.forall_mem_cons.mpr ⟨fun M h => (by cases h), ?_⟩
    refine List.forall_mem_cons.mpr ⟨fun M h => (by cases h), ?_⟩
    refine List.forall_mem_cons.mpr ⟨fun M h => (by cases h), ?_⟩
    refine List.forall_mem_cons.mpr ⟨fun M h => (by cases h), ?_⟩
    refine List.forall_mem_cons.mpr ⟨fun M h => (by cases h), ?_⟩
    refine List.forall_mem_cons.mpr ⟨fun M h => (by cases h), ?_⟩
    refine List.forall_mem_cons.mpr ⟨fun M h => (by cases h), ?_⟩
    refine List.forall_mem_cons.mpr ⟨fun M h => (by cases h), ?_⟩
    refine List.forall_mem_cons.mpr ⟨fun M h => (by cases h), ?_⟩
    refine List.forall_mem_cons.mpr ⟨fun M h => (by cases h), ?_⟩
    refine List.forall_mem_cons.mpr ⟨fun M h => (by cases h), ?_⟩
    refine List.forall_mem_cons.mpr ⟨fun M h => (by cases h), ?_⟩
    refine List.forall_mem_cons.mpr ⟨fun M h => (by cases h), ?_⟩
    refine List.forall_mem_cons.mpr ⟨fun M h => (by cases h), ?_⟩
    refine List.forall_mem_cons.mpr ⟨fun M h => (by cases h), ?_⟩
    refine List.forall_mem_cons.mpr ⟨fun M h => (by cases h), ?_⟩
    refine List.forall_mem_cons.mpr ⟨fun M h => (by cases h), ?_⟩
    refine List.forall_mem_cons.mpr ⟨fun M h => (by cases h; exact sW_66), ?_⟩
    refine List.forall_mem_cons.mpr ⟨fun M h => (by cases h; exact sW_67), ?_⟩
    refine List.forall_mem_cons.mpr ⟨fun M h => (by cases h), ?_⟩
    refine List.forall_mem_cons.mpr ⟨fun M h => (by cases h), ?_⟩
    refine List.forall_mem_cons.mpr ⟨fun M h => (by cases h), ?_⟩
    refine List.forall_mem_cons.mpr ⟨fun M h => (by cases h), ?_⟩
    refine List.forall_mem_cons.mpr ⟨fun M h => (by cases h), ?_⟩
    refine List.forall_mem_cons.mpr ⟨fun M h => (by cases h), ?_⟩
    refine List.forall_mem_cons.mpr ⟨fun M h => (by cases h), ?_⟩
    refine List.forall_mem_cons.mpr ⟨fun M h => (by cases h), ?_⟩
    refine List.forall_mem_cons.mpr ⟨fun M h => (by cases h), ?_⟩
    refine List.forall_mem_cons.mpr ⟨fun M h => (by cases h), ?_⟩
    refine List.forall_mem_cons.mpr ⟨fun M h => (by cases h), ?_⟩
    refine List.forall_mem_cons.mpr ⟨fun M h => (by cases h), ?_⟩
    refine List.forall_mem_cons.mpr ⟨fun M h => (by cases h), ?_⟩
    refine List.forall_mem_cons.mpr ⟨fun M h => (by cases h), ?_⟩
    refine List.forall_mem_cons.mpr ⟨fun M h => (by cases h), ?_⟩
    refine List.forall_mem_cons.mpr ⟨fun M h => (by cases h), ?_⟩
    refine List.forall_mem_cons.mpr ⟨fun M h => (by cases h), ?_⟩
    refine List.forall_mem_cons.mpr ⟨fun M h => (by cases h), ?_⟩
    refine List.forall_mem_cons.mpr ⟨fun M h => (by cases h), ?_⟩
    refine List.forall_mem_cons.mpr ⟨fun M h => (by cases h), ?_⟩
    refine List.forall_mem_cons.mpr ⟨fun M h => (by cases h), ?_⟩
    refine List.forall_mem_cons.mpr ⟨fun M h => (by cases h), ?_⟩
    refine List.forall_mem_cons.mpr ⟨fun M h => (by cases h), ?_⟩
    refine List.forall_mem_cons.mpr ⟨fun M h => (by cases h), ?_⟩
    refine List.forall_mem_cons.mpr ⟨fun M h => (by cases h), ?_⟩
    refine List.forall_mem_cons.mpr ⟨fun M h => (by cases h), ?_⟩
    refine List.forall_mem_cons.mpr ⟨fun M h => (by cases h), ?_⟩
    refine List.forall_mem_cons.mpr ⟨fun M h => (by cases h), ?_⟩
    refine List.forall_mem_cons.mpr ⟨fun M h => (by cases h), ?_⟩
    refine List.forall_mem_cons.mpr ⟨fun M h => (by cases h), ?_⟩
    refine List.forall_mem_cons.mpr ⟨fun M h => (by cases h), ?_⟩
    refine List.forall_mem_cons.mpr ⟨fun M h => (by cases h), ?_⟩
    refine List.forall_mem_cons.mpr ⟨fun M h => (by cases h), ?_⟩
    refine List.forall_mem_cons.mpr ⟨fun M h => (by cases h; exact sW_101), ?_⟩
    refine List.forall_mem_cons.mpr ⟨fun M h => (by cases h; exact sW_102), ?_⟩
    refine List.forall_mem_cons.mpr ⟨fun M h => (by cases h; exact sW_103), ?_⟩
    refine List.forall_mem_cons.mpr ⟨fun M h => (by cases h), ?_⟩
    refine List.forall_mem_cons.mpr ⟨fun M h => (by cases h; exact sW_105), ?_⟩
    refine List.forall_mem_cons.mpr ⟨fun M h => (by cases h; exact sW_106), ?_⟩
    refine List.forall_mem_cons.mpr ⟨fun M h => (by cases h), ?_⟩
    refine List.forall_mem_cons.mpr ⟨fun M h => (by cases h; exact sW_108), ?_⟩
    refine List.forall_mem_cons.mpr ⟨fun M h => (by cases h; exact sW_109), ?_⟩
    refine List.forall_mem_cons.mpr ⟨fun M h => (by cases h; exact sW_110), ?_⟩
    refine List.forall_mem_cons.mpr ⟨fun M h => (by cases h; exact sW_111), ?_⟩
    refine List.forall_mem_cons.mpr ⟨fun M h => (by cases h; exact sW_112), ?_⟩
    refine List.forall_mem_cons.mpr ⟨fun M h => (by cases h; exact sW_113), ?_⟩
    refine List.forall_mem_cons.mpr ⟨fun M h => (by cases h; exact sW_114), ?_⟩
    refine List.forall_mem_cons.mpr ⟨fun M h => (by cases h; exact sW_115), ?_⟩
    refine List.forall_mem_cons.mpr ⟨fun M h => (by cases h; exact sW_116), ?_⟩
    refine List.forall_mem_cons.mpr ⟨fun M h => (by cases h; exact sW_117), ?_⟩
    refine List.forall_mem_cons.mpr ⟨fun M h => (by cases h), ?_⟩
    refine List.forall_mem_cons.mpr ⟨fun M h => (by cases h; exact sW_119), ?_⟩
    refine List.forall_mem_cons.mpr ⟨fun M h => (by cases h; exact sW_120), ?_⟩
    refine List.forall_mem_cons.mpr ⟨fun M h => (by cases h; exact sW_121), ?_⟩
    refine List.forall_mem_cons.mpr ⟨fun M h => (by cases h), ?_⟩
    refine List.forall_mem_cons.mpr ⟨fun M h => (by cases h), ?_⟩
    refine List.forall_mem_cons.mpr ⟨fun M h => (by cases h), ?_⟩
    refine List.forall_mem_cons.mpr ⟨fun M h => (by cases h), ?_⟩
    refine List.forall_mem_cons.mpr ⟨fun M h => (by cases h), ?_⟩
    refine List.forall_mem_cons.mpr ⟨fun M h => (by cases h), ?_⟩
    refine List.forall_mem_cons.mpr ⟨fun M h => (by cases h), ?_⟩
    refine List.forall_mem_cons.mpr ⟨fun M h => (by cases h), ?_⟩
    refine List.forall_mem_cons.mpr ⟨fun M h => (by cases h), ?_⟩
    refine List.forall_mem_cons.mpr ⟨fun M h => (by cases h), ?_⟩
    refine List.forall_mem_cons.mpr ⟨fun M h => (by cases h), ?_⟩
    refine List.forall_mem_cons.mpr ⟨fun M h => (by cases h; exact sW_133), ?_⟩
    refine List.forall_mem_cons.mpr ⟨fun M h => (by cases h), ?_⟩
    refine List.forall_mem_cons.mpr ⟨fun M h => (by cases h), ?_⟩
    refine List.forall_mem_cons.mpr ⟨fun M h => (by cases h), ?_⟩
    refine List.forall_mem_cons.mpr ⟨fun M h => (by cases h), ?_⟩
    refine List.forall_mem_cons.mpr ⟨fun M h => (by cases h), ?_⟩
    refine List.forall_mem_cons.mpr ⟨fun M h => (by cases h), ?_⟩
    refine List.forall_mem_cons.mpr ⟨fun M h => (by cases h), ?_⟩
    refine List.forall_mem_cons.mpr ⟨fun M h => (by cases h), ?_⟩
    refine List.forall_mem_cons.mpr ⟨fun M h => (by cases h), ?_⟩
    refine List.forall_mem_cons.mpr ⟨fun M h => (by cases h), ?_⟩
    refine List.forall_mem_cons.mpr ⟨fun M h => (by cases h), ?_⟩
    refine List.forall_mem_cons.mpr ⟨fun M h => (by cases h), ?_⟩
    refine List.forall_mem_cons.mpr ⟨fun M h => (by cases h), ?_⟩
    refine List.forall_mem_cons.mpr ⟨fun M h => (by cases h), ?_⟩
    refine List.forall_mem_cons.mpr ⟨fun M h => (by cases h), ?_⟩
    refine List.forall_mem_cons.mpr ⟨fun M h => (by cases h), ?_⟩
    refine List.forall_mem_cons.mpr ⟨fun M h => (by cases h), ?_⟩
    refine List.forall_mem_cons.mpr ⟨fun M h => (by cases h), ?_⟩
    refine List.forall_mem_cons.mpr ⟨fun M h => (by cases h), ?_⟩
    refine List.forall_mem_cons.mpr ⟨fun M h => (by cases h), ?_⟩
    refine List.forall_mem_cons.mpr ⟨fun M h => (by cases h; exact sW_154), ?_⟩
    refine List.forall_mem_cons.mpr ⟨fun M h => (by cases h), ?_⟩
    refine List.forall_mem_cons.mpr ⟨fun M h => (by cases h), ?_⟩
    refine List.forall_mem_cons.mpr ⟨fun M h => (by cases h), ?_⟩
    refine List.forall_mem_cons.mpr ⟨fun M h => (by cases h; exact sW_158), ?_⟩
    refine List.forall_mem_cons.mpr ⟨fun M h => (by cases h; exact sW_159), ?_⟩
    refine List.forall_mem_cons.mpr ⟨fun M h => (by cases h; exact sW_160), ?_⟩
    refine List.forall_mem_cons.mpr ⟨fun M h => (by cases h; exact sW_161), ?_⟩
    refine List.forall_mem_cons.mpr ⟨fun M h => (by cases h; exact sW_162), ?_⟩
    refine List.forall_mem_cons.mpr ⟨fun M h => (by cases h; exact sW_163), ?_⟩
    refine List.forall_mem_cons.mpr ⟨fun M h => (by cases h; exact sW_164), ?_⟩
    refine List.forall_mem_cons.mpr ⟨fun M h => (by cases h; exact sW_165), ?_⟩
    exact fun q h => absurd h (List.not_mem_nil)
  intro k M hk
  obtain ⟨q, h1, h2⟩ := Option.bind_eq_some_iff.mp hk
  exact h q (List.mem_of_getElem? h1) M h2
def s_cst (k t : Nat) : Bool := match k with
  | 0 => decide (4 ≤ t)
  | ci + 1 => if t = 4 then decide (ci ≤ 12) else decide ((ci, t) ∈ [(6, 5), (10, 6), (11, 7), (7, 8)])
theorem s_cst0 : ∀ t, s_cst 0 t = true → ∃ E, s_tf t = .object E := by
  intro t h
  have h : 4 ≤ t := of_decide_eq_true h
  match t, h with
  | 4, _ => exact ⟨_, rfl⟩
  | 5, _ => exact ⟨_, rfl⟩
  | 6, _ => exact ⟨_, rfl⟩
  | 7, _ => exact ⟨_, rfl⟩
  | t + 8, _ => exact ⟨_, rfl⟩
theorem s_cst1 : ∀ ci t, s_cst (ci + 1) t = true → ∃ (r : vw_C) (E : String), s_cl[ci]? = some r ∧ s_tf t = .object E ∧ (r.1 = E ∨ Cond.castable r.1 E ∈ sx_xw) := by
  have hO : (List.range 13).all (fun ci => match s_cl[ci]? with
    | some r => sx_inX (.castable r.1 "java/lang/Object")
    | none => false) = true := by decide +kernel
  intro ci t h
  have h : (if t = 4 then decide (ci ≤ 12) else decide ((ci, t) ∈ [(6, 5), (10, 6), (11, 7), (7, 8)])) = true := h
  split at h
  · rename_i ht
    subst ht
    have hc : ci ≤ 12 := of_decide_eq_true h
    have h1 := List.all_eq_true.mp hO ci (List.mem_range.mpr (by omega))
    cases hr : s_cl[ci]? with
    | none => rw [hr] at h1; cases h1
    | some r =>
      rw [hr] at h1
      exact ⟨r, _, rfl, rfl, Or.inr (sx_inX_ok h1)⟩
  · have h := of_decide_eq_true h
    simp only [List.mem_cons, List.not_mem_nil, or_false, Prod.mk.injEq] at h
    rcases h with ⟨rfl, rfl⟩ | ⟨rfl, rfl⟩ | ⟨rfl, rfl⟩ | ⟨rfl, rfl⟩
    · exact ⟨_, _, rfl, rfl, Or.inl rfl⟩
    · exact ⟨_, _, rfl, rfl, Or.inl rfl⟩
    · exact ⟨_, _, rfl, rfl, Or.inl rfl⟩
    · exact ⟨_, _, rfl, rfl, Or.inl rfl⟩
