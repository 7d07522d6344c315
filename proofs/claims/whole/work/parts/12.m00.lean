def S_M_init (v0 : Option Nat) (μ : Mem) : Option (Unit × Mem) := b1 (rc μ v0 12) (fun _ => b2 (nI_ μ 0 30 30) (fun x7 m7 => b1 (pV m7 v0 12 2 (vR x7)) (fun m9 => b2 (nI_ m9 0 30 30) (fun x15 m15 => b1 (pV m15 v0 12 3 (vR x15)) (fun m17 => b2 (nI_ m17 0 30 30) (fun x23 m23 => b1 (pV m23 v0 12 4 (vR x23)) (fun m25 => b2 (nI_ m25 0 90 90) (fun x31 m31 => b1 (pV m31 v0 12 5 (vR x31)) (fun m33 => b2 (nI_ m33 0 90 90) (fun x39 m39 => b1 (pV m39 v0 12 6 (vR x39)) (fun m41 => b2 (nI_ m41 0 720 720) (fun x48 m48 => b1 (pV m48 v0 12 7 (vR x48)) (fun m50 => b2 (nI_ m50 0 720 720) (fun x57 m57 => b1 (pV m57 v0 12 8 (vR x57)) (fun m59 => b2 (nI_ m59 0 30 30) (fun x65 m65 => b1 (pV m65 v0 12 9 (vR x65)) (fun m67 => b2 (nI_ m67 0 60 60) (fun x73 m73 => b1 (pV m73 v0 12 10 (vR x73)) (fun m75 => b2 (nI_ m75 0 60 60) (fun x81 m81 => b1 (pV m81 v0 12 11 (vR x81)) (fun m83 => b2 (nI_ m83 0 60 60) (fun x89 m89 => b1 (pV m89 v0 12 12 (vR x89)) (fun m91 => b2 (nI_ m91 0 600 600) (fun x98 m98 => b1 (pV m98 v0 12 13 (vR x98)) (fun m100 => b2 (nI_ m100 0 30 30) (fun x106 m106 => b1 (pV m106 v0 12 14 (vR x106)) (fun m108 => b2 (nI_ m108 0 120 120) (fun x114 m114 => b1 (pV m114 v0 12 15 (vR x114)) (fun m116 => b2 (nI_ m116 0 120 120) (fun x122 m122 => b1 (pV m122 v0 12 16 (vR x122)) (fun m124 => b2 (nI_ m124 0 120 120) (fun x130 m130 => b1 (pV m130 v0 12 17 (vR x130)) (fun m132 => b2 (nI_ m132 0 8 8) (fun x138 m138 => b1 (pV m138 v0 12 19 (vR x138)) (fun m140 => b2 (nI_ m140 0 8 8) (fun x146 m146 => b1 (pV m146 v0 12 20 (vR x146)) (fun m148 => b2 (nI_ m148 0 10 10) (fun x154 m154 => b1 (pV m154 v0 12 22 (vR x154)) (fun m156 => b2 (nI_ m156 0 5 5) (fun x161 m161 => b1 (pV m161 v0 12 23 (vR x161)) (fun m163 => b2 (nI_ m163 0 25 25) (fun x169 m169 => b1 (pV m169 v0 12 24 (vR x169)) (fun m171 => b2 (nI_ m171 0 25 25) (fun x177 m177 => b1 (pV m177 v0 12 25 (vR x177)) (fun m179 => b2 (nI_ m179 0 25 25) (fun x185 m185 => b1 (pV m185 v0 12 26 (vR x185)) (fun m187 => b2 (nI_ m187 0 25 25) (fun x193 m193 => b1 (pV m193 v0 12 27 (vR x193)) (fun m195 => b2 (nI_ m195 0 25 25) (fun x201 m201 => b1 (pV m201 v0 12 28 (vR x201)) (fun m203 => b2 (nI_ m203 0 250 250) (fun x210 m210 => b1 (pV m210 v0 12 29 (vR x210)) (fun m212 => b2 (nI_ m212 0 5 5) (fun x217 m217 => b1 (pV m217 v0 12 30 (vR x217)) (fun m219 => b2 (nI_ m219 0 40 40) (fun x225 m225 => b1 (pV m225 v0 12 31 (vR x225)) (fun m227 => b2 (nI_ m227 0 40 40) (fun x233 m233 => b1 (pV m233 v0 12 32 (vR x233)) (fun m235 => b2 (nI_ m235 0 5 5) (fun x240 m240 => b1 (pV m240 v0 12 33 (vR x240)) (fun m242 => b2 (nI_ m242 3 5 5) (fun x247 m247 => b1 (pV m247 v0 12 34 (vR x247)) (fun m249 => b2 (nI_ m249 0 5 5) (fun x254 m254 => b1 (pV m254 v0 12 35 (vR x254)) (fun m256 => b2 (nI_ m256 0 30 30) (fun x262 m262 => b1 (pV m262 v0 12 37 (vR x262)) (fun m264 => b2 (nI_ m264 0 10 10) (fun x270 m270 => b1 (pV m270 v0 12 39 (vR x270)) (fun m272 => b2 (nI_ m272 0 121 121) (fun x278 m278 => b1 (pV m278 v0 12 40 (vR x278)) (fun m280 => b2 (nI_ m280 0 30 30) (fun x286 m286 => b1 (pV m286 v0 12 50 (vR x286)) (fun m288 => b2 (nI_ m288 0 30 30) (fun x294 m294 => b1 (pV m294 v0 12 51 (vR x294)) (fun m296 => b2 (nI_ m296 0 30 30) (fun x302 m302 => b1 (pV m302 v0 12 52 (vR x302)) (fun m304 => b2 (nL_ m304 1 30 30) (fun x310 m310 => b1 (pV m310 v0 12 53 (vR x310)) (fun m312 => b2 (nL_ m312 1 30 30) (fun x318 m318 => b1 (pV m318 v0 12 54 (vR x318)) (fun m320 => some ((), m320))))))))))))))))))))))))))))))))))))))))))))))))))))))))))))))))))))))))))))))))))
set_option maxHeartbeats 4000000 in
set_option maxRecDepth 100000 in
theorem C_M_init (l : Launch) (G : GG) (v0 : Option Nat) (μ μ' : Mem) (r : Unit) (h : S_M_init v0 μ = some (r, μ')) : CT l G y_M_init prog_13_method_1_code 1 none 1 40 3727 60 μ [vR v0] none μ' := by
  refine wm_met (lv := [(0, vR v0)]) (by decide +kernel) (Nat.le_of_ble_eq_true rfl) rfl (fun X E hQ hR hI => ?_)
  have h : (b1 (rc μ v0 12) (fun _ => b2 (nI_ μ 0 30 30) (fun x7 m7 => b1 (pV m7 v0 12 2 (vR x7)) (fun m9 => b2 (nI_ m9 0 30 30) (fun x15 m15 => b1 (pV m15 v0 12 3 (vR x15)) (fun m17 => b2 (nI_ m17 0 30 30) (fun x23 m23 => b1 (pV m23 v0 12 4 (vR x23)) (fun m25 => b2 (nI_ m25 0 90 90) (fun x31 m31 => b1 (pV m31 v0 12 5 (vR x31)) (fun m33 => b2 (nI_ m33 0 90 90) (fun x39 m39 => b1 (pV m39 v0 12 6 (vR x39)) (fun m41 => b2 (nI_ m41 0 720 720) (fun x48 m48 => b1 (pV m48 v0 12 7 (vR x48)) (fun m50 => b2 (nI_ m50 0 720 720) (fun x57 m57 => b1 (pV m57 v0 12 8 (vR x57)) (fun m59 => b2 (nI_ m59 0 30 30) (fun x65 m65 => b1 (pV m65 v0 12 9 (vR x65)) (fun m67 => b2 (nI_ m67 0 60 60) (fun x73 m73 => b1 (pV m73 v0 12 10 (vR x73)) (fun m75 => b2 (nI_ m75 0 60 60) (fun x81 m81 => b1 (pV m81 v0 12 11 (vR x81)) (fun m83 => b2 (nI_ m83 0 60 60) (fun x89 m89 => b1 (pV m89 v0 12 12 (vR x89)) (fun m91 => b2 (nI_ m91 0 600 600) (fun x98 m98 => b1 (pV m98 v0 12 13 (vR x98)) (fun m100 => b2 (nI_ m100 0 30 30) (fun x106 m106 => b1 (pV m106 v0 12 14 (vR x106)) (fun m108 => b2 (nI_ m108 0 120 120) (fun x114 m114 => b1 (pV m114 v0 12 15 (vR x114)) (fun m116 => b2 (nI_ m116 0 120 120) (fun x122 m122 => b1 (pV m122 v0 12 16 (vR x122)) (fun m124 => b2 (nI_ m124 0 120 120) (fun x130 m130 => b1 (pV m130 v0 12 17 (vR x130)) (fun m132 => b2 (nI_ m132 0 8 8) (fun x138 m138 => b1 (pV m138 v0 12 19 (vR x138)) (fun m140 => b2 (nI_ m140 0 8 8) (fun x146 m146 => b1 (pV m146 v0 12 20 (vR x146)) (fun m148 => b2 (nI_ m148 0 10 10) (fun x154 m154 => b1 (pV m154 v0 12 22 (vR x154)) (fun m156 => b2 (nI_ m156 0 5 5) (fun x161 m161 => b1 (pV m161 v0 12 23 (vR x161)) (fun m163 => b2 (nI_ m163 0 25 25) (fun x169 m169 => b1 (pV m169 v0 12 24 (vR x169)) (fun m171 => b2 (nI_ m171 0 25 25) (fun x177 m177 => b1 (pV m177 v0 12 25 (vR x177)) (fun m179 => b2 (nI_ m179 0 25 25) (fun x185 m185 => b1 (pV m185 v0 12 26 (vR x185)) (fun m187 => b2 (nI_ m187 0 25 25) (fun x193 m193 => b1 (pV m193 v0 12 27 (vR x193)) (fun m195 => b2 (nI_ m195 0 25 25) (fun x201 m201 => b1 (pV m201 v0 12 28 (vR x201)) (fun m203 => b2 (nI_ m203 0 250 250) (fun x210 m210 => b1 (pV m210 v0 12 29 (vR x210)) (fun m212 => b2 (nI_ m212 0 5 5) (fun x217 m217 => b1 (pV m217 v0 12 30 (vR x217)) (fun m219 => b2 (nI_ m219 0 40 40) (fun x225 m225 => b1 (pV m225 v0 12 31 (vR x225)) (fun m227 => b2 (nI_ m227 0 40 40) (fun x233 m233 => b1 (pV m233 v0 12 32 (vR x233)) (fun m235 => b2 (nI_ m235 0 5 5) (fun x240 m240 => b1 (pV m240 v0 12 33 (vR x240)) (fun m242 => b2 (nI_ m242 3 5 5) (fun x247 m247 => b1 (pV m247 v0 12 34 (vR x247)) (fun m249 => b2 (nI_ m249 0 5 5) (fun x254 m254 => b1 (pV m254 v0 12 35 (vR x254)) (fun m256 => b2 (nI_ m256 0 30 30) (fun x262 m262 => b1 (pV m262 v0 12 37 (vR x262)) (fun m264 => b2 (nI_ m264 0 10 10) (fun x270 m270 => b1 (pV m270 v0 12 39 (vR x270)) (fun m272 => b2 (nI_ m272 0 121 121) (fun x278 m278 => b1 (pV m278 v0 12 40 (vR x278)) (fun m280 => b2 (nI_ m280 0 30 30) (fun x286 m286 => b1 (pV m286 v0 12 50 (vR x286)) (fun m288 => b2 (nI_ m288 0 30 30) (fun x294 m294 => b1 (pV m294 v0 12 51 (vR x294)) (fun m296 => b2 (nI_ m296 0 30 30) (fun x302 m302 => b1 (pV m302 v0 12 52 (vR x302)) (fun m304 => b2 (nL_ m304 1 30 30) (fun x310 m310 => b1 (pV m310 v0 12 53 (vR x310)) (fun m312 => b2 (nL_ m312 1 30 30) (fun x318 m318 => b1 (pV m318 v0 12 54 (vR x318)) (fun m320 => some ((), m320))))))))))))))))))))))))))))))))))))))))))))))))))))))))))))))))))))))))))))))))))) = some (r, μ') := h
  refine wm_aload_n E dM_init_0 rfl (j := 0) rfl ?_
  obtain ⟨u1, hr1, h⟩ := b1S h
  refine wm_obj E hr1 oi_M_1 (by rw [hR]; decide) (by rw [hR]; decide) rfl dM_init_1 ?_
  refine wm_aload_n E dM_init_4 rfl (j := 0) rfl ?_
  refine wm_bipush (x := 30) E dM_init_5 (by decide) ?_
  refine wm_newi (t := 0) (B := 30) E rfl rfl rfl ac_I h (by decide) (by rw [hR]; decide) (by rw [hR]; decide) dM_init_7 (fun x7 m7 h => ?_)
  refine wm_pR E fp_M_7 (Or.inr ⟨_, rfl⟩) (fun _ => hI) h dM_init_9 (fun m9 h => ?_)
  refine wm_aload_n E dM_init_12 rfl (j := 0) rfl ?_
  refine wm_bipush (x := 30) E dM_init_13 (by decide) ?_
  refine wm_newi (t := 0) (B := 30) E rfl rfl rfl ac_I h (by decide) (by rw [hR]; decide) (by rw [hR]; decide) dM_init_15 (fun x15 m15 h => ?_)
  refine wm_pR E fp_M_13 (Or.inr ⟨_, rfl⟩) (fun _ => hI) h dM_init_17 (fun m17 h => ?_)
  refine wm_aload_n E dM_init_20 rfl (j := 0) rfl ?_
  refine wm_bipush (x := 30) E dM_init_21 (by decide) ?_
  refine wm_newi (t := 0) (B := 30) E rfl rfl rfl ac_I h (by decide) (by rw [hR]; decide) (by rw [hR]; decide) dM_init_23 (fun x23 m23 h => ?_)
  refine wm_pR E fp_M_16 (Or.inr ⟨_, rfl⟩) (fun _ => hI) h dM_init_25 (fun m25 h => ?_)
  refine wm_aload_n E dM_init_28 rfl (j := 0) rfl ?_
  refine wm_bipush (x := 90) E dM_init_29 (by decide) ?_
  refine wm_newi (t := 0) (B := 90) E rfl rfl rfl ac_I h (by decide) (by rw [hR]; decide) (by rw [hR]; decide) dM_init_31 (fun x31 m31 h => ?_)
  refine wm_pR E fp_M_19 (Or.inr ⟨_, rfl⟩) (fun _ => hI) h dM_init_33 (fun m33 h => ?_)
  refine wm_aload_n E dM_init_36 rfl (j := 0) rfl ?_
  refine wm_bipush (x := 90) E dM_init_37 (by decide) ?_
  refine wm_newi (t := 0) (B := 90) E rfl rfl rfl ac_I h (by decide) (by rw [hR]; decide) (by rw [hR]; decide) dM_init_39 (fun x39 m39 h => ?_)
  refine wm_pR E fp_M_22 (Or.inr ⟨_, rfl⟩) (fun _ => hI) h dM_init_41 (fun m41 h => ?_)
  refine wm_aload_n E dM_init_44 rfl (j := 0) rfl ?_
  refine wm_sipush (x := 720) E dM_init_45 (by decide) ?_
  refine wm_newi (t := 0) (B := 720) E rfl rfl rfl ac_I h (by decide) (by rw [hR]; decide) (by rw [hR]; decide) dM_init_48 (fun x48 m48 h => ?_)
  refine wm_pR E fp_M_25 (Or.inr ⟨_, rfl⟩) (fun _ => hI) h dM_init_50 (fun m50 h => ?_)
  refine wm_aload_n E dM_init_53 rfl (j := 0) rfl ?_
  refine wm_sipush (x := 720) E dM_init_54 (by decide) ?_
  refine wm_newi (t := 0) (B := 720) E rfl rfl rfl ac_I h (by decide) (by rw [hR]; decide) (by rw [hR]; decide) dM_init_57 (fun x57 m57 h => ?_)
  refine wm_pR E fp_M_28 (Or.inr ⟨_, rfl⟩) (fun _ => hI) h dM_init_59 (fun m59 h => ?_)
  refine wm_aload_n E dM_init_62 rfl (j := 0) rfl ?_
  refine wm_bipush (x := 30) E dM_init_63 (by decide) ?_
  refine wm_newi (t := 0) (B := 30) E rfl rfl rfl ac_I h (by decide) (by rw [hR]; decide) (by rw [hR]; decide) dM_init_65 (fun x65 m65 h => ?_)
  refine wm_pR E fp_M_31 (Or.inr ⟨_, rfl⟩) (fun _ => hI) h dM_init_67 (fun m67 h => ?_)
  refine wm_aload_n E dM_init_70 rfl (j := 0) rfl ?_
  refine wm_bipush (x := 60) E dM_init_71 (by decide) ?_
  refine wm_newi (t := 0) (B := 60) E rfl rfl rfl ac_I h (by decide) (by rw [hR]; decide) (by rw [hR]; decide) dM_init_73 (fun x73 m73 h => ?_)
  refine wm_pR E fp_M_34 (Or.inr ⟨_, rfl⟩) (fun _ => hI) h dM_init_75 (fun m75 h => ?_)
  refine wm_aload_n E dM_init_78 rfl (j := 0) rfl ?_
  refine wm_bipush (x := 60) E dM_init_79 (by decide) ?_
  refine wm_newi (t := 0) (B := 60) E rfl rfl rfl ac_I h (by decide) (by rw [hR]; decide) (by rw [hR]; decide) dM_init_81 (fun x81 m81 h => ?_)
  refine wm_pR E fp_M_37 (Or.inr ⟨_, rfl⟩) (fun _ => hI) h dM_init_83 (fun m83 h => ?_)
  refine wm_aload_n E dM_init_86 rfl (j := 0) rfl ?_
  refine wm_bipush (x := 60) E dM_init_87 (by decide) ?_
  refine wm_newi (t := 0) (B := 60) E rfl rfl rfl ac_I h (by decide) (by rw [hR]; decide) (by rw [hR]; decide) dM_init_89 (fun x89 m89 h => ?_)
  refine wm_pR E fp_M_40 (Or.inr ⟨_, rfl⟩) (fun _ => hI) h dM_init_91 (fun m91 h => ?_)
  refine wm_aload_n E dM_init_94 rfl (j := 0) rfl ?_
  refine wm_sipush (x := 600) E dM_init_95 (by decide) ?_
  refine wm_newi (t := 0) (B := 600) E rfl rfl rfl ac_I h (by decide) (by rw [hR]; decide) (by rw [hR]; decide) dM_init_98 (fun x98 m98 h => ?_)
  refine wm_pR E fp_M_43 (Or.inr ⟨_, rfl⟩) (fun _ => hI) h dM_init_100 (fun m100 h => ?_)
  refine wm_aload_n E dM_init_103 rfl (j := 0) rfl ?_
  refine wm_bipush (x := 30) E dM_init_104 (by decide) ?_
  refine wm_newi (t := 0) (B := 30) E rfl rfl rfl ac_I h (by decide) (by rw [hR]; decide) (by rw [hR]; decide) dM_init_106 (fun x106 m106 h => ?_)
  refine wm_pR E fp_M_46 (Or.inr ⟨_, rfl⟩) (fun _ => hI) h dM_init_108 (fun m108 h => ?_)
  refine wm_aload_n E dM_init_111 rfl (j := 0) rfl ?_
  refine wm_bipush (x := 120) E dM_init_112 (by decide) ?_
  refine wm_newi (t := 0) (B := 120) E rfl rfl rfl ac_I h (by decide) (by rw [hR]; decide) (by rw [hR]; decide) dM_init_114 (fun x114 m114 h => ?_)
  refine wm_pR E fp_M_49 (Or.inr ⟨_, rfl⟩) (fun _ => hI) h dM_init_116 (fun m116 h => ?_)
  refine wm_aload_n E dM_init_119 rfl (j := 0) rfl ?_
  refine wm_bipush (x := 120) E dM_init_120 (by decide) ?_
  refine wm_newi (t := 0) (B := 120) E rfl rfl rfl ac_I h (by decide) (by rw [hR]; decide) (by rw [hR]; decide) dM_init_122 (fun x122 m122 h => ?_)
  refine wm_pR E fp_M_52 (Or.inr ⟨_, rfl⟩) (fun _ => hI) h dM_init_124 (fun m124 h => ?_)
  refine wm_aload_n E dM_init_127 rfl (j := 0) rfl ?_
  refine wm_bipush (x := 120) E dM_init_128 (by decide) ?_
  refine wm_newi (t := 0) (B := 120) E rfl rfl rfl ac_I h (by decide) (by rw [hR]; decide) (by rw [hR]; decide) dM_init_130 (fun x130 m130 h => ?_)
  refine wm_pR E fp_M_55 (Or.inr ⟨_, rfl⟩) (fun _ => hI) h dM_init_132 (fun m132 h => ?_)
  refine wm_aload_n E dM_init_135 rfl (j := 0) rfl ?_
  refine wm_bipush (x := 8) E dM_init_136 (by decide) ?_
  refine wm_newi (t := 0) (B := 8) E rfl rfl rfl ac_I h (by decide) (by rw [hR]; decide) (by rw [hR]; decide) dM_init_138 (fun x138 m138 h => ?_)
  refine wm_pR E fp_M_58 (Or.inr ⟨_, rfl⟩) (fun _ => hI) h dM_init_140 (fun m140 h => ?_)
  refine wm_aload_n E dM_init_143 rfl (j := 0) rfl ?_
  refine wm_bipush (x := 8) E dM_init_144 (by decide) ?_
  refine wm_newi (t := 0) (B := 8) E rfl rfl rfl ac_I h (by decide) (by rw [hR]; decide) (by rw [hR]; decide) dM_init_146 (fun x146 m146 h => ?_)
  refine wm_pR E fp_M_61 (Or.inr ⟨_, rfl⟩) (fun _ => hI) h dM_init_148 (fun m148 h => ?_)
  refine wm_aload_n E dM_init_151 rfl (j := 0) rfl ?_
  refine wm_bipush (x := 10) E dM_init_152 (by decide) ?_
  refine wm_newi (t := 0) (B := 10) E rfl rfl rfl ac_I h (by decide) (by rw [hR]; decide) (by rw [hR]; decide) dM_init_154 (fun x154 m154 h => ?_)
  refine wm_pR E fp_M_64 (Or.inr ⟨_, rfl⟩) (fun _ => hI) h dM_init_156 (fun m156 h => ?_)
  refine wm_aload_n E dM_init_159 rfl (j := 0) rfl ?_
  refine wm_iconst (x := 5) E dM_init_160 (by decide) ?_
  refine wm_newi (t := 0) (B := 5) E rfl rfl rfl ac_I h (by decide) (by rw [hR]; decide) (by rw [hR]; decide) dM_init_161 (fun x161 m161 h => ?_)
  refine wm_pR E fp_M_67 (Or.inr ⟨_, rfl⟩) (fun _ => hI) h dM_init_163 (fun m163 h => ?_)
  refine wm_aload_n E dM_init_166 rfl (j := 0) rfl ?_
  refine wm_bipush (x := 25) E dM_init_167 (by decide) ?_
  refine wm_newi (t := 0) (B := 25) E rfl rfl rfl ac_I h (by decide) (by rw [hR]; decide) (by rw [hR]; decide) dM_init_169 (fun x169 m169 h => ?_)
  refine wm_pR E fp_M_70 (Or.inr ⟨_, rfl⟩) (fun _ => hI) h dM_init_171 (fun m171 h => ?_)
  refine wm_aload_n E dM_init_174 rfl (j := 0) rfl ?_
  refine wm_bipush (x := 25) E dM_init_175 (by decide) ?_
  refine wm_newi (t := 0) (B := 25) E rfl rfl rfl ac_I h (by decide) (by rw [hR]; decide) (by rw [hR]; decide) dM_init_177 (fun x177 m177 h => ?_)
  refine wm_pR E fp_M_73 (Or.inr ⟨_, rfl⟩) (fun _ => hI) h dM_init_179 (fun m179 h => ?_)
  refine wm_aload_n E dM_init_182 rfl (j := 0) rfl ?_
  refine wm_bipush (x := 25) E dM_init_183 (by decide) ?_
  refine wm_newi (t := 0) (B := 25) E rfl rfl rfl ac_I h (by decide) (by rw [hR]; decide) (by rw [hR]; decide) dM_init_185 (fun x185 m185 h => ?_)
  refine wm_pR E fp_M_76 (Or.inr ⟨_, rfl⟩) (fun _ => hI) h dM_init_187 (fun m187 h => ?_)
  refine wm_aload_n E dM_init_190 rfl (j := 0) rfl ?_
  refine wm_bipush (x := 25) E dM_init_191 (by decide) ?_
  refine wm_newi (t := 0) (B := 25) E rfl rfl rfl ac_I h (by decide) (by rw [hR]; decide) (by rw [hR]; decide) dM_init_193 (fun x193 m193 h => ?_)
  refine wm_pR E fp_M_79 (Or.inr ⟨_, rfl⟩) (fun _ => hI) h dM_init_195 (fun m195 h => ?_)
  refine wm_aload_n E dM_init_198 rfl (j := 0) rfl ?_
  refine wm_bipush (x := 25) E dM_init_199 (by decide) ?_
  refine wm_newi (t := 0) (B := 25) E rfl rfl rfl ac_I h (by decide) (by rw [hR]; decide) (by rw [hR]; decide) dM_init_201 (fun x201 m201 h => ?_)
  refine wm_pR E fp_M_82 (Or.inr ⟨_, rfl⟩) (fun _ => hI) h dM_init_203 (fun m203 h => ?_)
  refine wm_aload_n E dM_init_206 rfl (j := 0) rfl ?_
  refine wm_sipush (x := 250) E dM_init_207 (by decide) ?_
  refine wm_newi (t := 0) (B := 250) E rfl rfl rfl ac_I h (by decide) (by rw [hR]; decide) (by rw [hR]; decide) dM_init_210 (fun x210 m210 h => ?_)
  refine wm_pR E fp_M_85 (Or.inr ⟨_, rfl⟩) (fun _ => hI) h dM_init_212 (fun m212 h => ?_)
  refine wm_aload_n E dM_init_215 rfl (j := 0) rfl ?_
  refine wm_iconst (x := 5) E dM_init_216 (by decide) ?_
  refine wm_newi (t := 0) (B := 5) E rfl rfl rfl ac_I h (by decide) (by rw [hR]; decide) (by rw [hR]; decide) dM_init_217 (fun x217 m217 h => ?_)
  refine wm_pR E fp_M_88 (Or.inr ⟨_, rfl⟩) (fun _ => hI) h dM_init_219 (fun m219 h => ?_)
  refine wm_aload_n E dM_init_222 rfl (j := 0) rfl ?_
  refine wm_bipush (x := 40) E dM_init_223 (by decide) ?_
  refine wm_newi (t := 0) (B := 40) E rfl rfl rfl ac_I h (by decide) (by rw [hR]; decide) (by rw [hR]; decide) dM_init_225 (fun x225 m225 h => ?_)
  refine wm_pR E fp_M_91 (Or.inr ⟨_, rfl⟩) (fun _ => hI) h dM_init_227 (fun m227 h => ?_)
  refine wm_aload_n E dM_init_230 rfl (j := 0) rfl ?_
  refine wm_bipush (x := 40) E dM_init_231 (by decide) ?_
  refine wm_newi (t := 0) (B := 40) E rfl rfl rfl ac_I h (by decide) (by rw [hR]; decide) (by rw [hR]; decide) dM_init_233 (fun x233 m233 h => ?_)
  refine wm_pR E fp_M_94 (Or.inr ⟨_, rfl⟩) (fun _ => hI) h dM_init_235 (fun m235 h => ?_)
  refine wm_aload_n E dM_init_238 rfl (j := 0) rfl ?_
  refine wm_iconst (x := 5) E dM_init_239 (by decide) ?_
  refine wm_newi (t := 0) (B := 5) E rfl rfl rfl ac_I h (by decide) (by rw [hR]; decide) (by rw [hR]; decide) dM_init_240 (fun x240 m240 h => ?_)
  refine wm_pR E fp_M_97 (Or.inr ⟨_, rfl⟩) (fun _ => hI) h dM_init_242 (fun m242 h => ?_)
  refine wm_aload_n E dM_init_245 rfl (j := 0) rfl ?_
  refine wm_iconst (x := 5) E dM_init_246 (by decide) ?_
  refine wm_newi (t := 3) (B := 5) E rfl rfl rfl ac_Z h (by decide) (by rw [hR]; decide) (by rw [hR]; decide) dM_init_247 (fun x247 m247 h => ?_)
  refine wm_pR E fp_M_100 (Or.inr ⟨_, rfl⟩) (fun _ => hI) h dM_init_249 (fun m249 h => ?_)
  refine wm_aload_n E dM_init_252 rfl (j := 0) rfl ?_
  refine wm_iconst (x := 5) E dM_init_253 (by decide) ?_
  refine wm_newi (t := 0) (B := 5) E rfl rfl rfl ac_I h (by decide) (by rw [hR]; decide) (by rw [hR]; decide) dM_init_254 (fun x254 m254 h => ?_)
  refine wm_pR E fp_M_104 (Or.inr ⟨_, rfl⟩) (fun _ => hI) h dM_init_256 (fun m256 h => ?_)
  refine wm_aload_n E dM_init_259 rfl (j := 0) rfl ?_
  refine wm_bipush (x := 30) E dM_init_260 (by decide) ?_
  refine wm_newi (t := 0) (B := 30) E rfl rfl rfl ac_I h (by decide) (by rw [hR]; decide) (by rw [hR]; decide) dM_init_262 (fun x262 m262 h => ?_)
  refine wm_pR E fp_M_107 (Or.inr ⟨_, rfl⟩) (fun _ => hI) h dM_init_264 (fun m264 h => ?_)
  refine wm_aload_n E dM_init_267 rfl (j := 0) rfl ?_
  refine wm_bipush (x := 10) E dM_init_268 (by decide) ?_
  refine wm_newi (t := 0) (B := 10) E rfl rfl rfl ac_I h (by decide) (by rw [hR]; decide) (by rw [hR]; decide) dM_init_270 (fun x270 m270 h => ?_)
  refine wm_pR E fp_M_110 (Or.inr ⟨_, rfl⟩) (fun _ => hI) h dM_init_272 (fun m272 h => ?_)
  refine wm_aload_n E dM_init_275 rfl (j := 0) rfl ?_
  refine wm_bipush (x := 121) E dM_init_276 (by decide) ?_
  refine wm_newi (t := 0) (B := 121) E rfl rfl rfl ac_I h (by decide) (by rw [hR]; decide) (by rw [hR]; decide) dM_init_278 (fun x278 m278 h => ?_)
  refine wm_pR E fp_M_113 (Or.inr ⟨_, rfl⟩) (fun _ => hI) h dM_init_280 (fun m280 h => ?_)
  refine wm_aload_n E dM_init_283 rfl (j := 0) rfl ?_
  refine wm_bipush (x := 30) E dM_init_284 (by decide) ?_
  refine wm_newi (t := 0) (B := 30) E rfl rfl rfl ac_I h (by decide) (by rw [hR]; decide) (by rw [hR]; decide) dM_init_286 (fun x286 m286 h => ?_)
  refine wm_pR E fp_M_116 (Or.inr ⟨_, rfl⟩) (fun _ => hI) h dM_init_288 (fun m288 h => ?_)
  refine wm_aload_n E dM_init_291 rfl (j := 0) rfl ?_
  refine wm_bipush (x := 30) E dM_init_292 (by decide) ?_
  refine wm_newi (t := 0) (B := 30) E rfl rfl rfl ac_I h (by decide) (by rw [hR]; decide) (by rw [hR]; decide) dM_init_294 (fun x294 m294 h => ?_)
  refine wm_pR E fp_M_119 (Or.inr ⟨_, rfl⟩) (fun _ => hI) h dM_init_296 (fun m296 h => ?_)
  refine wm_aload_n E dM_init_299 rfl (j := 0) rfl ?_
  refine wm_bipush (x := 30) E dM_init_300 (by decide) ?_
  refine wm_newi (t := 0) (B := 30) E rfl rfl rfl ac_I h (by decide) (by rw [hR]; decide) (by rw [hR]; decide) dM_init_302 (fun x302 m302 h => ?_)
  refine wm_pR E fp_M_122 (Or.inr ⟨_, rfl⟩) (fun _ => hI) h dM_init_304 (fun m304 h => ?_)
  refine wm_aload_n E dM_init_307 rfl (j := 0) rfl ?_
  refine wm_bipush (x := 30) E dM_init_308 (by decide) ?_
  refine wm_newl (t := 1) (B := 30) E rfl rfl rfl ac_J h (by decide) (by rw [hR]; decide) (by rw [hR]; decide) dM_init_310 (fun x310 m310 h => ?_)
  refine wm_pR E fp_M_125 (Or.inr ⟨_, rfl⟩) (fun _ => hI) h dM_init_312 (fun m312 h => ?_)
  refine wm_aload_n E dM_init_315 rfl (j := 0) rfl ?_
  refine wm_bipush (x := 30) E dM_init_316 (by decide) ?_
  refine wm_newl (t := 1) (B := 30) E rfl rfl rfl ac_J h (by decide) (by rw [hR]; decide) (by rw [hR]; decide) dM_init_318 (fun x318 m318 h => ?_)
  refine wm_pR E fp_M_129 (Or.inr ⟨_, rfl⟩) (fun _ => hI) h dM_init_320 (fun m320 h => ?_)
  exact wm_vret E hQ rfl (rtM h) (by decide) (by decide) dM_init_323
def R_M_thrown  (ρ : RS) : Option Int32 := some (ri ρ 0)
set_option maxHeartbeats 4000000 in
set_option maxRecDepth 100000 in
theorem RC_M_thrown (l : Launch) (G : GG) (b : Nat) (ρ : RS) (μ : Mem)  (r : Int32) (h : R_M_thrown  ρ = some r) : CT l G y_M_thrown prog_13_method_2_code 1 (some .int) 0 0 0 0 (ov b ρ μ) [vR (some b)] (some (vI r)) (ov b ρ μ) := by
  refine wm_met (lv := [(0, vR (some b))]) (by decide +kernel) (Nat.le_of_ble_eq_true rfl) rfl (fun X E hQ hR hI => ?_)
  have h : (some (ri ρ 0)) = some r := h
  refine wm_aload_n E dM_thrown_0 rfl (j := 0) rfl ?_
  refine wm_rget (v := vI (ri ρ 0)) E fd_M_132 rfl dM_thrown_1 ?_
  exact wm_iret (rt := .int) E hQ (rqI0 h) rfl (by decide) (by decide) dM_thrown_4
def RB_M_in_15  (s0 : Int32) : Option Int32 := gd (¬ okZ s0 = true) (some (s0))
set_option maxHeartbeats 4000000 in
set_option maxRecDepth 100000 in
theorem rw_M_in_15 {X : CX} (E : EV X prog_13_method_3_code 3 "PlaceFinderModel" (some .boolean)) {μ0 μ : Mem} {r : Int32} (hQ : RQ X 0 0 μ0 (some (vI r)) μ) (hR : xR X = { frames := 0, cells := 0, slots := 0, locals := 0 }) (hI : X.2.2.2.2.2.2.2.2.2.2.2.1.name = "in")  (s0 : Int32) (h : RB_M_in_15  s0 = some r) : WM X 3 15 [] [vI s0] 0 0 μ := by
  have h : (gd (¬ okZ s0 = true) (some (s0))) = some r := h
  obtain ⟨hz15, h⟩ := gdS h
  exact wm_zret (rt := .boolean) E hQ (rqI0 h) rfl (okZN hz15) (by decide) (by decide) dM_in_15
def RB_M_in_14   : Option Int32 := RB_M_in_15 0
set_option maxHeartbeats 4000000 in
set_option maxRecDepth 100000 in
theorem rw_M_in_14 {X : CX} (E : EV X prog_13_method_3_code 3 "PlaceFinderModel" (some .boolean)) {μ0 μ : Mem} {r : Int32} (hQ : RQ X 0 0 μ0 (some (vI r)) μ) (hR : xR X = { frames := 0, cells := 0, slots := 0, locals := 0 }) (hI : X.2.2.2.2.2.2.2.2.2.2.2.1.name = "in")   (h : RB_M_in_14   = some r) : WM X 3 14 [] [] 0 0 μ := by
  have h : (RB_M_in_15 0) = some r := h
  refine wm_iconst (x := 0) E dM_in_14 (by decide) ?_
  refine wm_pick (lv' := []) [] rfl ?_
  exact rw_M_in_15 E hQ hR hI 0 h
def R_M_in (v0 : Int32) (v1 : Int32) (v2 : Int32) : Option Int32 := if v0 < v1 then RB_M_in_14  else if v2 < v0 then RB_M_in_14  else RB_M_in_15 1
set_option maxHeartbeats 4000000 in
set_option maxRecDepth 100000 in
theorem RC_M_in (l : Launch) (G : GG) (v0 : Int32) (v1 : Int32) (v2 : Int32) (μ : Mem) (r : Int32) (h : R_M_in v0 v1 v2 = some r) : CT l G y_M_in prog_13_method_3_code 3 (some .boolean) 0 0 0 0 μ [vI v0, vI v1, vI v2] (some (vI r)) μ := by
  refine wm_met (lv := [(0, vI v0), (1, vI v1), (2, vI v2)]) (by decide +kernel) (Nat.le_of_ble_eq_true rfl) rfl (fun X E hQ hR hI => ?_)
  have h : (if v0 < v1 then RB_M_in_14  else if v2 < v0 then RB_M_in_14  else RB_M_in_15 1) = some r := h
  refine wm_iload_n E dM_in_0 rfl (j := 0) rfl ?_
  refine wm_iload_n E dM_in_1 rfl (j := 1) rfl ?_
  refine wm_icmp_lt (tgt := 14) E dM_in_2 (by decide) (fun c2 => ?_) (fun c2 => ?_)
  · have h := (if_pos c2).symm.trans h
    refine wm_pick (lv' := []) [] rfl ?_
    exact rw_M_in_14 E hQ hR hI  h
  · have h := (if_neg c2).symm.trans h
    refine wm_iload_n E dM_in_5 rfl (j := 0) rfl ?_
    refine wm_iload_n E dM_in_6 rfl (j := 2) rfl ?_
    refine wm_icmp_gt (tgt := 14) E dM_in_7 (by decide) (fun c7 => ?_) (fun c7 => ?_)
    · have h := (if_pos c7).symm.trans h
      refine wm_pick (lv' := []) [] rfl ?_
      exact rw_M_in_14 E hQ hR hI  h
    · have h := (if_neg c7).symm.trans h
      refine wm_iconst (x := 1) E dM_in_10 (by decide) ?_
      refine wm_goto (tgt := 15) E dM_in_11 (by decide) ?_
      refine wm_pick (lv' := []) [] rfl ?_
      exact rw_M_in_15 E hQ hR hI 1 h
def R_M_isPlace (v1 : Int32) (ρ : RS) : Option Int32 := b1 (R_M_in v1 0 ((ri ρ 1) - 1)) (fun x8 => gd (¬ okZ x8 = true) (some (x8)))
set_option maxHeartbeats 4000000 in
set_option maxRecDepth 100000 in
theorem RC_M_isPlace (l : Launch) (G : GG) (b : Nat) (ρ : RS) (μ : Mem) (v1 : Int32) (r : Int32) (h : R_M_isPlace v1 ρ = some r) : CT l G y_M_isPlace prog_13_method_4_code 2 (some .boolean) 1 0 0 22 (ov b ρ μ) [vR (some b), vI v1] (some (vI r)) (ov b ρ μ) := by
  refine wm_met (lv := [(0, vR (some b)), (1, vI v1)]) (by decide +kernel) (Nat.le_of_ble_eq_true rfl) rfl (fun X E hQ hR hI => ?_)
  have h : (b1 (R_M_in v1 0 ((ri ρ 1) - 1)) (fun x8 => gd (¬ okZ x8 = true) (some (x8)))) = some r := h
  refine wm_iload_n E dM_isPlace_0 rfl (j := 1) rfl ?_
  refine wm_iconst (x := 0) E dM_isPlace_1 (by decide) ?_
  refine wm_aload_n E dM_isPlace_2 rfl (j := 0) rfl ?_
  refine wm_rget (v := vI (ri ρ 1)) E fd_M_136 rfl dM_isPlace_3 ?_
  refine wm_iconst (x := 1) E dM_isPlace_6 (by decide) ?_
  refine wm_isub E dM_isPlace_7 ?_
  obtain ⟨x8, hc8, h⟩ := b1S h
  refine wm_cS (As := [vI v1, vI 0, vI ((ri ρ 1) - 1)]) (st := []) E lk_M_139 sc_M_in (RC_M_in (xl X) X.1 v1 0 ((ri ρ 1) - 1) _ _ hc8) rfl rfl (by rw [hR]; decide) (by rw [hR]; decide) (Nat.le_of_ble_eq_true rfl) dM_isPlace_8 ?_
  obtain ⟨hz11, h⟩ := gdS h
  exact wm_zret (rt := .boolean) E hQ (rqI0 h) rfl (okZN hz11) (by decide) (by decide) dM_isPlace_11
def R_M_isDay (v0 : Int32) : Option Int32 := b1 (R_M_in v0 0 9999) (fun x5 => gd (¬ okZ x5 = true) (some (x5)))
set_option maxHeartbeats 4000000 in
set_option maxRecDepth 100000 in
theorem RC_M_isDay (l : Launch) (G : GG) (v0 : Int32) (μ : Mem) (r : Int32) (h : R_M_isDay v0 = some r) : CT l G y_M_isDay prog_13_method_5_code 1 (some .boolean) 1 0 0 22 μ [vI v0] (some (vI r)) μ := by
  refine wm_met (lv := [(0, vI v0)]) (by decide +kernel) (Nat.le_of_ble_eq_true rfl) rfl (fun X E hQ hR hI => ?_)
  have h : (b1 (R_M_in v0 0 9999) (fun x5 => gd (¬ okZ x5 = true) (some (x5)))) = some r := h
  refine wm_iload_n E dM_isDay_0 rfl (j := 0) rfl ?_
  refine wm_iconst (x := 0) E dM_isDay_1 (by decide) ?_
  refine wm_sipush (x := 9999) E dM_isDay_2 (by decide) ?_
  obtain ⟨x5, hc5, h⟩ := b1S h
  refine wm_cS (As := [vI v0, vI 0, vI 9999]) (st := []) E lk_M_139 sc_M_in (RC_M_in (xl X) X.1 v0 0 9999 _ _ hc5) rfl rfl (by rw [hR]; decide) (by rw [hR]; decide) (Nat.le_of_ble_eq_true rfl) dM_isDay_5 ?_
  obtain ⟨hz8, h⟩ := gdS h
  exact wm_zret (rt := .boolean) E hQ (rqI0 h) rfl (okZN hz8) (by decide) (by decide) dM_isDay_8
def RB_M_isSpan_24  (s0 : Int32) : Option Int32 := gd (¬ okZ s0 = true) (some (s0))
set_option maxHeartbeats 4000000 in
set_option maxRecDepth 100000 in
theorem rw_M_isSpan_24 {X : CX} (E : EV X prog_13_method_6_code 2 "PlaceFinderModel" (some .boolean)) {μ0 μ : Mem} {r : Int32} (hQ : RQ X 0 0 μ0 (some (vI r)) μ) (hR : xR X = { frames := 2, cells := 0, slots := 0, locals := 42 }) (hI : X.2.2.2.2.2.2.2.2.2.2.2.1.name = "isSpan")  (s0 : Int32) (h : RB_M_isSpan_24  s0 = some r) : WM X 2 24 [] [vI s0] 0 0 μ := by
  have h : (gd (¬ okZ s0 = true) (some (s0))) = some r := h
  obtain ⟨hz24, h⟩ := gdS h
  exact wm_zret (rt := .boolean) E hQ (rqI0 h) rfl (okZN hz24) (by decide) (by decide) dM_isSpan_24
def RB_M_isSpan_23   : Option Int32 := RB_M_isSpan_24 0
set_option maxHeartbeats 4000000 in
set_option maxRecDepth 100000 in
theorem rw_M_isSpan_23 {X : CX} (E : EV X prog_13_method_6_code 2 "PlaceFinderModel" (some .boolean)) {μ0 μ : Mem} {r : Int32} (hQ : RQ X 0 0 μ0 (some (vI r)) μ) (hR : xR X = { frames := 2, cells := 0, slots := 0, locals := 42 }) (hI : X.2.2.2.2.2.2.2.2.2.2.2.1.name = "isSpan")   (h : RB_M_isSpan_23   = some r) : WM X 2 23 [] [] 0 0 μ := by
  have h : (RB_M_isSpan_24 0) = some r := h
  refine wm_iconst (x := 0) E dM_isSpan_23 (by decide) ?_
  refine wm_pick (lv' := []) [] rfl ?_
  exact rw_M_isSpan_24 E hQ hR hI 0 h
def R_M_isSpan (v0 : Int32) (v1 : Int32) : Option Int32 := b1 (R_M_isDay v0) (fun x1 => if x1 = 0 then RB_M_isSpan_23  else b1 (R_M_isDay v1) (fun x8 => if x8 = 0 then RB_M_isSpan_23  else if v1 < v0 then RB_M_isSpan_23  else RB_M_isSpan_24 1))
set_option maxHeartbeats 4000000 in
set_option maxRecDepth 100000 in
theorem RC_M_isSpan (l : Launch) (G : GG) (v0 : Int32) (v1 : Int32) (μ : Mem) (r : Int32) (h : R_M_isSpan v0 v1 = some r) : CT l G y_M_isSpan prog_13_method_6_code 2 (some .boolean) 2 0 0 42 μ [vI v0, vI v1] (some (vI r)) μ := by
  refine wm_met (lv := [(0, vI v0), (1, vI v1)]) (by decide +kernel) (Nat.le_of_ble_eq_true rfl) rfl (fun X E hQ hR hI => ?_)
  have h : (b1 (R_M_isDay v0) (fun x1 => if x1 = 0 then RB_M_isSpan_23  else b1 (R_M_isDay v1) (fun x8 => if x8 = 0 then RB_M_isSpan_23  else if v1 < v0 then RB_M_isSpan_23  else RB_M_isSpan_24 1))) = some r := h
  refine wm_iload_n E dM_isSpan_0 rfl (j := 0) rfl ?_
  obtain ⟨x1, hc1, h⟩ := b1S h
  refine wm_cS (As := [vI v0]) (st := []) E lk_M_143 sc_M_isDay (RC_M_isDay (xl X) X.1 v0 _ _ hc1) rfl rfl (by rw [hR]; decide) (by rw [hR]; decide) (Nat.le_of_ble_eq_true rfl) dM_isSpan_1 ?_
  refine wm_if_eq (tgt := 23) E dM_isSpan_4 (by decide) (fun c4 => ?_) (fun c4 => ?_)
  · have h := (if_pos c4).symm.trans h
    refine wm_pick (lv' := []) [] rfl ?_
    exact rw_M_isSpan_23 E hQ hR hI  h
  · have h := (if_neg c4).symm.trans h
    refine wm_iload_n E dM_isSpan_7 rfl (j := 1) rfl ?_
    obtain ⟨x8, hc8, h⟩ := b1S h
    refine wm_cS (As := [vI v1]) (st := []) E lk_M_143 sc_M_isDay (RC_M_isDay (xl X) X.1 v1 _ _ hc8) rfl rfl (by rw [hR]; decide) (by rw [hR]; decide) (Nat.le_of_ble_eq_true rfl) dM_isSpan_8 ?_
    refine wm_if_eq (tgt := 23) E dM_isSpan_11 (by decide) (fun c11 => ?_) (fun c11 => ?_)
    · have h := (if_pos c11).symm.trans h
      refine wm_pick (lv' := []) [] rfl ?_
      exact rw_M_isSpan_23 E hQ hR hI  h
    · have h := (if_neg c11).symm.trans h
      refine wm_iload_n E dM_isSpan_14 rfl (j := 0) rfl ?_
      refine wm_iload_n E dM_isSpan_15 rfl (j := 1) rfl ?_
      refine wm_icmp_gt (tgt := 23) E dM_isSpan_16 (by decide) (fun c16 => ?_) (fun c16 => ?_)
      · have h := (if_pos c16).symm.trans h
        refine wm_pick (lv' := []) [] rfl ?_
        exact rw_M_isSpan_23 E hQ hR hI  h
      · have h := (if_neg c16).symm.trans h
        refine wm_iconst (x := 1) E dM_isSpan_19 (by decide) ?_
        refine wm_goto (tgt := 24) E dM_isSpan_20 (by decide) ?_
        refine wm_pick (lv' := []) [] rfl ?_
        exact rw_M_isSpan_24 E hQ hR hI 1 h
def RB_M_isAt_27  (s0 : Int32) : Option Int32 := gd (¬ okZ s0 = true) (some (s0))
set_option maxHeartbeats 4000000 in
set_option maxRecDepth 100000 in
theorem rw_M_isAt_27 {X : CX} (E : EV X prog_13_method_7_code 2 "PlaceFinderModel" (some .boolean)) {μ0 μ : Mem} {r : Int32} (hQ : RQ X 0 0 μ0 (some (vI r)) μ) (hR : xR X = { frames := 1, cells := 0, slots := 0, locals := 22 }) (hI : X.2.2.2.2.2.2.2.2.2.2.2.1.name = "isAt")  (s0 : Int32) (h : RB_M_isAt_27  s0 = some r) : WM X 2 27 [] [vI s0] 0 0 μ := by
  have h : (gd (¬ okZ s0 = true) (some (s0))) = some r := h
  obtain ⟨hz27, h⟩ := gdS h
  exact wm_zret (rt := .boolean) E hQ (rqI0 h) rfl (okZN hz27) (by decide) (by decide) dM_isAt_27
def RB_M_isAt_26   : Option Int32 := RB_M_isAt_27 0
set_option maxHeartbeats 4000000 in
set_option maxRecDepth 100000 in
theorem rw_M_isAt_26 {X : CX} (E : EV X prog_13_method_7_code 2 "PlaceFinderModel" (some .boolean)) {μ0 μ : Mem} {r : Int32} (hQ : RQ X 0 0 μ0 (some (vI r)) μ) (hR : xR X = { frames := 1, cells := 0, slots := 0, locals := 22 }) (hI : X.2.2.2.2.2.2.2.2.2.2.2.1.name = "isAt")   (h : RB_M_isAt_26   = some r) : WM X 2 26 [] [] 0 0 μ := by
  have h : (RB_M_isAt_27 0) = some r := h
  refine wm_iconst (x := 0) E dM_isAt_26 (by decide) ?_
  refine wm_pick (lv' := []) [] rfl ?_
  exact rw_M_isAt_27 E hQ hR hI 0 h
def R_M_isAt (v0 : Int32) (v1 : Int32) : Option Int32 := b1 (R_M_in v0 0 4095) (fun x5 => if x5 = 0 then RB_M_isAt_26  else b1 (R_M_in v1 0 4095) (fun x16 => if x16 = 0 then RB_M_isAt_26  else RB_M_isAt_27 1))
set_option maxHeartbeats 4000000 in
set_option maxRecDepth 100000 in
theorem RC_M_isAt (l : Launch) (G : GG) (v0 : Int32) (v1 : Int32) (μ : Mem) (r : Int32) (h : R_M_isAt v0 v1 = some r) : CT l G y_M_isAt prog_13_method_7_code 2 (some .boolean) 1 0 0 22 μ [vI v0, vI v1] (some (vI r)) μ := by
  refine wm_met (lv := [(0, vI v0), (1, vI v1)]) (by decide +kernel) (Nat.le_of_ble_eq_true rfl) rfl (fun X E hQ hR hI => ?_)
  have h : (b1 (R_M_in v0 0 4095) (fun x5 => if x5 = 0 then RB_M_isAt_26  else b1 (R_M_in v1 0 4095) (fun x16 => if x16 = 0 then RB_M_isAt_26  else RB_M_isAt_27 1))) = some r := h
  refine wm_iload_n E dM_isAt_0 rfl (j := 0) rfl ?_
  refine wm_iconst (x := 0) E dM_isAt_1 (by decide) ?_
  refine wm_sipush (x := 4095) E dM_isAt_2 (by decide) ?_
  obtain ⟨x5, hc5, h⟩ := b1S h
  refine wm_cS (As := [vI v0, vI 0, vI 4095]) (st := []) E lk_M_139 sc_M_in (RC_M_in (xl X) X.1 v0 0 4095 _ _ hc5) rfl rfl (by rw [hR]; decide) (by rw [hR]; decide) (Nat.le_of_ble_eq_true rfl) dM_isAt_5 ?_
  refine wm_if_eq (tgt := 26) E dM_isAt_8 (by decide) (fun c8 => ?_) (fun c8 => ?_)
  · have h := (if_pos c8).symm.trans h
    refine wm_pick (lv' := []) [] rfl ?_
    exact rw_M_isAt_26 E hQ hR hI  h
  · have h := (if_neg c8).symm.trans h
    refine wm_iload_n E dM_isAt_11 rfl (j := 1) rfl ?_
    refine wm_iconst (x := 0) E dM_isAt_12 (by decide) ?_
    refine wm_sipush (x := 4095) E dM_isAt_13 (by decide) ?_
    obtain ⟨x16, hc16, h⟩ := b1S h
    refine wm_cS (As := [vI v1, vI 0, vI 4095]) (st := []) E lk_M_139 sc_M_in (RC_M_in (xl X) X.1 v1 0 4095 _ _ hc16) rfl rfl (by rw [hR]; decide) (by rw [hR]; decide) (Nat.le_of_ble_eq_true rfl) dM_isAt_16 ?_
    refine wm_if_eq (tgt := 26) E dM_isAt_19 (by decide) (fun c19 => ?_) (fun c19 => ?_)
    · have h := (if_pos c19).symm.trans h
      refine wm_pick (lv' := []) [] rfl ?_
      exact rw_M_isAt_26 E hQ hR hI  h
    · have h := (if_neg c19).symm.trans h
      refine wm_iconst (x := 1) E dM_isAt_22 (by decide) ?_
      refine wm_goto (tgt := 27) E dM_isAt_23 (by decide) ?_
      refine wm_pick (lv' := []) [] rfl ?_
      exact rw_M_isAt_27 E hQ hR hI 1 h
def RB_M_place_29  (v1 : Int32) (s1 : Int32) (ρ : RS) : Option (Int32 × RS) := b0 (rpI ρ 0 s1) (fun ρ29 => if (ri ρ29 0) ≤ 0 then b1 (rsI ρ29 2 30 (ri ρ29 1) v1) (fun ρ50 => b1 (rsI ρ50 3 30 (ri ρ50 1) 10000) (fun ρ62 => b0 (rpI ρ62 1 ((ri ρ62 1) + 1)) (fun ρ70 => some ((ri ρ70 1) - 1, ρ70)))) else some (0, ρ29))
set_option maxHeartbeats 4000000 in
set_option maxRecDepth 100000 in
theorem rw_M_place_29 {X : CX} (E : EV X prog_13_method_8_code 2 "PlaceFinderModel" (some .int)) {μ0 μ : Mem} {b : Nat} {r : Int32} {ρ' : RS} (hQ : RQ X 0 0 μ0 (some (vI r)) (ov b ρ' μ)) (hR : xR X = { frames := 1, cells := 0, slots := 0, locals := 22 }) (hI : X.2.2.2.2.2.2.2.2.2.2.2.1.name = "place") (hW : mW μ ≤ b)  (v1 : Int32) (s1 : Int32) (ρ : RS) (h : RB_M_place_29  v1 s1 ρ = some (r, ρ')) : WM X 2 29 [(0, vR (some b)), (1, vI v1)] [vI s1, vR (some b)] 0 0 (ov b ρ μ) := by
  have h : (b0 (rpI ρ 0 s1) (fun ρ29 => if (ri ρ29 0) ≤ 0 then b1 (rsI ρ29 2 30 (ri ρ29 1) v1) (fun ρ50 => b1 (rsI ρ50 3 30 (ri ρ50 1) 10000) (fun ρ62 => b0 (rpI ρ62 1 ((ri ρ62 1) + 1)) (fun ρ70 => some ((ri ρ70 1) - 1, ρ70)))) else some (0, ρ29))) = some (r, ρ') := h
  refine wm_rpI E fp_M_132 (fun q => by cases q) rfl (by decide) hW dM_place_29 ?_
  refine wm_rlet h (fun ρ29 h => ?_)
  refine wm_aload_n E dM_place_32 rfl (j := 0) rfl ?_
  refine wm_rget (v := vI (ri ρ29 0)) E fd_M_132 rfl dM_place_33 ?_
  refine wm_if_le (tgt := 41) E dM_place_36 (by decide) (fun c36 => ?_) (fun c36 => ?_)
  · have h := (if_pos c36).symm.trans h
    refine wm_aload_n E dM_place_41 rfl (j := 0) rfl ?_
    refine wm_rget (v := vR (some (b + 1))) E fd_M_7 rfl dM_place_42 ?_
    refine wm_aload_n E dM_place_45 rfl (j := 0) rfl ?_
    refine wm_rget (v := vI (ri ρ29 1)) E fd_M_136 rfl dM_place_46 ?_
    refine wm_iload_n E dM_place_49 rfl (j := 1) rfl ?_
    refine wm_riast E (by decide) rfl rfl (by decide) (by decide) hW h dM_place_50 (fun ρ50 h => ?_)
    refine wm_aload_n E dM_place_51 rfl (j := 0) rfl ?_
    refine wm_rget (v := vR (some (b + 2))) E fd_M_13 rfl dM_place_52 ?_
    refine wm_aload_n E dM_place_55 rfl (j := 0) rfl ?_
    refine wm_rget (v := vI (ri ρ50 1)) E fd_M_136 rfl dM_place_56 ?_
    refine wm_sipush (x := 10000) E dM_place_59 (by decide) ?_
    refine wm_riast E (by decide) rfl rfl (by decide) (by decide) hW h dM_place_62 (fun ρ62 h => ?_)
    refine wm_aload_n E dM_place_63 rfl (j := 0) rfl ?_
    refine wm_dup E dM_place_64 rfl ?_
    refine wm_rget (v := vI (ri ρ62 1)) E fd_M_136 rfl dM_place_65 ?_
    refine wm_iconst (x := 1) E dM_place_68 (by decide) ?_
    refine wm_iadd E dM_place_69 ?_
    refine wm_rpI E fp_M_136 (fun q => by cases q) rfl (by decide) hW dM_place_70 ?_
    refine wm_rlet h (fun ρ70 h => ?_)
    refine wm_aload_n E dM_place_73 rfl (j := 0) rfl ?_
    refine wm_rget (v := vI (ri ρ70 1)) E fd_M_136 rfl dM_place_74 ?_
    refine wm_iconst (x := 1) E dM_place_77 (by decide) ?_
    refine wm_isub E dM_place_78 ?_
    exact wm_iret (rt := .int) E hQ (rrI h) (rrM h) (by decide) (by decide) dM_place_79
  · have h := (if_neg c36).symm.trans h
    refine wm_iconst (x := 0) E dM_place_39 (by decide) ?_
    exact wm_iret (rt := .int) E hQ (rrI h) (rrM h) (by decide) (by decide) dM_place_40
def R_M_place (v1 : Int32) (ρ : RS) : Option (Int32 × RS) := b1 (R_M_in v1 0 7) (fun x5 => if x5 = 0 then RB_M_place_29 v1 1 (ρ) else if (ri ρ 1) = 30 then RB_M_place_29 v1 2 (ρ) else RB_M_place_29 v1 0 (ρ))
set_option maxHeartbeats 4000000 in
set_option maxRecDepth 100000 in
theorem RC_M_place (l : Launch) (G : GG) (b : Nat) (ρ : RS) (μ : Mem) (hW : mW μ ≤ b) (v1 : Int32) (r : Int32) (ρ' : RS) (h : R_M_place v1 ρ = some (r, ρ')) : CT l G y_M_place prog_13_method_8_code 2 (some .int) 1 0 0 22 (ov b ρ μ) [vR (some b), vI v1] (some (vI r)) (ov b ρ' μ) := by
  refine wm_met (lv := [(0, vR (some b)), (1, vI v1)]) (by decide +kernel) (Nat.le_of_ble_eq_true rfl) rfl (fun X E hQ hR hI => ?_)
  have h : (b1 (R_M_in v1 0 7) (fun x5 => if x5 = 0 then RB_M_place_29 v1 1 (ρ) else if (ri ρ 1) = 30 then RB_M_place_29 v1 2 (ρ) else RB_M_place_29 v1 0 (ρ))) = some (r, ρ') := h
  refine wm_aload_n E dM_place_0 rfl (j := 0) rfl ?_
  refine wm_iload_n E dM_place_1 rfl (j := 1) rfl ?_
  refine wm_iconst (x := 0) E dM_place_2 (by decide) ?_
  refine wm_bipush (x := 7) E dM_place_3 (by decide) ?_
  obtain ⟨x5, hc5, h⟩ := b1S h
  refine wm_cS (As := [vI v1, vI 0, vI 7]) (st := [vR (some b)]) E lk_M_139 sc_M_in (RC_M_in (xl X) X.1 v1 0 7 _ _ hc5) rfl rfl (by rw [hR]; decide) (by rw [hR]; decide) (Nat.le_of_ble_eq_true rfl) dM_place_5 ?_
  refine wm_if_ne (tgt := 15) E dM_place_8 (by decide) (fun c8 => ?_) (fun c8 => ?_)
  · have h := (if_neg c8).symm.trans h
    refine wm_aload_n E dM_place_15 rfl (j := 0) rfl ?_
    refine wm_rget (v := vI (ri ρ 1)) E fd_M_136 rfl dM_place_16 ?_
    refine wm_bipush (x := 30) E dM_place_19 (by decide) ?_
    refine wm_icmp_ne (tgt := 28) E dM_place_21 (by decide) (fun c21 => ?_) (fun c21 => ?_)
    · have h := (if_neg c21).symm.trans h
      refine wm_iconst (x := 0) E dM_place_28 (by decide) ?_
      refine wm_pick (lv' := [(0, vR (some b)), (1, vI v1)]) [0, 1] rfl ?_
      exact rw_M_place_29 E hQ hR hI hW v1 0 (ρ) h
    · have h := (if_pos c21).symm.trans h
      refine wm_iconst (x := 2) E dM_place_24 (by decide) ?_
      refine wm_goto (tgt := 29) E dM_place_25 (by decide) ?_
      refine wm_pick (lv' := [(0, vR (some b)), (1, vI v1)]) [0, 1] rfl ?_
      exact rw_M_place_29 E hQ hR hI hW v1 2 (ρ) h
  · have h := (if_pos c8).symm.trans h
    refine wm_iconst (x := 1) E dM_place_11 (by decide) ?_
    refine wm_goto (tgt := 29) E dM_place_12 (by decide) ?_
    refine wm_pick (lv' := [(0, vR (some b)), (1, vI v1)]) [0, 1] rfl ?_
    exact rw_M_place_29 E hQ hR hI hW v1 1 (ρ) h
def RB_M_corner_27  (v1 : Int32) (v2 : Int32) (s1 : Int32) (ρ : RS) : Option (Int32 × RS) := b0 (rpI ρ 0 s1) (fun ρ27 => if (ri ρ27 0) ≤ 0 then b1 (rsI ρ27 19 8 (ri ρ27 18) v1) (fun ρ48 => b1 (rsI ρ48 20 8 (ri ρ48 18) v2) (fun ρ58 => b0 (rpI ρ58 18 ((ri ρ58 18) + 1)) (fun ρ66 => some (ri ρ66 18, ρ66)))) else some (0, ρ27))
set_option maxHeartbeats 4000000 in
set_option maxRecDepth 100000 in
theorem rw_M_corner_27 {X : CX} (E : EV X prog_13_method_9_code 3 "PlaceFinderModel" (some .int)) {μ0 μ : Mem} {b : Nat} {r : Int32} {ρ' : RS} (hQ : RQ X 0 0 μ0 (some (vI r)) (ov b ρ' μ)) (hR : xR X = { frames := 2, cells := 0, slots := 0, locals := 43 }) (hI : X.2.2.2.2.2.2.2.2.2.2.2.1.name = "corner") (hW : mW μ ≤ b)  (v1 : Int32) (v2 : Int32) (s1 : Int32) (ρ : RS) (h : RB_M_corner_27  v1 v2 s1 ρ = some (r, ρ')) : WM X 3 27 [(0, vR (some b)), (1, vI v1), (2, vI v2)] [vI s1, vR (some b)] 0 0 (ov b ρ μ) := by
  have h : (b0 (rpI ρ 0 s1) (fun ρ27 => if (ri ρ27 0) ≤ 0 then b1 (rsI ρ27 19 8 (ri ρ27 18) v1) (fun ρ48 => b1 (rsI ρ48 20 8 (ri ρ48 18) v2) (fun ρ58 => b0 (rpI ρ58 18 ((ri ρ58 18) + 1)) (fun ρ66 => some (ri ρ66 18, ρ66)))) else some (0, ρ27))) = some (r, ρ') := h
  refine wm_rpI E fp_M_132 (fun q => by cases q) rfl (by decide) hW dM_corner_27 ?_
  refine wm_rlet h (fun ρ27 h => ?_)
  refine wm_aload_n E dM_corner_30 rfl (j := 0) rfl ?_
  refine wm_rget (v := vI (ri ρ27 0)) E fd_M_132 rfl dM_corner_31 ?_
  refine wm_if_le (tgt := 39) E dM_corner_34 (by decide) (fun c34 => ?_) (fun c34 => ?_)
  · have h := (if_pos c34).symm.trans h
    refine wm_aload_n E dM_corner_39 rfl (j := 0) rfl ?_
    refine wm_rget (v := vR (some (b + 17))) E fd_M_58 rfl dM_corner_40 ?_
    refine wm_aload_n E dM_corner_43 rfl (j := 0) rfl ?_
    refine wm_rget (v := vI (ri ρ27 18)) E fd_M_151 rfl dM_corner_44 ?_
    refine wm_iload_n E dM_corner_47 rfl (j := 1) rfl ?_
    refine wm_riast E (by decide) rfl rfl (by decide) (by decide) hW h dM_corner_48 (fun ρ48 h => ?_)
    refine wm_aload_n E dM_corner_49 rfl (j := 0) rfl ?_
    refine wm_rget (v := vR (some (b + 18))) E fd_M_61 rfl dM_corner_50 ?_
    refine wm_aload_n E dM_corner_53 rfl (j := 0) rfl ?_
    refine wm_rget (v := vI (ri ρ48 18)) E fd_M_151 rfl dM_corner_54 ?_
    refine wm_iload_n E dM_corner_57 rfl (j := 2) rfl ?_
    refine wm_riast E (by decide) rfl rfl (by decide) (by decide) hW h dM_corner_58 (fun ρ58 h => ?_)
    refine wm_aload_n E dM_corner_59 rfl (j := 0) rfl ?_
    refine wm_dup E dM_corner_60 rfl ?_
    refine wm_rget (v := vI (ri ρ58 18)) E fd_M_151 rfl dM_corner_61 ?_
    refine wm_iconst (x := 1) E dM_corner_64 (by decide) ?_
    refine wm_iadd E dM_corner_65 ?_
    refine wm_rpI E fp_M_151 (fun q => by cases q) rfl (by decide) hW dM_corner_66 ?_
    refine wm_rlet h (fun ρ66 h => ?_)
    refine wm_aload_n E dM_corner_69 rfl (j := 0) rfl ?_
    refine wm_rget (v := vI (ri ρ66 18)) E fd_M_151 rfl dM_corner_70 ?_
    exact wm_iret (rt := .int) E hQ (rrI h) (rrM h) (by decide) (by decide) dM_corner_73
  · have h := (if_neg c34).symm.trans h
    refine wm_iconst (x := 0) E dM_corner_37 (by decide) ?_
    exact wm_iret (rt := .int) E hQ (rrI h) (rrM h) (by decide) (by decide) dM_corner_38
def R_M_corner (v1 : Int32) (v2 : Int32) (ρ : RS) : Option (Int32 × RS) := b1 (R_M_isAt v1 v2) (fun x3 => if x3 = 0 then RB_M_corner_27 v1 v2 1 (ρ) else if (ri ρ 18) = 8 then RB_M_corner_27 v1 v2 2 (ρ) else RB_M_corner_27 v1 v2 0 (ρ))
set_option maxHeartbeats 4000000 in
set_option maxRecDepth 100000 in
theorem RC_M_corner (l : Launch) (G : GG) (b : Nat) (ρ : RS) (μ : Mem) (hW : mW μ ≤ b) (v1 : Int32) (v2 : Int32) (r : Int32) (ρ' : RS) (h : R_M_corner v1 v2 ρ = some (r, ρ')) : CT l G y_M_corner prog_13_method_9_code 3 (some .int) 2 0 0 43 (ov b ρ μ) [vR (some b), vI v1, vI v2] (some (vI r)) (ov b ρ' μ) := by
  refine wm_met (lv := [(0, vR (some b)), (1, vI v1), (2, vI v2)]) (by decide +kernel) (Nat.le_of_ble_eq_true rfl) rfl (fun X E hQ hR hI => ?_)
  have h : (b1 (R_M_isAt v1 v2) (fun x3 => if x3 = 0 then RB_M_corner_27 v1 v2 1 (ρ) else if (ri ρ 18) = 8 then RB_M_corner_27 v1 v2 2 (ρ) else RB_M_corner_27 v1 v2 0 (ρ))) = some (r, ρ') := h
  refine wm_aload_n E dM_corner_0 rfl (j := 0) rfl ?_
  refine wm_iload_n E dM_corner_1 rfl (j := 1) rfl ?_
  refine wm_iload_n E dM_corner_2 rfl (j := 2) rfl ?_
  obtain ⟨x3, hc3, h⟩ := b1S h
  refine wm_cS (As := [vI v1, vI v2]) (st := [vR (some b)]) E lk_M_147 sc_M_isAt (RC_M_isAt (xl X) X.1 v1 v2 _ _ hc3) rfl rfl (by rw [hR]; decide) (by rw [hR]; decide) (Nat.le_of_ble_eq_true rfl) dM_corner_3 ?_
  refine wm_if_ne (tgt := 13) E dM_corner_6 (by decide) (fun c6 => ?_) (fun c6 => ?_)
  · have h := (if_neg c6).symm.trans h
    refine wm_aload_n E dM_corner_13 rfl (j := 0) rfl ?_
    refine wm_rget (v := vI (ri ρ 18)) E fd_M_151 rfl dM_corner_14 ?_
    refine wm_bipush (x := 8) E dM_corner_17 (by decide) ?_
    refine wm_icmp_ne (tgt := 26) E dM_corner_19 (by decide) (fun c19 => ?_) (fun c19 => ?_)
    · have h := (if_neg c19).symm.trans h
      refine wm_iconst (x := 0) E dM_corner_26 (by decide) ?_
      refine wm_pick (lv' := [(0, vR (some b)), (1, vI v1), (2, vI v2)]) [0, 1, 2] rfl ?_
      exact rw_M_corner_27 E hQ hR hI hW v1 v2 0 (ρ) h
    · have h := (if_pos c19).symm.trans h
      refine wm_iconst (x := 2) E dM_corner_22 (by decide) ?_
      refine wm_goto (tgt := 27) E dM_corner_23 (by decide) ?_
      refine wm_pick (lv' := [(0, vR (some b)), (1, vI v1), (2, vI v2)]) [0, 1, 2] rfl ?_
      exact rw_M_corner_27 E hQ hR hI hW v1 v2 2 (ρ) h
  · have h := (if_pos c6).symm.trans h
    refine wm_iconst (x := 1) E dM_corner_9 (by decide) ?_
    refine wm_goto (tgt := 27) E dM_corner_10 (by decide) ?_
    refine wm_pick (lv' := [(0, vR (some b)), (1, vI v1), (2, vI v2)]) [0, 1, 2] rfl ?_
    exact rw_M_corner_27 E hQ hR hI hW v1 v2 1 (ρ) h
def RB_M_isArea_74 (ρ : RS)  (s0 : Int32) : Option Int32 := gd (¬ okZ s0 = true) (some (s0))
set_option maxHeartbeats 4000000 in
set_option maxRecDepth 100000 in
theorem rw_M_isArea_74 {X : CX} (E : EV X prog_13_method_10_code 4 "PlaceFinderModel" (some .boolean)) {μ0 μ : Mem} {b : Nat} {r : Int32} {ρ : RS} (hQ : RQ X 0 0 μ0 (some (vI r)) (ov b ρ μ)) (hR : xR X = { frames := 0, cells := 0, slots := 0, locals := 0 }) (hI : X.2.2.2.2.2.2.2.2.2.2.2.1.name = "isArea")  (s0 : Int32) (h : RB_M_isArea_74 ρ  s0 = some r) : WM X 4 74 [] [vI s0] 0 0 (ov b ρ μ) := by
  have h : (gd (¬ okZ s0 = true) (some (s0))) = some r := h
  obtain ⟨hz74, h⟩ := gdS h
  exact wm_zret (rt := .boolean) E hQ (rqI0 h) rfl (okZN hz74) (by decide) (by decide) dM_isArea_74
def RB_M_isArea_73 (ρ : RS)   : Option Int32 := RB_M_isArea_74 ρ 0
set_option maxHeartbeats 4000000 in
set_option maxRecDepth 100000 in
theorem rw_M_isArea_73 {X : CX} (E : EV X prog_13_method_10_code 4 "PlaceFinderModel" (some .boolean)) {μ0 μ : Mem} {b : Nat} {r : Int32} {ρ : RS} (hQ : RQ X 0 0 μ0 (some (vI r)) (ov b ρ μ)) (hR : xR X = { frames := 0, cells := 0, slots := 0, locals := 0 }) (hI : X.2.2.2.2.2.2.2.2.2.2.2.1.name = "isArea")   (h : RB_M_isArea_73 ρ   = some r) : WM X 4 73 [] [] 0 0 (ov b ρ μ) := by
  have h : (RB_M_isArea_74 ρ 0) = some r := h
  refine wm_iconst (x := 0) E dM_isArea_73 (by decide) ?_
  refine wm_pick (lv' := []) [] rfl ?_
  exact rw_M_isArea_74 E hQ hR hI 0 h
def RB_M_isArea_4 (ρ : RS)  : Nat → Int32 → Int32 → Option Int32
  | 0, _, _ => none
  | n + 1, v1, v2 => if (ri ρ 18) ≤ v2 then if (ri ρ 18) ≤ 2 then RB_M_isArea_73 ρ  else if v1 = 0 then RB_M_isArea_73 ρ  else RB_M_isArea_74 ρ 1 else gd (ri ρ 18 = 0) (b0 ((v2 + 1) - (v2 + 1) / (ri ρ 18) * (ri ρ 18)) (fun x20 => b1 (rgI ρ 19 8 v2) (fun x27 => b1 (rgI ρ 20 8 x20) (fun x33 => b1 (rgI ρ 19 8 x20) (fun x40 => b1 (rgI ρ 20 8 v2) (fun x46 => b0 (v1 + ((x27 * x33) - (x40 * x46))) (fun x50 => (fun v1 v2 => RB_M_isArea_4 ρ n v1 v2) x50 (v2 + 1))))))))
set_option maxHeartbeats 4000000 in
set_option maxRecDepth 100000 in
theorem rw_M_isArea_4 {X : CX} (E : EV X prog_13_method_10_code 4 "PlaceFinderModel" (some .boolean)) {μ0 μ : Mem} {b : Nat} {r : Int32} {ρ : RS} (hQ : RQ X 0 0 μ0 (some (vI r)) (ov b ρ μ)) (hR : xR X = { frames := 0, cells := 0, slots := 0, locals := 0 }) (hI : X.2.2.2.2.2.2.2.2.2.2.2.1.name = "isArea")  (n : Nat) : ∀ (v1 : Int32) (v2 : Int32) (h : RB_M_isArea_4 ρ  n v1 v2 = some r), WM X 4 4 [(0, vR (some b)), (1, vI v1), (2, vI v2)] [] 0 0 (ov b ρ μ) := by
  induction n with
  | zero => intro v1 v2 h; cases h
  | succ n ih =>
    intro v1 v2 h
    have h : (if (ri ρ 18) ≤ v2 then if (ri ρ 18) ≤ 2 then RB_M_isArea_73 ρ  else if v1 = 0 then RB_M_isArea_73 ρ  else RB_M_isArea_74 ρ 1 else gd (ri ρ 18 = 0) (b0 ((v2 + 1) - (v2 + 1) / (ri ρ 18) * (ri ρ 18)) (fun x20 => b1 (rgI ρ 19 8 v2) (fun x27 => b1 (rgI ρ 20 8 x20) (fun x33 => b1 (rgI ρ 19 8 x20) (fun x40 => b1 (rgI ρ 20 8 v2) (fun x46 => b0 (v1 + ((x27 * x33) - (x40 * x46))) (fun x50 => (fun v1 v2 => RB_M_isArea_4 ρ n v1 v2) x50 (v2 + 1))))))))) = some r := h
    refine wm_iload_n E dM_isArea_4 rfl (j := 2) rfl ?_
    refine wm_aload_n E dM_isArea_5 rfl (j := 0) rfl ?_
    refine wm_rget (v := vI (ri ρ 18)) E fd_M_151 rfl dM_isArea_6 ?_
    refine wm_icmp_ge (tgt := 57) E dM_isArea_9 (by decide) (fun c9 => ?_) (fun c9 => ?_)
    · have h := (if_pos c9).symm.trans h
      refine wm_aload_n E dM_isArea_57 rfl (j := 0) rfl ?_
      refine wm_rget (v := vI (ri ρ 18)) E fd_M_151 rfl dM_isArea_58 ?_
      refine wm_iconst (x := 2) E dM_isArea_61 (by decide) ?_
      refine wm_icmp_le (tgt := 73) E dM_isArea_62 (by decide) (fun c62 => ?_) (fun c62 => ?_)
      · have h := (if_pos c62).symm.trans h
        refine wm_pick (lv' := []) [] rfl ?_
        exact rw_M_isArea_73 E hQ hR hI  h
      · have h := (if_neg c62).symm.trans h
        refine wm_iload_n E dM_isArea_65 rfl (j := 1) rfl ?_
        refine wm_if_eq (tgt := 73) E dM_isArea_66 (by decide) (fun c66 => ?_) (fun c66 => ?_)
        · have h := (if_pos c66).symm.trans h
          refine wm_pick (lv' := []) [] rfl ?_
          exact rw_M_isArea_73 E hQ hR hI  h
        · have h := (if_neg c66).symm.trans h
          refine wm_iconst (x := 1) E dM_isArea_69 (by decide) ?_
          refine wm_goto (tgt := 74) E dM_isArea_70 (by decide) ?_
          refine wm_pick (lv' := []) [] rfl ?_
          exact rw_M_isArea_74 E hQ hR hI 1 h
    · have h := (if_neg c9).symm.trans h
      refine wm_iload_n E dM_isArea_12 rfl (j := 2) rfl ?_
      refine wm_iconst (x := 1) E dM_isArea_13 (by decide) ?_
      refine wm_iadd E dM_isArea_14 ?_
      refine wm_aload_n E dM_isArea_15 rfl (j := 0) rfl ?_
      refine wm_rget (v := vI (ri ρ 18)) E fd_M_151 rfl dM_isArea_16 ?_
      obtain ⟨hz19, h⟩ := gdS h
      refine wm_irem E dM_isArea_19 hz19 ?_
      refine wm_letI h (fun x20 h => ?_)
      refine wm_istore_n (lv' := [(3, vI x20), (0, vR (some b)), (1, vI v1), (2, vI v2)]) E dM_isArea_20 rfl (by decide) rfl ?_
      refine wm_iload_n E dM_isArea_21 rfl (j := 2) rfl ?_
      refine wm_aload_n E dM_isArea_22 rfl (j := 1) rfl ?_
      refine wm_rget (v := vR (some (b + 17))) E fd_M_58 rfl dM_isArea_23 ?_
      refine wm_iload_n E dM_isArea_26 rfl (j := 3) rfl ?_
      refine wm_riald E (by decide) rfl rfl (by decide) (by decide) h dM_isArea_27 (fun x27 h => ?_)
      refine wm_aload_n E dM_isArea_28 rfl (j := 1) rfl ?_
      refine wm_rget (v := vR (some (b + 18))) E fd_M_61 rfl dM_isArea_29 ?_
      refine wm_iload_n E dM_isArea_32 rfl (j := 0) rfl ?_
      refine wm_riald E (by decide) rfl rfl (by decide) (by decide) h dM_isArea_33 (fun x33 h => ?_)
      refine wm_imul E dM_isArea_34 ?_
      refine wm_aload_n E dM_isArea_35 rfl (j := 1) rfl ?_
      refine wm_rget (v := vR (some (b + 17))) E fd_M_58 rfl dM_isArea_36 ?_
      refine wm_iload_n E dM_isArea_39 rfl (j := 0) rfl ?_
      refine wm_riald E (by decide) rfl rfl (by decide) (by decide) h dM_isArea_40 (fun x40 h => ?_)
      refine wm_aload_n E dM_isArea_41 rfl (j := 1) rfl ?_
      refine wm_rget (v := vR (some (b + 18))) E fd_M_61 rfl dM_isArea_42 ?_
      refine wm_iload_n E dM_isArea_45 rfl (j := 3) rfl ?_
      refine wm_riald E (by decide) rfl rfl (by decide) (by decide) h dM_isArea_46 (fun x46 h => ?_)
      refine wm_imul E dM_isArea_47 ?_
      refine wm_isub E dM_isArea_48 ?_
      refine wm_iadd E dM_isArea_49 ?_
      refine wm_letI h (fun x50 h => ?_)
      refine wm_istore_n (lv' := [(1, vI x50), (3, vI x20), (0, vR (some b)), (2, vI v2)]) E dM_isArea_50 rfl (by decide) rfl ?_
      refine wm_iinc (lv' := [(2, vI (v2 + 1)), (1, vI x50), (3, vI x20), (0, vR (some b))]) (d := 1) E dM_isArea_51 (by decide) (j := 3) rfl (by decide) rfl ?_
      refine wm_goto (tgt := 4) E dM_isArea_54 (by decide) ?_
      refine wm_pick (lv' := [(0, vR (some b)), (1, vI x50), (2, vI (v2 + 1))]) [3, 1, 0] rfl ?_
      exact ih x50 (v2 + 1) h
def R_M_isArea  (ρ : RS) : Option Int32 := RB_M_isArea_4 ρ fu 0 0
set_option maxHeartbeats 4000000 in
set_option maxRecDepth 100000 in
theorem RC_M_isArea (l : Launch) (G : GG) (b : Nat) (ρ : RS) (μ : Mem)  (r : Int32) (h : R_M_isArea  ρ = some r) : CT l G y_M_isArea prog_13_method_10_code 4 (some .boolean) 0 0 0 0 (ov b ρ μ) [vR (some b)] (some (vI r)) (ov b ρ μ) := by
  refine wm_met (lv := [(0, vR (some b))]) (by decide +kernel) (Nat.le_of_ble_eq_true rfl) rfl (fun X E hQ hR hI => ?_)
  have h : (RB_M_isArea_4 ρ fu 0 0) = some r := h
  refine wm_iconst (x := 0) E dM_isArea_0 (by decide) ?_
  refine wm_istore_n (lv' := [(1, vI 0), (0, vR (some b))]) E dM_isArea_1 rfl (by decide) rfl ?_
  refine wm_iconst (x := 0) E dM_isArea_2 (by decide) ?_
  refine wm_istore_n (lv' := [(2, vI 0), (1, vI 0), (0, vR (some b))]) E dM_isArea_3 rfl (by decide) rfl ?_
  refine wm_pick (lv' := [(0, vR (some b)), (1, vI 0), (2, vI 0)]) [2, 1, 0] rfl ?_
  exact rw_M_isArea_4 E hQ hR hI fu 0 0 h
def RB_M_shape_140  : Nat → Int32 → Int32 → Int32 → RS → Option (Unit × RS)
  | 0, _, _, _, _ => none
  | n + 1, v1, v5, v6, ρ => if (ri ρ 18) ≤ v6 then b1 (rgI ρ 4 30 v1) (fun x201 => b1 (rsI ρ 4 30 v1 (x201 + 1)) (fun ρ204 => b0 (rpI ρ204 18 0) (fun ρ207 => some ((), ρ207)))) else b1 (rgI ρ 19 8 v6) (fun x167 => b1 (rsI ρ 7 720 ((8 * v5) + v6) x167) (fun ρ168 => b1 (rgI ρ168 20 8 v6) (fun x187 => b1 (rsI ρ168 8 720 ((8 * v5) + v6) x187) (fun ρ188 => (fun v1 v5 v6 ρ => RB_M_shape_140 n v1 v5 v6 ρ) v1 v5 (v6 + 1) (ρ188)))))
set_option maxHeartbeats 4000000 in
set_option maxRecDepth 100000 in
theorem rw_M_shape_140 {X : CX} (E : EV X prog_13_method_11_code 7 "PlaceFinderModel" none) {μ0 μ : Mem} {b : Nat} {r : Unit} {ρ' : RS} (hQ : RQ X 0 0 μ0 none (ov b ρ' μ)) (hR : xR X = { frames := 2, cells := 0, slots := 0, locals := 43 }) (hI : X.2.2.2.2.2.2.2.2.2.2.2.1.name = "shape") (hW : mW μ ≤ b)  (n : Nat) : ∀ (v1 : Int32) (v5 : Int32) (v6 : Int32) (ρ : RS) (h : RB_M_shape_140  n v1 v5 v6 ρ = some (r, ρ')), WM X 7 140 [(0, vR (some b)), (1, vI v1), (5, vI v5), (6, vI v6)] [] 0 0 (ov b ρ μ) := by
  induction n with
  | zero => intro v1 v5 v6 ρ h; cases h
  | succ n ih =>
    intro v1 v5 v6 ρ h
    have h : (if (ri ρ 18) ≤ v6 then b1 (rgI ρ 4 30 v1) (fun x201 => b1 (rsI ρ 4 30 v1 (x201 + 1)) (fun ρ204 => b0 (rpI ρ204 18 0) (fun ρ207 => some ((), ρ207)))) else b1 (rgI ρ 19 8 v6) (fun x167 => b1 (rsI ρ 7 720 ((8 * v5) + v6) x167) (fun ρ168 => b1 (rgI ρ168 20 8 v6) (fun x187 => b1 (rsI ρ168 8 720 ((8 * v5) + v6) x187) (fun ρ188 => (fun v1 v5 v6 ρ => RB_M_shape_140 n v1 v5 v6 ρ) v1 v5 (v6 + 1) (ρ188)))))) = some (r, ρ') := h
    refine wm_iload E dM_shape_140 (j := 3) rfl ?_
    refine wm_aload_n E dM_shape_142 rfl (j := 0) rfl ?_
    refine wm_rget (v := vI (ri ρ 18)) E fd_M_151 rfl dM_shape_143 ?_
    refine wm_icmp_ge (tgt := 195) E dM_shape_146 (by decide) (fun c146 => ?_) (fun c146 => ?_)
    · have h := (if_pos c146).symm.trans h
      refine wm_aload_n E dM_shape_195 rfl (j := 0) rfl ?_
      refine wm_rget (v := vR (some (b + 3))) E fd_M_16 rfl dM_shape_196 ?_
      refine wm_iload_n E dM_shape_199 rfl (j := 1) rfl ?_
      refine wm_dup2_11 E dM_shape_200 rfl rfl ?_
      refine wm_riald E (by decide) rfl rfl (by decide) (by decide) h dM_shape_201 (fun x201 h => ?_)
      refine wm_iconst (x := 1) E dM_shape_202 (by decide) ?_
      refine wm_iadd E dM_shape_203 ?_
      refine wm_riast E (by decide) rfl rfl (by decide) (by decide) hW h dM_shape_204 (fun ρ204 h => ?_)
      refine wm_aload_n E dM_shape_205 rfl (j := 0) rfl ?_
      refine wm_iconst (x := 0) E dM_shape_206 (by decide) ?_
      refine wm_rpI E fp_M_151 (fun q => by cases q) rfl (by decide) hW dM_shape_207 ?_
      refine wm_rlet h (fun ρ207 h => ?_)
      exact wm_vret E hQ rfl (rrM h) (by decide) (by decide) dM_shape_210
    · have h := (if_neg c146).symm.trans h
      refine wm_aload_n E dM_shape_149 rfl (j := 0) rfl ?_
      refine wm_rget (v := vR (some (b + 6))) E fd_M_25 rfl dM_shape_150 ?_
      refine wm_bipush (x := 8) E dM_shape_153 (by decide) ?_
      refine wm_iload E dM_shape_155 (j := 2) rfl ?_
      refine wm_imul E dM_shape_157 ?_
      refine wm_iload E dM_shape_158 (j := 3) rfl ?_
      refine wm_iadd E dM_shape_160 ?_
      refine wm_aload_n E dM_shape_161 rfl (j := 0) rfl ?_
      refine wm_rget (v := vR (some (b + 17))) E fd_M_58 rfl dM_shape_162 ?_
      refine wm_iload E dM_shape_165 (j := 3) rfl ?_
      refine wm_riald E (by decide) rfl rfl (by decide) (by decide) h dM_shape_167 (fun x167 h => ?_)
      refine wm_riast E (by decide) rfl rfl (by decide) (by decide) hW h dM_shape_168 (fun ρ168 h => ?_)
      refine wm_aload_n E dM_shape_169 rfl (j := 0) rfl ?_
      refine wm_rget (v := vR (some (b + 7))) E fd_M_28 rfl dM_shape_170 ?_
      refine wm_bipush (x := 8) E dM_shape_173 (by decide) ?_
      refine wm_iload E dM_shape_175 (j := 2) rfl ?_
      refine wm_imul E dM_shape_177 ?_
      refine wm_iload E dM_shape_178 (j := 3) rfl ?_
      refine wm_iadd E dM_shape_180 ?_
      refine wm_aload_n E dM_shape_181 rfl (j := 0) rfl ?_
      refine wm_rget (v := vR (some (b + 18))) E fd_M_61 rfl dM_shape_182 ?_
      refine wm_iload E dM_shape_185 (j := 3) rfl ?_
      refine wm_riald E (by decide) rfl rfl (by decide) (by decide) h dM_shape_187 (fun x187 h => ?_)
      refine wm_riast E (by decide) rfl rfl (by decide) (by decide) hW h dM_shape_188 (fun ρ188 h => ?_)
      refine wm_iinc (lv' := [(6, vI (v6 + 1)), (0, vR (some b)), (1, vI v1), (5, vI v5)]) (d := 1) E dM_shape_189 (by decide) (j := 3) rfl (by decide) rfl ?_
      refine wm_goto (tgt := 140) E dM_shape_192 (by decide) ?_
      refine wm_pick (lv' := [(0, vR (some b)), (1, vI v1), (5, vI v5), (6, vI (v6 + 1))]) [1, 2, 3, 0] rfl ?_
      exact ih v1 v5 (v6 + 1) (ρ188) h
def RB_M_shape_99  (v1 : Int32) (v2 : Int32) (v4 : Int32) (s1 : Int32) (ρ : RS) : Option (Unit × RS) := b0 (rpI ρ 0 s1) (fun ρ99 => if (ri ρ99 0) ≤ 0 then b0 ((3 * v1) + v4) (fun x116 => b1 (rsI ρ99 5 90 x116 v2) (fun ρ125 => b1 (rsI ρ125 6 90 x116 (ri ρ125 18)) (fun ρ136 => RB_M_shape_140 fu v1 x116 0 (ρ136)))) else some ((), ρ99))
set_option maxHeartbeats 4000000 in
set_option maxRecDepth 100000 in
theorem rw_M_shape_99 {X : CX} (E : EV X prog_13_method_11_code 7 "PlaceFinderModel" none) {μ0 μ : Mem} {b : Nat} {r : Unit} {ρ' : RS} (hQ : RQ X 0 0 μ0 none (ov b ρ' μ)) (hR : xR X = { frames := 2, cells := 0, slots := 0, locals := 43 }) (hI : X.2.2.2.2.2.2.2.2.2.2.2.1.name = "shape") (hW : mW μ ≤ b)  (v1 : Int32) (v2 : Int32) (v4 : Int32) (s1 : Int32) (ρ : RS) (h : RB_M_shape_99  v1 v2 v4 s1 ρ = some (r, ρ')) : WM X 7 99 [(0, vR (some b)), (1, vI v1), (2, vI v2), (4, vI v4)] [vI s1, vR (some b)] 0 0 (ov b ρ μ) := by
  have h : (b0 (rpI ρ 0 s1) (fun ρ99 => if (ri ρ99 0) ≤ 0 then b0 ((3 * v1) + v4) (fun x116 => b1 (rsI ρ99 5 90 x116 v2) (fun ρ125 => b1 (rsI ρ125 6 90 x116 (ri ρ125 18)) (fun ρ136 => RB_M_shape_140 fu v1 x116 0 (ρ136)))) else some ((), ρ99))) = some (r, ρ') := h
  refine wm_rpI E fp_M_132 (fun q => by cases q) rfl (by decide) hW dM_shape_99 ?_
  refine wm_rlet h (fun ρ99 h => ?_)
  refine wm_aload_n E dM_shape_102 rfl (j := 0) rfl ?_
  refine wm_rget (v := vI (ri ρ99 0)) E fd_M_132 rfl dM_shape_103 ?_
  refine wm_if_le (tgt := 110) E dM_shape_106 (by decide) (fun c106 => ?_) (fun c106 => ?_)
  · have h := (if_pos c106).symm.trans h
    refine wm_iconst (x := 3) E dM_shape_110 (by decide) ?_
    refine wm_iload_n E dM_shape_111 rfl (j := 1) rfl ?_
    refine wm_imul E dM_shape_112 ?_
    refine wm_iload E dM_shape_113 (j := 3) rfl ?_
    refine wm_iadd E dM_shape_115 ?_
    refine wm_letI h (fun x116 h => ?_)
    refine wm_istore (lv' := [(5, vI x116), (0, vR (some b)), (1, vI v1), (2, vI v2), (4, vI v4)]) E dM_shape_116 (by decide) rfl ?_
    refine wm_aload_n E dM_shape_118 rfl (j := 1) rfl ?_
    refine wm_rget (v := vR (some (b + 4))) E fd_M_19 rfl dM_shape_119 ?_
    refine wm_iload E dM_shape_122 (j := 0) rfl ?_
    refine wm_iload_n E dM_shape_124 rfl (j := 3) rfl ?_
    refine wm_riast E (by decide) rfl rfl (by decide) (by decide) hW h dM_shape_125 (fun ρ125 h => ?_)
    refine wm_aload_n E dM_shape_126 rfl (j := 1) rfl ?_
    refine wm_rget (v := vR (some (b + 5))) E fd_M_22 rfl dM_shape_127 ?_
    refine wm_iload E dM_shape_130 (j := 0) rfl ?_
    refine wm_aload_n E dM_shape_132 rfl (j := 1) rfl ?_
    refine wm_rget (v := vI (ri ρ125 18)) E fd_M_151 rfl dM_shape_133 ?_
    refine wm_riast E (by decide) rfl rfl (by decide) (by decide) hW h dM_shape_136 (fun ρ136 h => ?_)
    refine wm_iconst (x := 0) E dM_shape_137 (by decide) ?_
    refine wm_istore (lv' := [(6, vI 0), (5, vI x116), (0, vR (some b)), (1, vI v1), (2, vI v2), (4, vI v4)]) E dM_shape_138 (by decide) rfl ?_
    refine wm_pick (lv' := [(0, vR (some b)), (1, vI v1), (5, vI x116), (6, vI 0)]) [2, 3, 1, 0] rfl ?_
    exact rw_M_shape_140 E hQ hR hI hW fu v1 x116 0 (ρ136) h
  · have h := (if_neg c106).symm.trans h
    exact wm_vret E hQ rfl (rrM h) (by decide) (by decide) dM_shape_109
def RB_M_shape_94  (v1 : Int32) (v2 : Int32) (v4 : Int32) (ρ : RS) : Option (Unit × RS) := RB_M_shape_99 v1 v2 v4 2 (ρ)
set_option maxHeartbeats 4000000 in
set_option maxRecDepth 100000 in
theorem rw_M_shape_94 {X : CX} (E : EV X prog_13_method_11_code 7 "PlaceFinderModel" none) {μ0 μ : Mem} {b : Nat} {r : Unit} {ρ' : RS} (hQ : RQ X 0 0 μ0 none (ov b ρ' μ)) (hR : xR X = { frames := 2, cells := 0, slots := 0, locals := 43 }) (hI : X.2.2.2.2.2.2.2.2.2.2.2.1.name = "shape") (hW : mW μ ≤ b)  (v1 : Int32) (v2 : Int32) (v4 : Int32) (ρ : RS) (h : RB_M_shape_94  v1 v2 v4 ρ = some (r, ρ')) : WM X 7 94 [(0, vR (some b)), (1, vI v1), (2, vI v2), (4, vI v4)] [vR (some b)] 0 0 (ov b ρ μ) := by
  have h : (RB_M_shape_99 v1 v2 v4 2 (ρ)) = some (r, ρ') := h
  refine wm_iconst (x := 2) E dM_shape_94 (by decide) ?_
  refine wm_goto (tgt := 99) E dM_shape_95 (by decide) ?_
  refine wm_pick (lv' := [(0, vR (some b)), (1, vI v1), (2, vI v2), (4, vI v4)]) [0, 1, 2, 3] rfl ?_
  exact rw_M_shape_99 E hQ hR hI hW v1 v2 v4 2 (ρ) h
def RB_M_shape_98  (v1 : Int32) (v2 : Int32) (v4 : Int32) (ρ : RS) : Option (Unit × RS) := RB_M_shape_99 v1 v2 v4 0 (ρ)
set_option maxHeartbeats 4000000 in
set_option maxRecDepth 100000 in
theorem rw_M_shape_98 {X : CX} (E : EV X prog_13_method_11_code 7 "PlaceFinderModel" none) {μ0 μ : Mem} {b : Nat} {r : Unit} {ρ' : RS} (hQ : RQ X 0 0 μ0 none (ov b ρ' μ)) (hR : xR X = { frames := 2, cells := 0, slots := 0, locals := 43 }) (hI : X.2.2.2.2.2.2.2.2.2.2.2.1.name = "shape") (hW : mW μ ≤ b)  (v1 : Int32) (v2 : Int32) (v4 : Int32) (ρ : RS) (h : RB_M_shape_98  v1 v2 v4 ρ = some (r, ρ')) : WM X 7 98 [(0, vR (some b)), (1, vI v1), (2, vI v2), (4, vI v4)] [vR (some b)] 0 0 (ov b ρ μ) := by
  have h : (RB_M_shape_99 v1 v2 v4 0 (ρ)) = some (r, ρ') := h
  refine wm_iconst (x := 0) E dM_shape_98 (by decide) ?_
  refine wm_pick (lv' := [(0, vR (some b)), (1, vI v1), (2, vI v2), (4, vI v4)]) [0, 1, 2, 3] rfl ?_
  exact rw_M_shape_99 E hQ hR hI hW v1 v2 v4 0 (ρ) h
def RB_M_shape_46  (v1 : Int32) (v2 : Int32) (s1 : Int32) (ρ : RS) : Option (Unit × RS) := b0 (rpI ρ 0 s1) (fun ρ46 => if (ri ρ46 0) ≤ 0 then b1 (rgI ρ46 4 30 v1) (fun x62 => if x62 = 3 then RB_M_shape_94 v1 v2 x62 (ρ46) else if x62 ≤ 0 then RB_M_shape_98 v1 v2 x62 (ρ46) else b1 (rgI ρ46 5 90 (((3 * v1) + x62) - 1)) (fun x89 => if x89 < v2 then RB_M_shape_98 v1 v2 x62 (ρ46) else RB_M_shape_94 v1 v2 x62 (ρ46))) else some ((), ρ46))
set_option maxHeartbeats 4000000 in
set_option maxRecDepth 100000 in
theorem rw_M_shape_46 {X : CX} (E : EV X prog_13_method_11_code 7 "PlaceFinderModel" none) {μ0 μ : Mem} {b : Nat} {r : Unit} {ρ' : RS} (hQ : RQ X 0 0 μ0 none (ov b ρ' μ)) (hR : xR X = { frames := 2, cells := 0, slots := 0, locals := 43 }) (hI : X.2.2.2.2.2.2.2.2.2.2.2.1.name = "shape") (hW : mW μ ≤ b)  (v1 : Int32) (v2 : Int32) (s1 : Int32) (ρ : RS) (h : RB_M_shape_46  v1 v2 s1 ρ = some (r, ρ')) : WM X 7 46 [(0, vR (some b)), (1, vI v1), (2, vI v2)] [vI s1, vR (some b)] 0 0 (ov b ρ μ) := by
  have h : (b0 (rpI ρ 0 s1) (fun ρ46 => if (ri ρ46 0) ≤ 0 then b1 (rgI ρ46 4 30 v1) (fun x62 => if x62 = 3 then RB_M_shape_94 v1 v2 x62 (ρ46) else if x62 ≤ 0 then RB_M_shape_98 v1 v2 x62 (ρ46) else b1 (rgI ρ46 5 90 (((3 * v1) + x62) - 1)) (fun x89 => if x89 < v2 then RB_M_shape_98 v1 v2 x62 (ρ46) else RB_M_shape_94 v1 v2 x62 (ρ46))) else some ((), ρ46))) = some (r, ρ') := h
  refine wm_rpI E fp_M_132 (fun q => by cases q) rfl (by decide) hW dM_shape_46 ?_
  refine wm_rlet h (fun ρ46 h => ?_)
  refine wm_aload_n E dM_shape_49 rfl (j := 0) rfl ?_
  refine wm_rget (v := vI (ri ρ46 0)) E fd_M_132 rfl dM_shape_50 ?_
  refine wm_if_le (tgt := 57) E dM_shape_53 (by decide) (fun c53 => ?_) (fun c53 => ?_)
  · have h := (if_pos c53).symm.trans h
    refine wm_aload_n E dM_shape_57 rfl (j := 0) rfl ?_
    refine wm_rget (v := vR (some (b + 3))) E fd_M_16 rfl dM_shape_58 ?_
    refine wm_iload_n E dM_shape_61 rfl (j := 1) rfl ?_
    refine wm_riald E (by decide) rfl rfl (by decide) (by decide) h dM_shape_62 (fun x62 h => ?_)
    refine wm_istore (lv' := [(4, vI x62), (0, vR (some b)), (1, vI v1), (2, vI v2)]) E dM_shape_63 (by decide) rfl ?_
    refine wm_aload_n E dM_shape_65 rfl (j := 1) rfl ?_
    refine wm_iload E dM_shape_66 (j := 0) rfl ?_
    refine wm_iconst (x := 3) E dM_shape_68 (by decide) ?_
    refine wm_icmp_eq (tgt := 94) E dM_shape_69 (by decide) (fun c69 => ?_) (fun c69 => ?_)
    · have h := (if_pos c69).symm.trans h
      refine wm_pick (lv' := [(0, vR (some b)), (1, vI v1), (2, vI v2), (4, vI x62)]) [1, 2, 3, 0] rfl ?_
      exact rw_M_shape_94 E hQ hR hI hW v1 v2 x62 (ρ46) h
    · have h := (if_neg c69).symm.trans h
      refine wm_iload E dM_shape_72 (j := 0) rfl ?_
      refine wm_if_le (tgt := 98) E dM_shape_74 (by decide) (fun c74 => ?_) (fun c74 => ?_)
      · have h := (if_pos c74).symm.trans h
        refine wm_pick (lv' := [(0, vR (some b)), (1, vI v1), (2, vI v2), (4, vI x62)]) [1, 2, 3, 0] rfl ?_
        exact rw_M_shape_98 E hQ hR hI hW v1 v2 x62 (ρ46) h
      · have h := (if_neg c74).symm.trans h
        refine wm_aload_n E dM_shape_77 rfl (j := 1) rfl ?_
        refine wm_rget (v := vR (some (b + 4))) E fd_M_19 rfl dM_shape_78 ?_
        refine wm_iconst (x := 3) E dM_shape_81 (by decide) ?_
        refine wm_iload_n E dM_shape_82 rfl (j := 2) rfl ?_
        refine wm_imul E dM_shape_83 ?_
        refine wm_iload E dM_shape_84 (j := 0) rfl ?_
        refine wm_iadd E dM_shape_86 ?_
        refine wm_iconst (x := 1) E dM_shape_87 (by decide) ?_
        refine wm_isub E dM_shape_88 ?_
        refine wm_riald E (by decide) rfl rfl (by decide) (by decide) h dM_shape_89 (fun x89 h => ?_)
        refine wm_iload_n E dM_shape_90 rfl (j := 3) rfl ?_
        refine wm_icmp_lt (tgt := 98) E dM_shape_91 (by decide) (fun c91 => ?_) (fun c91 => ?_)
        · have h := (if_pos c91).symm.trans h
          refine wm_pick (lv' := [(0, vR (some b)), (1, vI v1), (2, vI v2), (4, vI x62)]) [1, 2, 3, 0] rfl ?_
          exact rw_M_shape_98 E hQ hR hI hW v1 v2 x62 (ρ46) h
        · have h := (if_neg c91).symm.trans h
          refine wm_pick (lv' := [(0, vR (some b)), (1, vI v1), (2, vI v2), (4, vI x62)]) [1, 2, 3, 0] rfl ?_
          exact rw_M_shape_94 E hQ hR hI hW v1 v2 x62 (ρ46) h
  · have h := (if_neg c53).symm.trans h
    exact wm_vret E hQ rfl (rrM h) (by decide) (by decide) dM_shape_56
def RB_M_shape_35  (v1 : Int32) (v2 : Int32) (s0 : Int32) (ρ : RS) : Option (Unit × RS) := if s0 = 0 then RB_M_shape_46 v1 v2 1 (ρ) else RB_M_shape_46 v1 v2 0 (ρ)
set_option maxHeartbeats 4000000 in
set_option maxRecDepth 100000 in
theorem rw_M_shape_35 {X : CX} (E : EV X prog_13_method_11_code 7 "PlaceFinderModel" none) {μ0 μ : Mem} {b : Nat} {r : Unit} {ρ' : RS} (hQ : RQ X 0 0 μ0 none (ov b ρ' μ)) (hR : xR X = { frames := 2, cells := 0, slots := 0, locals := 43 }) (hI : X.2.2.2.2.2.2.2.2.2.2.2.1.name = "shape") (hW : mW μ ≤ b)  (v1 : Int32) (v2 : Int32) (s0 : Int32) (ρ : RS) (h : RB_M_shape_35  v1 v2 s0 ρ = some (r, ρ')) : WM X 7 35 [(0, vR (some b)), (1, vI v1), (2, vI v2)] [vI s0] 0 0 (ov b ρ μ) := by
  have h : (if s0 = 0 then RB_M_shape_46 v1 v2 1 (ρ) else RB_M_shape_46 v1 v2 0 (ρ)) = some (r, ρ') := h
  refine wm_istore_n (lv' := [(3, vI s0), (0, vR (some b)), (1, vI v1), (2, vI v2)]) E dM_shape_35 rfl (by decide) rfl ?_
  refine wm_aload_n E dM_shape_36 rfl (j := 1) rfl ?_
  refine wm_iload_n E dM_shape_37 rfl (j := 0) rfl ?_
  refine wm_if_eq (tgt := 45) E dM_shape_38 (by decide) (fun c38 => ?_) (fun c38 => ?_)
  · have h := (if_pos c38).symm.trans h
    refine wm_iconst (x := 1) E dM_shape_45 (by decide) ?_
    refine wm_pick (lv' := [(0, vR (some b)), (1, vI v1), (2, vI v2)]) [1, 2, 3] rfl ?_
    exact rw_M_shape_46 E hQ hR hI hW v1 v2 1 (ρ) h
  · have h := (if_neg c38).symm.trans h
    refine wm_iconst (x := 0) E dM_shape_41 (by decide) ?_
    refine wm_goto (tgt := 46) E dM_shape_42 (by decide) ?_
    refine wm_pick (lv' := [(0, vR (some b)), (1, vI v1), (2, vI v2)]) [1, 2, 3] rfl ?_
    exact rw_M_shape_46 E hQ hR hI hW v1 v2 0 (ρ) h
def RB_M_shape_34  (v1 : Int32) (v2 : Int32) (ρ : RS) : Option (Unit × RS) := RB_M_shape_35 v1 v2 0 (ρ)
set_option maxHeartbeats 4000000 in
set_option maxRecDepth 100000 in
theorem rw_M_shape_34 {X : CX} (E : EV X prog_13_method_11_code 7 "PlaceFinderModel" none) {μ0 μ : Mem} {b : Nat} {r : Unit} {ρ' : RS} (hQ : RQ X 0 0 μ0 none (ov b ρ' μ)) (hR : xR X = { frames := 2, cells := 0, slots := 0, locals := 43 }) (hI : X.2.2.2.2.2.2.2.2.2.2.2.1.name = "shape") (hW : mW μ ≤ b)  (v1 : Int32) (v2 : Int32) (ρ : RS) (h : RB_M_shape_34  v1 v2 ρ = some (r, ρ')) : WM X 7 34 [(0, vR (some b)), (1, vI v1), (2, vI v2)] [] 0 0 (ov b ρ μ) := by
  have h : (RB_M_shape_35 v1 v2 0 (ρ)) = some (r, ρ') := h
  refine wm_iconst (x := 0) E dM_shape_34 (by decide) ?_
  refine wm_pick (lv' := [(0, vR (some b)), (1, vI v1), (2, vI v2)]) [0, 1, 2] rfl ?_
  exact rw_M_shape_35 E hQ hR hI hW v1 v2 0 (ρ) h
def RB_M_shape_30  (v1 : Int32) (v2 : Int32) (ρ : RS) : Option (Unit × RS) := RB_M_shape_35 v1 v2 1 (ρ)
set_option maxHeartbeats 4000000 in
set_option maxRecDepth 100000 in
theorem rw_M_shape_30 {X : CX} (E : EV X prog_13_method_11_code 7 "PlaceFinderModel" none) {μ0 μ : Mem} {b : Nat} {r : Unit} {ρ' : RS} (hQ : RQ X 0 0 μ0 none (ov b ρ' μ)) (hR : xR X = { frames := 2, cells := 0, slots := 0, locals := 43 }) (hI : X.2.2.2.2.2.2.2.2.2.2.2.1.name = "shape") (hW : mW μ ≤ b)  (v1 : Int32) (v2 : Int32) (ρ : RS) (h : RB_M_shape_30  v1 v2 ρ = some (r, ρ')) : WM X 7 30 [(0, vR (some b)), (1, vI v1), (2, vI v2)] [] 0 0 (ov b ρ μ) := by
  have h : (RB_M_shape_35 v1 v2 1 (ρ)) = some (r, ρ') := h
  refine wm_iconst (x := 1) E dM_shape_30 (by decide) ?_
  refine wm_goto (tgt := 35) E dM_shape_31 (by decide) ?_
  refine wm_pick (lv' := [(0, vR (some b)), (1, vI v1), (2, vI v2)]) [0, 1, 2] rfl ?_
  exact rw_M_shape_35 E hQ hR hI hW v1 v2 1 (ρ) h
def R_M_shape (v1 : Int32) (v2 : Int32) (ρ : RS) : Option (Unit × RS) := b1 (R_M_isPlace v1 (ρ)) (fun x2 => if x2 = 0 then RB_M_shape_34 v1 v2 (ρ) else b1 (R_M_isDay v2) (fun x9 => if x9 = 0 then RB_M_shape_34 v1 v2 (ρ) else if (ri ρ 18) = 1 then RB_M_shape_30 v1 v2 (ρ) else b1 (R_M_isArea  (ρ)) (fun x24 => if x24 = 0 then RB_M_shape_34 v1 v2 (ρ) else RB_M_shape_30 v1 v2 (ρ))))
set_option maxHeartbeats 4000000 in
set_option maxRecDepth 100000 in
theorem RC_M_shape (l : Launch) (G : GG) (b : Nat) (ρ : RS) (μ : Mem) (hW : mW μ ≤ b) (v1 : Int32) (v2 : Int32) (r : Unit) (ρ' : RS) (h : R_M_shape v1 v2 ρ = some (r, ρ')) : CT l G y_M_shape prog_13_method_11_code 7 none 2 0 0 43 (ov b ρ μ) [vR (some b), vI v1, vI v2] none (ov b ρ' μ) := by
  refine wm_met (lv := [(0, vR (some b)), (1, vI v1), (2, vI v2)]) (by decide +kernel) (Nat.le_of_ble_eq_true rfl) rfl (fun X E hQ hR hI => ?_)
  have h : (b1 (R_M_isPlace v1 (ρ)) (fun x2 => if x2 = 0 then RB_M_shape_34 v1 v2 (ρ) else b1 (R_M_isDay v2) (fun x9 => if x9 = 0 then RB_M_shape_34 v1 v2 (ρ) else if (ri ρ 18) = 1 then RB_M_shape_30 v1 v2 (ρ) else b1 (R_M_isArea  (ρ)) (fun x24 => if x24 = 0 then RB_M_shape_34 v1 v2 (ρ) else RB_M_shape_30 v1 v2 (ρ))))) = some (r, ρ') := h
  refine wm_aload_n E dM_shape_0 rfl (j := 0) rfl ?_
  refine wm_iload_n E dM_shape_1 rfl (j := 1) rfl ?_
  obtain ⟨x2, hc2, h⟩ := b1S h
  refine wm_cV (ci := 12) (As := [vI v1]) (st := []) E lk_M_154 rfl im_M_isPlace sl_M_isPlace (ov_rc _ _ _) (RC_M_isPlace (xl X) X.1 b (ρ) μ v1 _ hc2) rfl rfl (by rw [hR]; decide) (by rw [hR]; decide) (Nat.le_of_ble_eq_true rfl) dM_shape_2 ?_
  refine wm_if_eq (tgt := 34) E dM_shape_5 (by decide) (fun c5 => ?_) (fun c5 => ?_)
  · have h := (if_pos c5).symm.trans h
    refine wm_pick (lv' := [(0, vR (some b)), (1, vI v1), (2, vI v2)]) [0, 1, 2] rfl ?_
    exact rw_M_shape_34 E hQ hR hI hW v1 v2 (ρ) h
  · have h := (if_neg c5).symm.trans h
    refine wm_iload_n E dM_shape_8 rfl (j := 2) rfl ?_
    obtain ⟨x9, hc9, h⟩ := b1S h
    refine wm_cS (As := [vI v2]) (st := []) E lk_M_143 sc_M_isDay (RC_M_isDay (xl X) X.1 v2 _ _ hc9) rfl rfl (by rw [hR]; decide) (by rw [hR]; decide) (Nat.le_of_ble_eq_true rfl) dM_shape_9 ?_
    refine wm_if_eq (tgt := 34) E dM_shape_12 (by decide) (fun c12 => ?_) (fun c12 => ?_)
    · have h := (if_pos c12).symm.trans h
      refine wm_pick (lv' := [(0, vR (some b)), (1, vI v1), (2, vI v2)]) [0, 1, 2] rfl ?_
      exact rw_M_shape_34 E hQ hR hI hW v1 v2 (ρ) h
    · have h := (if_neg c12).symm.trans h
      refine wm_aload_n E dM_shape_15 rfl (j := 0) rfl ?_
      refine wm_rget (v := vI (ri ρ 18)) E fd_M_151 rfl dM_shape_16 ?_
      refine wm_iconst (x := 1) E dM_shape_19 (by decide) ?_
      refine wm_icmp_eq (tgt := 30) E dM_shape_20 (by decide) (fun c20 => ?_) (fun c20 => ?_)
      · have h := (if_pos c20).symm.trans h
        refine wm_pick (lv' := [(0, vR (some b)), (1, vI v1), (2, vI v2)]) [0, 1, 2] rfl ?_
        exact rw_M_shape_30 E hQ hR hI hW v1 v2 (ρ) h
      · have h := (if_neg c20).symm.trans h
        refine wm_aload_n E dM_shape_23 rfl (j := 0) rfl ?_
        obtain ⟨x24, hc24, h⟩ := b1S h
        refine wm_cV (ci := 12) (As := []) (st := []) E lk_M_157 rfl im_M_isArea sl_M_isArea (ov_rc _ _ _) (RC_M_isArea (xl X) X.1 b (ρ) μ  _ hc24) rfl rfl (by rw [hR]; decide) (by rw [hR]; decide) (Nat.le_of_ble_eq_true rfl) dM_shape_24 ?_
        refine wm_if_eq (tgt := 34) E dM_shape_27 (by decide) (fun c27 => ?_) (fun c27 => ?_)
        · have h := (if_pos c27).symm.trans h
          refine wm_pick (lv' := [(0, vR (some b)), (1, vI v1), (2, vI v2)]) [0, 1, 2] rfl ?_
          exact rw_M_shape_34 E hQ hR hI hW v1 v2 (ρ) h
        · have h := (if_neg c27).symm.trans h
          refine wm_pick (lv' := [(0, vR (some b)), (1, vI v1), (2, vI v2)]) [0, 1, 2] rfl ?_
          exact rw_M_shape_30 E hQ hR hI hW v1 v2 (ρ) h
def RB_M_route_29  : Nat → Int32 → RS → Option (Unit × RS)
  | 0, _, _ => none
  | n + 1, v1, ρ => if (ri ρ 18) ≤ v1 then b0 (rpI ρ 18 0) (fun ρ69 => some ((), ρ69)) else b1 (rgI ρ 19 8 v1) (fun x47 => b1 (rsI ρ 31 40 v1 x47) (fun ρ48 => b1 (rgI ρ48 20 8 v1) (fun x59 => b1 (rsI ρ48 32 40 v1 x59) (fun ρ60 => (fun v1 ρ => RB_M_route_29 n v1 ρ) (v1 + 1) (ρ60)))))
set_option maxHeartbeats 4000000 in
set_option maxRecDepth 100000 in
theorem rw_M_route_29 {X : CX} (E : EV X prog_13_method_12_code 2 "PlaceFinderModel" none) {μ0 μ : Mem} {b : Nat} {r : Unit} {ρ' : RS} (hQ : RQ X 0 0 μ0 none (ov b ρ' μ)) (hR : xR X = { frames := 0, cells := 0, slots := 0, locals := 0 }) (hI : X.2.2.2.2.2.2.2.2.2.2.2.1.name = "route") (hW : mW μ ≤ b)  (n : Nat) : ∀ (v1 : Int32) (ρ : RS) (h : RB_M_route_29  n v1 ρ = some (r, ρ')), WM X 2 29 [(0, vR (some b)), (1, vI v1)] [] 0 0 (ov b ρ μ) := by
  induction n with
  | zero => intro v1 ρ h; cases h
  | succ n ih =>
    intro v1 ρ h
    have h : (if (ri ρ 18) ≤ v1 then b0 (rpI ρ 18 0) (fun ρ69 => some ((), ρ69)) else b1 (rgI ρ 19 8 v1) (fun x47 => b1 (rsI ρ 31 40 v1 x47) (fun ρ48 => b1 (rgI ρ48 20 8 v1) (fun x59 => b1 (rsI ρ48 32 40 v1 x59) (fun ρ60 => (fun v1 ρ => RB_M_route_29 n v1 ρ) (v1 + 1) (ρ60)))))) = some (r, ρ') := h
    refine wm_iload_n E dM_route_29 rfl (j := 1) rfl ?_
    refine wm_aload_n E dM_route_30 rfl (j := 0) rfl ?_
    refine wm_rget (v := vI (ri ρ 18)) E fd_M_151 rfl dM_route_31 ?_
    refine wm_icmp_ge (tgt := 67) E dM_route_34 (by decide) (fun c34 => ?_) (fun c34 => ?_)
    · have h := (if_pos c34).symm.trans h
      refine wm_aload_n E dM_route_67 rfl (j := 0) rfl ?_
      refine wm_iconst (x := 0) E dM_route_68 (by decide) ?_
      refine wm_rpI E fp_M_151 (fun q => by cases q) rfl (by decide) hW dM_route_69 ?_
      refine wm_rlet h (fun ρ69 h => ?_)
      exact wm_vret E hQ rfl (rrM h) (by decide) (by decide) dM_route_72
    · have h := (if_neg c34).symm.trans h
      refine wm_aload_n E dM_route_37 rfl (j := 0) rfl ?_
      refine wm_rget (v := vR (some (b + 28))) E fd_M_91 rfl dM_route_38 ?_
      refine wm_iload_n E dM_route_41 rfl (j := 1) rfl ?_
      refine wm_aload_n E dM_route_42 rfl (j := 0) rfl ?_
      refine wm_rget (v := vR (some (b + 17))) E fd_M_58 rfl dM_route_43 ?_
      refine wm_iload_n E dM_route_46 rfl (j := 1) rfl ?_
      refine wm_riald E (by decide) rfl rfl (by decide) (by decide) h dM_route_47 (fun x47 h => ?_)
      refine wm_riast E (by decide) rfl rfl (by decide) (by decide) hW h dM_route_48 (fun ρ48 h => ?_)
      refine wm_aload_n E dM_route_49 rfl (j := 0) rfl ?_
      refine wm_rget (v := vR (some (b + 29))) E fd_M_94 rfl dM_route_50 ?_
      refine wm_iload_n E dM_route_53 rfl (j := 1) rfl ?_
      refine wm_aload_n E dM_route_54 rfl (j := 0) rfl ?_
      refine wm_rget (v := vR (some (b + 18))) E fd_M_61 rfl dM_route_55 ?_
      refine wm_iload_n E dM_route_58 rfl (j := 1) rfl ?_
      refine wm_riald E (by decide) rfl rfl (by decide) (by decide) h dM_route_59 (fun x59 h => ?_)
      refine wm_riast E (by decide) rfl rfl (by decide) (by decide) hW h dM_route_60 (fun ρ60 h => ?_)
      refine wm_iinc (lv' := [(1, vI (v1 + 1)), (0, vR (some b))]) (d := 1) E dM_route_61 (by decide) (j := 1) rfl (by decide) rfl ?_
      refine wm_goto (tgt := 29) E dM_route_64 (by decide) ?_
      refine wm_pick (lv' := [(0, vR (some b)), (1, vI (v1 + 1))]) [1, 0] rfl ?_
      exact ih (v1 + 1) (ρ60) h
def RB_M_route_26  (s1 : Int32) (s2 : Int32) (ρ : RS) : Option (Unit × RS) := b1 (rsI ρ 30 5 s1 s2) (fun ρ26 => RB_M_route_29 fu 0 (ρ26))
set_option maxHeartbeats 4000000 in
set_option maxRecDepth 100000 in
theorem rw_M_route_26 {X : CX} (E : EV X prog_13_method_12_code 2 "PlaceFinderModel" none) {μ0 μ : Mem} {b : Nat} {r : Unit} {ρ' : RS} (hQ : RQ X 0 0 μ0 none (ov b ρ' μ)) (hR : xR X = { frames := 0, cells := 0, slots := 0, locals := 0 }) (hI : X.2.2.2.2.2.2.2.2.2.2.2.1.name = "route") (hW : mW μ ≤ b)  (s1 : Int32) (s2 : Int32) (ρ : RS) (h : RB_M_route_26  s1 s2 ρ = some (r, ρ')) : WM X 2 26 [(0, vR (some b))] [vI s2, vI s1, vR (some (b + 27))] 0 0 (ov b ρ μ) := by
  have h : (b1 (rsI ρ 30 5 s1 s2) (fun ρ26 => RB_M_route_29 fu 0 (ρ26))) = some (r, ρ') := h
  refine wm_riast E (by decide) rfl rfl (by decide) (by decide) hW h dM_route_26 (fun ρ26 h => ?_)
  refine wm_iconst (x := 0) E dM_route_27 (by decide) ?_
  refine wm_istore_n (lv' := [(1, vI 0), (0, vR (some b))]) E dM_route_28 rfl (by decide) rfl ?_
  refine wm_pick (lv' := [(0, vR (some b)), (1, vI 0)]) [1, 0] rfl ?_
  exact rw_M_route_29 E hQ hR hI hW fu 0 (ρ26) h
def R_M_route  (ρ : RS) : Option (Unit × RS) := b0 (rpI ρ 0 0) (fun ρ2 => if 2 ≤ (ri ρ2 18) then RB_M_route_26 0 (ri ρ2 18) (ρ2) else RB_M_route_26 0 0 (ρ2))
set_option maxHeartbeats 4000000 in
set_option maxRecDepth 100000 in
theorem RC_M_route (l : Launch) (G : GG) (b : Nat) (ρ : RS) (μ : Mem) (hW : mW μ ≤ b)  (r : Unit) (ρ' : RS) (h : R_M_route  ρ = some (r, ρ')) : CT l G y_M_route prog_13_method_12_code 2 none 0 0 0 0 (ov b ρ μ) [vR (some b)] none (ov b ρ' μ) := by
  refine wm_met (lv := [(0, vR (some b))]) (by decide +kernel) (Nat.le_of_ble_eq_true rfl) rfl (fun X E hQ hR hI => ?_)
  have h : (b0 (rpI ρ 0 0) (fun ρ2 => if 2 ≤ (ri ρ2 18) then RB_M_route_26 0 (ri ρ2 18) (ρ2) else RB_M_route_26 0 0 (ρ2))) = some (r, ρ') := h
  refine wm_aload_n E dM_route_0 rfl (j := 0) rfl ?_
  refine wm_iconst (x := 0) E dM_route_1 (by decide) ?_
  refine wm_rpI E fp_M_132 (fun q => by cases q) rfl (by decide) hW dM_route_2 ?_
  refine wm_rlet h (fun ρ2 h => ?_)
  refine wm_aload_n E dM_route_5 rfl (j := 0) rfl ?_
  refine wm_rget (v := vR (some (b + 27))) E fd_M_88 rfl dM_route_6 ?_
  refine wm_iconst (x := 0) E dM_route_9 (by decide) ?_
  refine wm_aload_n E dM_route_10 rfl (j := 0) rfl ?_
  refine wm_rget (v := vI (ri ρ2 18)) E fd_M_151 rfl dM_route_11 ?_
  refine wm_iconst (x := 2) E dM_route_14 (by decide) ?_
  refine wm_icmp_ge (tgt := 22) E dM_route_15 (by decide) (fun c15 => ?_) (fun c15 => ?_)
  · have h := (if_pos c15).symm.trans h
    refine wm_aload_n E dM_route_22 rfl (j := 0) rfl ?_
    refine wm_rget (v := vI (ri ρ2 18)) E fd_M_151 rfl dM_route_23 ?_
    refine wm_pick (lv' := [(0, vR (some b))]) [0] rfl ?_
    exact rw_M_route_26 E hQ hR hI hW 0 (ri ρ2 18) (ρ2) h
  · have h := (if_neg c15).symm.trans h
    refine wm_iconst (x := 0) E dM_route_18 (by decide) ?_
    refine wm_goto (tgt := 26) E dM_route_19 (by decide) ?_
    refine wm_pick (lv' := [(0, vR (some b))]) [0] rfl ?_
    exact rw_M_route_26 E hQ hR hI hW 0 0 (ρ2) h
def RB_M_shapeOf_38 (ρ : RS) (k5 : Int32 → Int32 → Int32 → Int32 → Option Int32) (v1 : Int32) (v2 : Int32) (v3 : Int32) (v4 : Int32) : Option Int32 := k5 v1 v2 v3 (v4 + 1)
set_option maxHeartbeats 4000000 in
set_option maxRecDepth 100000 in
theorem rw_M_shapeOf_38 {X : CX} (E : EV X prog_13_method_13_code 5 "PlaceFinderModel" (some .int)) {μ0 μ : Mem} {b : Nat} {r : Int32} {ρ : RS} (hQ : RQ X 0 0 μ0 (some (vI r)) (ov b ρ μ)) (hR : xR X = { frames := 0, cells := 0, slots := 0, locals := 0 }) (hI : X.2.2.2.2.2.2.2.2.2.2.2.1.name = "shapeOf") (k5 : Int32 → Int32 → Int32 → Int32 → Option Int32) (hk5 : ∀ (v1 : Int32) (v2 : Int32) (v3 : Int32) (v4 : Int32), k5 v1 v2 v3 v4 = some r → WM X 5 5 [(0, vR (some b)), (1, vI v1), (2, vI v2), (3, vI v3), (4, vI v4)] [] 0 0 (ov b ρ μ)) (v1 : Int32) (v2 : Int32) (v3 : Int32) (v4 : Int32) (h : RB_M_shapeOf_38 ρ k5 v1 v2 v3 v4 = some r) : WM X 5 38 [(0, vR (some b)), (1, vI v1), (2, vI v2), (3, vI v3), (4, vI v4)] [] 0 0 (ov b ρ μ) := by
  have h : (k5 v1 v2 v3 (v4 + 1)) = some r := h
  refine wm_iinc (lv' := [(4, vI (v4 + 1)), (0, vR (some b)), (1, vI v1), (2, vI v2), (3, vI v3)]) (d := 1) E dM_shapeOf_38 (by decide) (j := 4) rfl (by decide) rfl ?_
  refine wm_goto (tgt := 5) E dM_shapeOf_41 (by decide) ?_
  refine wm_pick (lv' := [(0, vR (some b)), (1, vI v1), (2, vI v2), (3, vI v3), (4, vI (v4 + 1))]) [1, 2, 3, 4, 0] rfl ?_
  exact hk5 v1 v2 v3 (v4 + 1) h
def RB_M_shapeOf_5 (ρ : RS)  : Nat → Int32 → Int32 → Int32 → Int32 → Option Int32
  | 0, _, _, _, _ => none
  | n + 1, v1, v2, v3, v4 => b1 (rgI ρ 4 30 v1) (fun x12 => if x12 ≤ v4 then some (v3) else b1 (rgI ρ 5 90 ((3 * v1) + v4)) (fun x26 => if v2 < x26 then RB_M_shapeOf_38 ρ (fun v1 v2 v3 v4 => RB_M_shapeOf_5 ρ n v1 v2 v3 v4) v1 v2 v3 v4 else b0 ((3 * v1) + v4) (fun x37 => RB_M_shapeOf_38 ρ (fun v1 v2 v3 v4 => RB_M_shapeOf_5 ρ n v1 v2 v3 v4) v1 v2 x37 v4)))
set_option maxHeartbeats 4000000 in
set_option maxRecDepth 100000 in
theorem rw_M_shapeOf_5 {X : CX} (E : EV X prog_13_method_13_code 5 "PlaceFinderModel" (some .int)) {μ0 μ : Mem} {b : Nat} {r : Int32} {ρ : RS} (hQ : RQ X 0 0 μ0 (some (vI r)) (ov b ρ μ)) (hR : xR X = { frames := 0, cells := 0, slots := 0, locals := 0 }) (hI : X.2.2.2.2.2.2.2.2.2.2.2.1.name = "shapeOf")  (n : Nat) : ∀ (v1 : Int32) (v2 : Int32) (v3 : Int32) (v4 : Int32) (h : RB_M_shapeOf_5 ρ  n v1 v2 v3 v4 = some r), WM X 5 5 [(0, vR (some b)), (1, vI v1), (2, vI v2), (3, vI v3), (4, vI v4)] [] 0 0 (ov b ρ μ) := by
  induction n with
  | zero => intro v1 v2 v3 v4 h; cases h
  | succ n ih =>
    intro v1 v2 v3 v4 h
    have h : (b1 (rgI ρ 4 30 v1) (fun x12 => if x12 ≤ v4 then some (v3) else b1 (rgI ρ 5 90 ((3 * v1) + v4)) (fun x26 => if v2 < x26 then RB_M_shapeOf_38 ρ (fun v1 v2 v3 v4 => RB_M_shapeOf_5 ρ n v1 v2 v3 v4) v1 v2 v3 v4 else b0 ((3 * v1) + v4) (fun x37 => RB_M_shapeOf_38 ρ (fun v1 v2 v3 v4 => RB_M_shapeOf_5 ρ n v1 v2 v3 v4) v1 v2 x37 v4)))) = some r := h
    refine wm_iload E dM_shapeOf_5 (j := 4) rfl ?_
    refine wm_aload_n E dM_shapeOf_7 rfl (j := 0) rfl ?_
    refine wm_rget (v := vR (some (b + 3))) E fd_M_16 rfl dM_shapeOf_8 ?_
    refine wm_iload_n E dM_shapeOf_11 rfl (j := 1) rfl ?_
    refine wm_riald E (by decide) rfl rfl (by decide) (by decide) h dM_shapeOf_12 (fun x12 h => ?_)
    refine wm_icmp_ge (tgt := 44) E dM_shapeOf_13 (by decide) (fun c13 => ?_) (fun c13 => ?_)
    · have h := (if_pos c13).symm.trans h
      refine wm_iload_n E dM_shapeOf_44 rfl (j := 3) rfl ?_
      exact wm_iret (rt := .int) E hQ (rqI0 h) rfl (by decide) (by decide) dM_shapeOf_45
    · have h := (if_neg c13).symm.trans h
      refine wm_aload_n E dM_shapeOf_16 rfl (j := 0) rfl ?_
      refine wm_rget (v := vR (some (b + 4))) E fd_M_19 rfl dM_shapeOf_17 ?_
      refine wm_iconst (x := 3) E dM_shapeOf_20 (by decide) ?_
      refine wm_iload_n E dM_shapeOf_21 rfl (j := 1) rfl ?_
      refine wm_imul E dM_shapeOf_22 ?_
      refine wm_iload E dM_shapeOf_23 (j := 4) rfl ?_
      refine wm_iadd E dM_shapeOf_25 ?_
      refine wm_riald E (by decide) rfl rfl (by decide) (by decide) h dM_shapeOf_26 (fun x26 h => ?_)
      refine wm_iload_n E dM_shapeOf_27 rfl (j := 2) rfl ?_
      refine wm_icmp_gt (tgt := 38) E dM_shapeOf_28 (by decide) (fun c28 => ?_) (fun c28 => ?_)
      · have h := (if_pos c28).symm.trans h
        refine wm_pick (lv' := [(0, vR (some b)), (1, vI v1), (2, vI v2), (3, vI v3), (4, vI v4)]) [0, 1, 2, 3, 4] rfl ?_
        exact rw_M_shapeOf_38 E hQ hR hI (fun v1 v2 v3 v4 => RB_M_shapeOf_5 ρ n v1 v2 v3 v4) ih v1 v2 v3 v4 h
      · have h := (if_neg c28).symm.trans h
        refine wm_iconst (x := 3) E dM_shapeOf_31 (by decide) ?_
        refine wm_iload_n E dM_shapeOf_32 rfl (j := 1) rfl ?_
        refine wm_imul E dM_shapeOf_33 ?_
        refine wm_iload E dM_shapeOf_34 (j := 4) rfl ?_
        refine wm_iadd E dM_shapeOf_36 ?_
        refine wm_letI h (fun x37 h => ?_)
        refine wm_istore_n (lv' := [(3, vI x37), (0, vR (some b)), (1, vI v1), (2, vI v2), (4, vI v4)]) E dM_shapeOf_37 rfl (by decide) rfl ?_
        refine wm_pick (lv' := [(0, vR (some b)), (1, vI v1), (2, vI v2), (3, vI x37), (4, vI v4)]) [1, 2, 3, 0, 4] rfl ?_
        exact rw_M_shapeOf_38 E hQ hR hI (fun v1 v2 v3 v4 => RB_M_shapeOf_5 ρ n v1 v2 v3 v4) ih v1 v2 x37 v4 h
def R_M_shapeOf (v1 : Int32) (v2 : Int32) (ρ : RS) : Option Int32 := b0 ((-1)) (fun x1 => RB_M_shapeOf_5 ρ fu v1 v2 x1 0)
set_option maxHeartbeats 4000000 in
set_option maxRecDepth 100000 in
theorem RC_M_shapeOf (l : Launch) (G : GG) (b : Nat) (ρ : RS) (μ : Mem) (v1 : Int32) (v2 : Int32) (r : Int32) (h : R_M_shapeOf v1 v2 ρ = some r) : CT l G y_M_shapeOf prog_13_method_13_code 5 (some .int) 0 0 0 0 (ov b ρ μ) [vR (some b), vI v1, vI v2] (some (vI r)) (ov b ρ μ) := by
  refine wm_met (lv := [(0, vR (some b)), (1, vI v1), (2, vI v2)]) (by decide +kernel) (Nat.le_of_ble_eq_true rfl) rfl (fun X E hQ hR hI => ?_)
  have h : (b0 ((-1)) (fun x1 => RB_M_shapeOf_5 ρ fu v1 v2 x1 0)) = some r := h
  refine wm_iconst (x := -1) E dM_shapeOf_0 (by decide) ?_
  refine wm_letI h (fun x1 h => ?_)
  refine wm_istore_n (lv' := [(3, vI x1), (0, vR (some b)), (1, vI v1), (2, vI v2)]) E dM_shapeOf_1 rfl (by decide) rfl ?_
  refine wm_iconst (x := 0) E dM_shapeOf_2 (by decide) ?_
  refine wm_istore (lv' := [(4, vI 0), (3, vI x1), (0, vR (some b)), (1, vI v1), (2, vI v2)]) E dM_shapeOf_3 (by decide) rfl ?_
  refine wm_pick (lv' := [(0, vR (some b)), (1, vI v1), (2, vI v2), (3, vI x1), (4, vI 0)]) [2, 3, 4, 1, 0] rfl ?_
  exact rw_M_shapeOf_5 E hQ hR hI fu v1 v2 x1 0 h
def RB_M_isThere_25 (ρ : RS)  (s0 : Int32) : Option Int32 := gd (¬ okZ s0 = true) (some (s0))
set_option maxHeartbeats 4000000 in
set_option maxRecDepth 100000 in
theorem rw_M_isThere_25 {X : CX} (E : EV X prog_13_method_14_code 3 "PlaceFinderModel" (some .boolean)) {μ0 μ : Mem} {b : Nat} {r : Int32} {ρ : RS} (hQ : RQ X 0 0 μ0 (some (vI r)) (ov b ρ μ)) (hR : xR X = { frames := 1, cells := 0, slots := 0, locals := 24 }) (hI : X.2.2.2.2.2.2.2.2.2.2.2.1.name = "isThere")  (s0 : Int32) (h : RB_M_isThere_25 ρ  s0 = some r) : WM X 3 25 [] [vI s0] 0 0 (ov b ρ μ) := by
  have h : (gd (¬ okZ s0 = true) (some (s0))) = some r := h
  obtain ⟨hz25, h⟩ := gdS h
  exact wm_zret (rt := .boolean) E hQ (rqI0 h) rfl (okZN hz25) (by decide) (by decide) dM_isThere_25
def RB_M_isThere_24 (ρ : RS)   : Option Int32 := RB_M_isThere_25 ρ 0
set_option maxHeartbeats 4000000 in
set_option maxRecDepth 100000 in
theorem rw_M_isThere_24 {X : CX} (E : EV X prog_13_method_14_code 3 "PlaceFinderModel" (some .boolean)) {μ0 μ : Mem} {b : Nat} {r : Int32} {ρ : RS} (hQ : RQ X 0 0 μ0 (some (vI r)) (ov b ρ μ)) (hR : xR X = { frames := 1, cells := 0, slots := 0, locals := 24 }) (hI : X.2.2.2.2.2.2.2.2.2.2.2.1.name = "isThere")   (h : RB_M_isThere_24 ρ   = some r) : WM X 3 24 [] [] 0 0 (ov b ρ μ) := by
  have h : (RB_M_isThere_25 ρ 0) = some r := h
  refine wm_iconst (x := 0) E dM_isThere_24 (by decide) ?_
  refine wm_pick (lv' := []) [] rfl ?_
  exact rw_M_isThere_25 E hQ hR hI 0 h
def R_M_isThere (v1 : Int32) (v2 : Int32) (ρ : RS) : Option Int32 := b1 (R_M_shapeOf v1 v2 (ρ)) (fun x3 => if x3 = ((-1)) then RB_M_isThere_24 ρ  else b1 (rgI ρ 3 30 v1) (fun x16 => if x16 ≤ v2 then RB_M_isThere_24 ρ  else RB_M_isThere_25 ρ 1))
set_option maxHeartbeats 4000000 in
set_option maxRecDepth 100000 in
theorem RC_M_isThere (l : Launch) (G : GG) (b : Nat) (ρ : RS) (μ : Mem) (v1 : Int32) (v2 : Int32) (r : Int32) (h : R_M_isThere v1 v2 ρ = some r) : CT l G y_M_isThere prog_13_method_14_code 3 (some .boolean) 1 0 0 24 (ov b ρ μ) [vR (some b), vI v1, vI v2] (some (vI r)) (ov b ρ μ) := by
  refine wm_met (lv := [(0, vR (some b)), (1, vI v1), (2, vI v2)]) (by decide +kernel) (Nat.le_of_ble_eq_true rfl) rfl (fun X E hQ hR hI => ?_)
  have h : (b1 (R_M_shapeOf v1 v2 (ρ)) (fun x3 => if x3 = ((-1)) then RB_M_isThere_24 ρ  else b1 (rgI ρ 3 30 v1) (fun x16 => if x16 ≤ v2 then RB_M_isThere_24 ρ  else RB_M_isThere_25 ρ 1))) = some r := h
  refine wm_aload_n E dM_isThere_0 rfl (j := 0) rfl ?_
  refine wm_iload_n E dM_isThere_1 rfl (j := 1) rfl ?_
  refine wm_iload_n E dM_isThere_2 rfl (j := 2) rfl ?_
  obtain ⟨x3, hc3, h⟩ := b1S h
  refine wm_cV (ci := 12) (As := [vI v1, vI v2]) (st := []) E lk_M_161 rfl im_M_shapeOf sl_M_shapeOf (ov_rc _ _ _) (RC_M_shapeOf (xl X) X.1 b (ρ) μ v1 v2 _ hc3) rfl rfl (by rw [hR]; decide) (by rw [hR]; decide) (Nat.le_of_ble_eq_true rfl) dM_isThere_3 ?_
  refine wm_iconst (x := -1) E dM_isThere_6 (by decide) ?_
  refine wm_icmp_eq (tgt := 24) E dM_isThere_7 (by decide) (fun c7 => ?_) (fun c7 => ?_)
  · have h := (if_pos c7).symm.trans h
    refine wm_pick (lv' := []) [] rfl ?_
    exact rw_M_isThere_24 E hQ hR hI  h
  · have h := (if_neg c7).symm.trans h
    refine wm_iload_n E dM_isThere_10 rfl (j := 2) rfl ?_
    refine wm_aload_n E dM_isThere_11 rfl (j := 0) rfl ?_
    refine wm_rget (v := vR (some (b + 2))) E fd_M_13 rfl dM_isThere_12 ?_
    refine wm_iload_n E dM_isThere_15 rfl (j := 1) rfl ?_
    refine wm_riald E (by decide) rfl rfl (by decide) (by decide) h dM_isThere_16 (fun x16 h => ?_)
    refine wm_icmp_ge (tgt := 24) E dM_isThere_17 (by decide) (fun c17 => ?_) (fun c17 => ?_)
    · have h := (if_pos c17).symm.trans h
      refine wm_pick (lv' := []) [] rfl ?_
      exact rw_M_isThere_24 E hQ hR hI  h
    · have h := (if_neg c17).symm.trans h
      refine wm_iconst (x := 1) E dM_isThere_20 (by decide) ?_
      refine wm_goto (tgt := 25) E dM_isThere_21 (by decide) ?_
      refine wm_pick (lv' := []) [] rfl ?_
      exact rw_M_isThere_25 E hQ hR hI 1 h
