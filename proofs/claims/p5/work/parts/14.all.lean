/-! ===== all tables are right ===== -/
theorem mGetD_out {α : Type} {l : List α} {n : Nat} {d : α} (h : l.length ≤ n) : l.getD n d = d := by
  rw [List.getD_eq_getElem?_getD, List.getElem?_eq_none h]
  rfl
theorem mI_ok : ∀ k, k < mNM → mMok (mInf k) = true := by
  intro k h
  have hr : k % 16 < 16 := Nat.mod_lt k (by omega)
  have hm : k = 16 * (k / 16) + k % 16 := (Nat.div_add_mod k 16).symm
  have hq : k / 16 < 16 := by have h : k < 251 := h; omega
  generalize k % 16 = r at hr hm
  generalize k / 16 = q at hq hm
  subst hm
  obtain rfl | rfl | rfl | rfl | rfl | rfl | rfl | rfl | rfl | rfl | rfl | rfl | rfl | rfl | rfl | rfl := (by omega : q = 0 ∨ q = 1 ∨ q = 2 ∨ q = 3 ∨ q = 4 ∨ q = 5 ∨ q = 6 ∨ q = 7 ∨ q = 8 ∨ q = 9 ∨ q = 10 ∨ q = 11 ∨ q = 12 ∨ q = 13 ∨ q = 14 ∨ q = 15)
  · have h : 16 * 0 + r < 251 := h
    have h9 : r < 16 := by omega
    obtain rfl | rfl | rfl | rfl | rfl | rfl | rfl | rfl | rfl | rfl | rfl | rfl | rfl | rfl | rfl | rfl := (by omega : r = 0 ∨ r = 1 ∨ r = 2 ∨ r = 3 ∨ r = 4 ∨ r = 5 ∨ r = 6 ∨ r = 7 ∨ r = 8 ∨ r = 9 ∨ r = 10 ∨ r = 11 ∨ r = 12 ∨ r = 13 ∨ r = 14 ∨ r = 15)
    · exact mI_0_ok
    · exact mI_1_ok
    · exact mI_2_ok
    · exact mI_3_ok
    · exact mI_4_ok
    · exact mI_5_ok
    · exact mI_6_ok
    · exact mI_7_ok
    · exact mI_8_ok
    · exact mI_9_ok
    · exact mI_10_ok
    · exact mI_11_ok
    · exact mI_12_ok
    · exact mI_13_ok
    · exact mI_14_ok
    · exact mI_15_ok
  · have h : 16 * 1 + r < 251 := h
    have h9 : r < 16 := by omega
    obtain rfl | rfl | rfl | rfl | rfl | rfl | rfl | rfl | rfl | rfl | rfl | rfl | rfl | rfl | rfl | rfl := (by omega : r = 0 ∨ r = 1 ∨ r = 2 ∨ r = 3 ∨ r = 4 ∨ r = 5 ∨ r = 6 ∨ r = 7 ∨ r = 8 ∨ r = 9 ∨ r = 10 ∨ r = 11 ∨ r = 12 ∨ r = 13 ∨ r = 14 ∨ r = 15)
    · exact mI_16_ok
    · exact mI_17_ok
    · exact mI_18_ok
    · exact mI_19_ok
    · exact mI_20_ok
    · exact mI_21_ok
    · exact mI_22_ok
    · exact mI_23_ok
    · exact mI_24_ok
    · exact mI_25_ok
    · exact mI_26_ok
    · exact mI_27_ok
    · exact mI_28_ok
    · exact mI_29_ok
    · exact mI_30_ok
    · exact mI_31_ok
  · have h : 16 * 2 + r < 251 := h
    have h9 : r < 16 := by omega
    obtain rfl | rfl | rfl | rfl | rfl | rfl | rfl | rfl | rfl | rfl | rfl | rfl | rfl | rfl | rfl | rfl := (by omega : r = 0 ∨ r = 1 ∨ r = 2 ∨ r = 3 ∨ r = 4 ∨ r = 5 ∨ r = 6 ∨ r = 7 ∨ r = 8 ∨ r = 9 ∨ r = 10 ∨ r = 11 ∨ r = 12 ∨ r = 13 ∨ r = 14 ∨ r = 15)
    · exact mI_32_ok
    · exact mI_33_ok
    · exact mI_34_ok
    · exact mI_35_ok
    · exact mI_36_ok
    · exact mI_37_ok
    · exact mI_38_ok
    · exact mI_39_ok
    · exact mI_40_ok
    · exact mI_41_ok
    · exact mI_42_ok
    · exact mI_43_ok
    · exact mI_44_ok
    · exact mI_45_ok
    · exact mI_46_ok
    · exact mI_47_ok
  · have h : 16 * 3 + r < 251 := h
    have h9 : r < 16 := by omega
    obtain rfl | rfl | rfl | rfl | rfl | rfl | rfl | rfl | rfl | rfl | rfl | rfl | rfl | rfl | rfl | rfl := (by omega : r = 0 ∨ r = 1 ∨ r = 2 ∨ r = 3 ∨ r = 4 ∨ r = 5 ∨ r = 6 ∨ r = 7 ∨ r = 8 ∨ r = 9 ∨ r = 10 ∨ r = 11 ∨ r = 12 ∨ r = 13 ∨ r = 14 ∨ r = 15)
    · exact mI_48_ok
    · exact mI_49_ok
    · exact mI_50_ok
    · exact mI_51_ok
    · exact mI_52_ok
    · exact mI_53_ok
    · exact mI_54_ok
    · exact mI_55_ok
    · exact mI_56_ok
    · exact mI_57_ok
    · exact mI_58_ok
    · exact mI_59_ok
    · exact mI_60_ok
    · exact mI_61_ok
    · exact mI_62_ok
    · exact mI_63_ok
  · have h : 16 * 4 + r < 251 := h
    have h9 : r < 16 := by omega
    obtain rfl | rfl | rfl | rfl | rfl | rfl | rfl | rfl | rfl | rfl | rfl | rfl | rfl | rfl | rfl | rfl := (by omega : r = 0 ∨ r = 1 ∨ r = 2 ∨ r = 3 ∨ r = 4 ∨ r = 5 ∨ r = 6 ∨ r = 7 ∨ r = 8 ∨ r = 9 ∨ r = 10 ∨ r = 11 ∨ r = 12 ∨ r = 13 ∨ r = 14 ∨ r = 15)
    · exact mI_64_ok
    · exact mI_65_ok
    · exact mI_66_ok
    · exact mI_67_ok
    · exact mI_68_ok
    · exact mI_69_ok
    · exact mI_70_ok
    · exact mI_71_ok
    · exact mI_72_ok
    · exact mI_73_ok
    · exact mI_74_ok
    · exact mI_75_ok
    · exact mI_76_ok
    · exact mI_77_ok
    · exact mI_78_ok
    · exact mI_79_ok
  · have h : 16 * 5 + r < 251 := h
    have h9 : r < 16 := by omega
    obtain rfl | rfl | rfl | rfl | rfl | rfl | rfl | rfl | rfl | rfl | rfl | rfl | rfl | rfl | rfl | rfl := (by omega : r = 0 ∨ r = 1 ∨ r = 2 ∨ r = 3 ∨ r = 4 ∨ r = 5 ∨ r = 6 ∨ r = 7 ∨ r = 8 ∨ r = 9 ∨ r = 10 ∨ r = 11 ∨ r = 12 ∨ r = 13 ∨ r = 14 ∨ r = 15)
    · exact mI_80_ok
    · exact mI_81_ok
    · exact mI_82_ok
    · exact mI_83_ok
    · exact mI_84_ok
    · exact mI_85_ok
    · exact mI_86_ok
    · exact mI_87_ok
    · exact mI_88_ok
    · exact mI_89_ok
    · exact mI_90_ok
    · exact mI_91_ok
    · exact mI_92_ok
    · exact mI_93_ok
    · exact mI_94_ok
    · exact mI_95_ok
  · have h : 16 * 6 + r < 251 := h
    have h9 : r < 16 := by omega
    obtain rfl | rfl | rfl | rfl | rfl | rfl | rfl | rfl | rfl | rfl | rfl | rfl | rfl | rfl | rfl | rfl := (by omega : r = 0 ∨ r = 1 ∨ r = 2 ∨ r = 3 ∨ r = 4 ∨ r = 5 ∨ r = 6 ∨ r = 7 ∨ r = 8 ∨ r = 9 ∨ r = 10 ∨ r = 11 ∨ r = 12 ∨ r = 13 ∨ r = 14 ∨ r = 15)
    · exact mI_96_ok
    · exact mI_97_ok
    · exact mI_98_ok
    · exact mI_99_ok
    · exact mI_100_ok
    · exact mI_101_ok
    · exact mI_102_ok
    · exact mI_103_ok
    · exact mI_104_ok
    · exact mI_105_ok
    · exact mI_106_ok
    · exact mI_107_ok
    · exact mI_108_ok
    · exact mI_109_ok
    · exact mI_110_ok
    · exact mI_111_ok
  · have h : 16 * 7 + r < 251 := h
    have h9 : r < 16 := by omega
    obtain rfl | rfl | rfl | rfl | rfl | rfl | rfl | rfl | rfl | rfl | rfl | rfl | rfl | rfl | rfl | rfl := (by omega : r = 0 ∨ r = 1 ∨ r = 2 ∨ r = 3 ∨ r = 4 ∨ r = 5 ∨ r = 6 ∨ r = 7 ∨ r = 8 ∨ r = 9 ∨ r = 10 ∨ r = 11 ∨ r = 12 ∨ r = 13 ∨ r = 14 ∨ r = 15)
    · exact mI_112_ok
    · exact mI_113_ok
    · exact mI_114_ok
    · exact mI_115_ok
    · exact mI_116_ok
    · exact mI_117_ok
    · exact mI_118_ok
    · exact mI_119_ok
    · exact mI_120_ok
    · exact mI_121_ok
    · exact mI_122_ok
    · exact mI_123_ok
    · exact mI_124_ok
    · exact mI_125_ok
    · exact mI_126_ok
    · exact mI_127_ok
  · have h : 16 * 8 + r < 251 := h
    have h9 : r < 16 := by omega
    obtain rfl | rfl | rfl | rfl | rfl | rfl | rfl | rfl | rfl | rfl | rfl | rfl | rfl | rfl | rfl | rfl := (by omega : r = 0 ∨ r = 1 ∨ r = 2 ∨ r = 3 ∨ r = 4 ∨ r = 5 ∨ r = 6 ∨ r = 7 ∨ r = 8 ∨ r = 9 ∨ r = 10 ∨ r = 11 ∨ r = 12 ∨ r = 13 ∨ r = 14 ∨ r = 15)
    · exact mI_128_ok
    · exact mI_129_ok
    · exact mI_130_ok
    · exact mI_131_ok
    · exact mI_132_ok
    · exact mI_133_ok
    · exact mI_134_ok
    · exact mI_135_ok
    · exact mI_136_ok
    · exact mI_137_ok
    · exact mI_138_ok
    · exact mI_139_ok
    · exact mI_140_ok
    · exact mI_141_ok
    · exact mI_142_ok
    · exact mI_143_ok
  · have h : 16 * 9 + r < 251 := h
    have h9 : r < 16 := by omega
    obtain rfl | rfl | rfl | rfl | rfl | rfl | rfl | rfl | rfl | rfl | rfl | rfl | rfl | rfl | rfl | rfl := (by omega : r = 0 ∨ r = 1 ∨ r = 2 ∨ r = 3 ∨ r = 4 ∨ r = 5 ∨ r = 6 ∨ r = 7 ∨ r = 8 ∨ r = 9 ∨ r = 10 ∨ r = 11 ∨ r = 12 ∨ r = 13 ∨ r = 14 ∨ r = 15)
    · exact mI_144_ok
    · exact mI_145_ok
    · exact mI_146_ok
    · exact mI_147_ok
    · exact mI_148_ok
    · exact mI_149_ok
    · exact mI_150_ok
    · exact mI_151_ok
    · exact mI_152_ok
    · exact mI_153_ok
    · exact mI_154_ok
    · exact mI_155_ok
    · exact mI_156_ok
    · exact mI_157_ok
    · exact mI_158_ok
    · exact mI_159_ok
  · have h : 16 * 10 + r < 251 := h
    have h9 : r < 16 := by omega
    obtain rfl | rfl | rfl | rfl | rfl | rfl | rfl | rfl | rfl | rfl | rfl | rfl | rfl | rfl | rfl | rfl := (by omega : r = 0 ∨ r = 1 ∨ r = 2 ∨ r = 3 ∨ r = 4 ∨ r = 5 ∨ r = 6 ∨ r = 7 ∨ r = 8 ∨ r = 9 ∨ r = 10 ∨ r = 11 ∨ r = 12 ∨ r = 13 ∨ r = 14 ∨ r = 15)
    · exact mI_160_ok
    · exact mI_161_ok
    · exact mI_162_ok
    · exact mI_163_ok
    · exact mI_164_ok
    · exact mI_165_ok
    · exact mI_166_ok
    · exact mI_167_ok
    · exact mI_168_ok
    · exact mI_169_ok
    · exact mI_170_ok
    · exact mI_171_ok
    · exact mI_172_ok
    · exact mI_173_ok
    · exact mI_174_ok
    · exact mI_175_ok
  · have h : 16 * 11 + r < 251 := h
    have h9 : r < 16 := by omega
    obtain rfl | rfl | rfl | rfl | rfl | rfl | rfl | rfl | rfl | rfl | rfl | rfl | rfl | rfl | rfl | rfl := (by omega : r = 0 ∨ r = 1 ∨ r = 2 ∨ r = 3 ∨ r = 4 ∨ r = 5 ∨ r = 6 ∨ r = 7 ∨ r = 8 ∨ r = 9 ∨ r = 10 ∨ r = 11 ∨ r = 12 ∨ r = 13 ∨ r = 14 ∨ r = 15)
    · exact mI_176_ok
    · exact mI_177_ok
    · exact mI_178_ok
    · exact mI_179_ok
    · exact mI_180_ok
    · exact mI_181_ok
    · exact mI_182_ok
    · exact mI_183_ok
    · exact mI_184_ok
    · exact mI_185_ok
    · exact mI_186_ok
    · exact mI_187_ok
    · exact mI_188_ok
    · exact mI_189_ok
    · exact mI_190_ok
    · exact mI_191_ok
  · have h : 16 * 12 + r < 251 := h
    have h9 : r < 16 := by omega
    obtain rfl | rfl | rfl | rfl | rfl | rfl | rfl | rfl | rfl | rfl | rfl | rfl | rfl | rfl | rfl | rfl := (by omega : r = 0 ∨ r = 1 ∨ r = 2 ∨ r = 3 ∨ r = 4 ∨ r = 5 ∨ r = 6 ∨ r = 7 ∨ r = 8 ∨ r = 9 ∨ r = 10 ∨ r = 11 ∨ r = 12 ∨ r = 13 ∨ r = 14 ∨ r = 15)
    · exact mI_192_ok
    · exact mI_193_ok
    · exact mI_194_ok
    · exact mI_195_ok
    · exact mI_196_ok
    · exact mI_197_ok
    · exact mI_198_ok
    · exact mI_199_ok
    · exact mI_200_ok
    · exact mI_201_ok
    · exact mI_202_ok
    · exact mI_203_ok
    · exact mI_204_ok
    · exact mI_205_ok
    · exact mI_206_ok
    · exact mI_207_ok
  · have h : 16 * 13 + r < 251 := h
    have h9 : r < 16 := by omega
    obtain rfl | rfl | rfl | rfl | rfl | rfl | rfl | rfl | rfl | rfl | rfl | rfl | rfl | rfl | rfl | rfl := (by omega : r = 0 ∨ r = 1 ∨ r = 2 ∨ r = 3 ∨ r = 4 ∨ r = 5 ∨ r = 6 ∨ r = 7 ∨ r = 8 ∨ r = 9 ∨ r = 10 ∨ r = 11 ∨ r = 12 ∨ r = 13 ∨ r = 14 ∨ r = 15)
    · exact mI_208_ok
    · exact mI_209_ok
    · exact mI_210_ok
    · exact mI_211_ok
    · exact mI_212_ok
    · exact mI_213_ok
    · exact mI_214_ok
    · exact mI_215_ok
    · exact mI_216_ok
    · exact mI_217_ok
    · exact mI_218_ok
    · exact mI_219_ok
    · exact mI_220_ok
    · exact mI_221_ok
    · exact mI_222_ok
    · exact mI_223_ok
  · have h : 16 * 14 + r < 251 := h
    have h9 : r < 16 := by omega
    obtain rfl | rfl | rfl | rfl | rfl | rfl | rfl | rfl | rfl | rfl | rfl | rfl | rfl | rfl | rfl | rfl := (by omega : r = 0 ∨ r = 1 ∨ r = 2 ∨ r = 3 ∨ r = 4 ∨ r = 5 ∨ r = 6 ∨ r = 7 ∨ r = 8 ∨ r = 9 ∨ r = 10 ∨ r = 11 ∨ r = 12 ∨ r = 13 ∨ r = 14 ∨ r = 15)
    · exact mI_224_ok
    · exact mI_225_ok
    · exact mI_226_ok
    · exact mI_227_ok
    · exact mI_228_ok
    · exact mI_229_ok
    · exact mI_230_ok
    · exact mI_231_ok
    · exact mI_232_ok
    · exact mI_233_ok
    · exact mI_234_ok
    · exact mI_235_ok
    · exact mI_236_ok
    · exact mI_237_ok
    · exact mI_238_ok
    · exact mI_239_ok
  · have h : 16 * 15 + r < 251 := h
    have h9 : r < 11 := by omega
    obtain rfl | rfl | rfl | rfl | rfl | rfl | rfl | rfl | rfl | rfl | rfl := (by omega : r = 0 ∨ r = 1 ∨ r = 2 ∨ r = 3 ∨ r = 4 ∨ r = 5 ∨ r = 6 ∨ r = 7 ∨ r = 8 ∨ r = 9 ∨ r = 10)
    · exact mI_240_ok
    · exact mI_241_ok
    · exact mI_242_ok
    · exact mI_243_ok
    · exact mI_244_ok
    · exact mI_245_ok
    · exact mI_246_ok
    · exact mI_247_ok
    · exact mI_248_ok
    · exact mI_249_ok
    · exact mI_250_ok
theorem mTg_0_ok : ∀ r, r < 16 → (mTg_0.getD r []).all (mOk mInf (0 + r)) = true := fun r h => by
  obtain rfl | rfl | rfl | rfl | rfl | rfl | rfl | rfl | rfl | rfl | rfl | rfl | rfl | rfl | rfl | rfl := (by omega : r = 0 ∨ r = 1 ∨ r = 2 ∨ r = 3 ∨ r = 4 ∨ r = 5 ∨ r = 6 ∨ r = 7 ∨ r = 8 ∨ r = 9 ∨ r = 10 ∨ r = 11 ∨ r = 12 ∨ r = 13 ∨ r = 14 ∨ r = 15)
  · exact mT_0_ok
  · exact mT_1_ok
  · exact mT_2_ok
  · exact mT_3_ok
  · exact mT_4_ok
  · exact mT_5_ok
  · exact mT_6_ok
  · exact mT_7_ok
  · exact mT_8_ok
  · exact mT_9_ok
  · exact mT_10_ok
  · exact mT_11_ok
  · exact mT_12_ok
  · exact mT_13_ok
  · exact mT_14_ok
  · exact mT_15_ok
theorem mTg_0_at (r : Nat) (h : r < 16) : mTab (0 + r) = mTg_0.getD r [] := by
  have h1 : (0 + r) / 16 = 0 := by omega
  have h2 : (0 + r) % 16 = r := by omega
  unfold mTab
  rw [h1, h2]
  rfl
theorem mTg_1_ok : ∀ r, r < 16 → (mTg_1.getD r []).all (mOk mInf (16 + r)) = true := fun r h => by
  obtain rfl | rfl | rfl | rfl | rfl | rfl | rfl | rfl | rfl | rfl | rfl | rfl | rfl | rfl | rfl | rfl := (by omega : r = 0 ∨ r = 1 ∨ r = 2 ∨ r = 3 ∨ r = 4 ∨ r = 5 ∨ r = 6 ∨ r = 7 ∨ r = 8 ∨ r = 9 ∨ r = 10 ∨ r = 11 ∨ r = 12 ∨ r = 13 ∨ r = 14 ∨ r = 15)
  · exact mT_16_ok
  · exact mT_17_ok
  · exact mT_18_ok
  · exact mT_19_ok
  · exact mT_20_ok
  · exact mT_21_ok
  · exact mT_22_ok
  · exact mT_23_ok
  · exact mT_24_ok
  · exact mT_25_ok
  · exact mT_26_ok
  · exact mT_27_ok
  · exact mT_28_ok
  · exact mT_29_ok
  · exact mT_30_ok
  · exact mT_31_ok
theorem mTg_1_at (r : Nat) (h : r < 16) : mTab (16 + r) = mTg_1.getD r [] := by
  have h1 : (16 + r) / 16 = 1 := by omega
  have h2 : (16 + r) % 16 = r := by omega
  unfold mTab
  rw [h1, h2]
  rfl
theorem mTg_2_ok : ∀ r, r < 16 → (mTg_2.getD r []).all (mOk mInf (32 + r)) = true := fun r h => by
  obtain rfl | rfl | rfl | rfl | rfl | rfl | rfl | rfl | rfl | rfl | rfl | rfl | rfl | rfl | rfl | rfl := (by omega : r = 0 ∨ r = 1 ∨ r = 2 ∨ r = 3 ∨ r = 4 ∨ r = 5 ∨ r = 6 ∨ r = 7 ∨ r = 8 ∨ r = 9 ∨ r = 10 ∨ r = 11 ∨ r = 12 ∨ r = 13 ∨ r = 14 ∨ r = 15)
  · exact mT_32_ok
  · exact mT_33_ok
  · exact mT_34_ok
  · exact mT_35_ok
  · exact mT_36_ok
  · exact mT_37_ok
  · exact mT_38_ok
  · exact mT_39_ok
  · exact mT_40_ok
  · exact mT_41_ok
  · exact mT_42_ok
  · exact mT_43_ok
  · exact mT_44_ok
  · exact mT_45_ok
  · exact mT_46_ok
  · exact mT_47_ok
theorem mTg_2_at (r : Nat) (h : r < 16) : mTab (32 + r) = mTg_2.getD r [] := by
  have h1 : (32 + r) / 16 = 2 := by omega
  have h2 : (32 + r) % 16 = r := by omega
  unfold mTab
  rw [h1, h2]
  rfl
theorem mTg_3_ok : ∀ r, r < 16 → (mTg_3.getD r []).all (mOk mInf (48 + r)) = true := fun r h => by
  obtain rfl | rfl | rfl | rfl | rfl | rfl | rfl | rfl | rfl | rfl | rfl | rfl | rfl | rfl | rfl | rfl := (by omega : r = 0 ∨ r = 1 ∨ r = 2 ∨ r = 3 ∨ r = 4 ∨ r = 5 ∨ r = 6 ∨ r = 7 ∨ r = 8 ∨ r = 9 ∨ r = 10 ∨ r = 11 ∨ r = 12 ∨ r = 13 ∨ r = 14 ∨ r = 15)
  · exact mT_48_ok
  · exact mT_49_ok
  · exact mT_50_ok
  · exact mT_51_ok
  · exact mT_52_ok
  · exact mT_53_ok
  · exact mT_54_ok
  · exact mT_55_ok
  · exact mT_56_ok
  · exact mT_57_ok
  · exact mT_58_ok
  · exact mT_59_ok
  · exact mT_60_ok
  · exact mT_61_ok
  · exact mT_62_ok
  · exact mT_63_ok
theorem mTg_3_at (r : Nat) (h : r < 16) : mTab (48 + r) = mTg_3.getD r [] := by
  have h1 : (48 + r) / 16 = 3 := by omega
  have h2 : (48 + r) % 16 = r := by omega
  unfold mTab
  rw [h1, h2]
  rfl
theorem mTg_4_ok : ∀ r, r < 16 → (mTg_4.getD r []).all (mOk mInf (64 + r)) = true := fun r h => by
  obtain rfl | rfl | rfl | rfl | rfl | rfl | rfl | rfl | rfl | rfl | rfl | rfl | rfl | rfl | rfl | rfl := (by omega : r = 0 ∨ r = 1 ∨ r = 2 ∨ r = 3 ∨ r = 4 ∨ r = 5 ∨ r = 6 ∨ r = 7 ∨ r = 8 ∨ r = 9 ∨ r = 10 ∨ r = 11 ∨ r = 12 ∨ r = 13 ∨ r = 14 ∨ r = 15)
  · exact mT_64_ok
  · exact mT_65_ok
  · exact mT_66_ok
  · exact mT_67_ok
  · exact mT_68_ok
  · exact mT_69_ok
  · exact mT_70_ok
  · exact mT_71_ok
  · exact mT_72_ok
  · exact mT_73_ok
  · exact mT_74_ok
  · exact mT_75_ok
  · exact mT_76_ok
  · exact mT_77_ok
  · exact mT_78_ok
  · exact mT_79_ok
theorem mTg_4_at (r : Nat) (h : r < 16) : mTab (64 + r) = mTg_4.getD r [] := by
  have h1 : (64 + r) / 16 = 4 := by omega
  have h2 : (64 + r) % 16 = r := by omega
  unfold mTab
  rw [h1, h2]
  rfl
theorem mTg_5_ok : ∀ r, r < 16 → (mTg_5.getD r []).all (mOk mInf (80 + r)) = true := fun r h => by
  obtain rfl | rfl | rfl | rfl | rfl | rfl | rfl | rfl | rfl | rfl | rfl | rfl | rfl | rfl | rfl | rfl := (by omega : r = 0 ∨ r = 1 ∨ r = 2 ∨ r = 3 ∨ r = 4 ∨ r = 5 ∨ r = 6 ∨ r = 7 ∨ r = 8 ∨ r = 9 ∨ r = 10 ∨ r = 11 ∨ r = 12 ∨ r = 13 ∨ r = 14 ∨ r = 15)
  · exact mT_80_ok
  · exact mT_81_ok
  · exact mT_82_ok
  · exact mT_83_ok
  · exact mT_84_ok
  · exact mT_85_ok
  · exact mT_86_ok
  · exact mT_87_ok
  · exact mT_88_ok
  · exact mT_89_ok
  · exact mT_90_ok
  · exact mT_91_ok
  · exact mT_92_ok
  · exact mT_93_ok
  · exact mT_94_ok
  · exact mT_95_ok
theorem mTg_5_at (r : Nat) (h : r < 16) : mTab (80 + r) = mTg_5.getD r [] := by
  have h1 : (80 + r) / 16 = 5 := by omega
  have h2 : (80 + r) % 16 = r := by omega
  unfold mTab
  rw [h1, h2]
  rfl
theorem mTg_6_ok : ∀ r, r < 16 → (mTg_6.getD r []).all (mOk mInf (96 + r)) = true := fun r h => by
  obtain rfl | rfl | rfl | rfl | rfl | rfl | rfl | rfl | rfl | rfl | rfl | rfl | rfl | rfl | rfl | rfl := (by omega : r = 0 ∨ r = 1 ∨ r = 2 ∨ r = 3 ∨ r = 4 ∨ r = 5 ∨ r = 6 ∨ r = 7 ∨ r = 8 ∨ r = 9 ∨ r = 10 ∨ r = 11 ∨ r = 12 ∨ r = 13 ∨ r = 14 ∨ r = 15)
  · exact mT_96_ok
  · exact mT_97_ok
  · exact mT_98_ok
  · exact mT_99_ok
  · exact mT_100_ok
  · exact mT_101_ok
  · exact mT_102_ok
  · exact mT_103_ok
  · exact mT_104_ok
  · exact mT_105_ok
  · exact mT_106_ok
  · exact mT_107_ok
  · exact mT_108_ok
  · exact mT_109_ok
  · exact mT_110_ok
  · exact mT_111_ok
theorem mTg_6_at (r : Nat) (h : r < 16) : mTab (96 + r) = mTg_6.getD r [] := by
  have h1 : (96 + r) / 16 = 6 := by omega
  have h2 : (96 + r) % 16 = r := by omega
  unfold mTab
  rw [h1, h2]
  rfl
theorem mTg_7_ok : ∀ r, r < 16 → (mTg_7.getD r []).all (mOk mInf (112 + r)) = true := fun r h => by
  obtain rfl | rfl | rfl | rfl | rfl | rfl | rfl | rfl | rfl | rfl | rfl | rfl | rfl | rfl | rfl | rfl := (by omega : r = 0 ∨ r = 1 ∨ r = 2 ∨ r = 3 ∨ r = 4 ∨ r = 5 ∨ r = 6 ∨ r = 7 ∨ r = 8 ∨ r = 9 ∨ r = 10 ∨ r = 11 ∨ r = 12 ∨ r = 13 ∨ r = 14 ∨ r = 15)
  · exact mT_112_ok
  · exact mT_113_ok
  · exact mT_114_ok
  · exact mT_115_ok
  · exact mT_116_ok
  · exact mT_117_ok
  · exact mT_118_ok
  · exact mT_119_ok
  · exact mT_120_ok
  · exact mT_121_ok
  · exact mT_122_ok
  · exact mT_123_ok
  · exact mT_124_ok
  · exact mT_125_ok
  · exact mT_126_ok
  · exact mT_127_ok
theorem mTg_7_at (r : Nat) (h : r < 16) : mTab (112 + r) = mTg_7.getD r [] := by
  have h1 : (112 + r) / 16 = 7 := by omega
  have h2 : (112 + r) % 16 = r := by omega
  unfold mTab
  rw [h1, h2]
  rfl
theorem mTg_8_ok : ∀ r, r < 16 → (mTg_8.getD r []).all (mOk mInf (128 + r)) = true := fun r h => by
  obtain rfl | rfl | rfl | rfl | rfl | rfl | rfl | rfl | rfl | rfl | rfl | rfl | rfl | rfl | rfl | rfl := (by omega : r = 0 ∨ r = 1 ∨ r = 2 ∨ r = 3 ∨ r = 4 ∨ r = 5 ∨ r = 6 ∨ r = 7 ∨ r = 8 ∨ r = 9 ∨ r = 10 ∨ r = 11 ∨ r = 12 ∨ r = 13 ∨ r = 14 ∨ r = 15)
  · exact mT_128_ok
  · exact mT_129_ok
  · exact mT_130_ok
  · exact mT_131_ok
  · exact mT_132_ok
  · exact mT_133_ok
  · exact mT_134_ok
  · exact mT_135_ok
  · exact mT_136_ok
  · exact mT_137_ok
  · exact mT_138_ok
  · exact mT_139_ok
  · exact mT_140_ok
  · exact mT_141_ok
  · exact mT_142_ok
  · exact mT_143_ok
theorem mTg_8_at (r : Nat) (h : r < 16) : mTab (128 + r) = mTg_8.getD r [] := by
  have h1 : (128 + r) / 16 = 8 := by omega
  have h2 : (128 + r) % 16 = r := by omega
  unfold mTab
  rw [h1, h2]
  rfl
theorem mTg_9_ok : ∀ r, r < 16 → (mTg_9.getD r []).all (mOk mInf (144 + r)) = true := fun r h => by
  obtain rfl | rfl | rfl | rfl | rfl | rfl | rfl | rfl | rfl | rfl | rfl | rfl | rfl | rfl | rfl | rfl := (by omega : r = 0 ∨ r = 1 ∨ r = 2 ∨ r = 3 ∨ r = 4 ∨ r = 5 ∨ r = 6 ∨ r = 7 ∨ r = 8 ∨ r = 9 ∨ r = 10 ∨ r = 11 ∨ r = 12 ∨ r = 13 ∨ r = 14 ∨ r = 15)
  · exact mT_144_ok
  · exact mT_145_ok
  · exact mT_146_ok
  · exact mT_147_ok
  · exact mT_148_ok
  · exact mT_149_ok
  · exact mT_150_ok
  · exact mT_151_ok
  · exact mT_152_ok
  · exact mT_153_ok
  · exact mT_154_ok
  · exact mT_155_ok
  · exact mT_156_ok
  · exact mT_157_ok
  · exact mT_158_ok
  · exact mT_159_ok
theorem mTg_9_at (r : Nat) (h : r < 16) : mTab (144 + r) = mTg_9.getD r [] := by
  have h1 : (144 + r) / 16 = 9 := by omega
  have h2 : (144 + r) % 16 = r := by omega
  unfold mTab
  rw [h1, h2]
  rfl
theorem mTg_10_ok : ∀ r, r < 16 → (mTg_10.getD r []).all (mOk mInf (160 + r)) = true := fun r h => by
  obtain rfl | rfl | rfl | rfl | rfl | rfl | rfl | rfl | rfl | rfl | rfl | rfl | rfl | rfl | rfl | rfl := (by omega : r = 0 ∨ r = 1 ∨ r = 2 ∨ r = 3 ∨ r = 4 ∨ r = 5 ∨ r = 6 ∨ r = 7 ∨ r = 8 ∨ r = 9 ∨ r = 10 ∨ r = 11 ∨ r = 12 ∨ r = 13 ∨ r = 14 ∨ r = 15)
  · exact mT_160_ok
  · exact mT_161_ok
  · exact mT_162_ok
  · exact mT_163_ok
  · exact mT_164_ok
  · exact mT_165_ok
  · exact mT_166_ok
  · exact mT_167_ok
  · exact mT_168_ok
  · exact mT_169_ok
  · exact mT_170_ok
  · exact mT_171_ok
  · exact mT_172_ok
  · exact mT_173_ok
  · exact mT_174_ok
  · exact mT_175_ok
theorem mTg_10_at (r : Nat) (h : r < 16) : mTab (160 + r) = mTg_10.getD r [] := by
  have h1 : (160 + r) / 16 = 10 := by omega
  have h2 : (160 + r) % 16 = r := by omega
  unfold mTab
  rw [h1, h2]
  rfl
theorem mTg_11_ok : ∀ r, r < 16 → (mTg_11.getD r []).all (mOk mInf (176 + r)) = true := fun r h => by
  obtain rfl | rfl | rfl | rfl | rfl | rfl | rfl | rfl | rfl | rfl | rfl | rfl | rfl | rfl | rfl | rfl := (by omega : r = 0 ∨ r = 1 ∨ r = 2 ∨ r = 3 ∨ r = 4 ∨ r = 5 ∨ r = 6 ∨ r = 7 ∨ r = 8 ∨ r = 9 ∨ r = 10 ∨ r = 11 ∨ r = 12 ∨ r = 13 ∨ r = 14 ∨ r = 15)
  · exact mT_176_ok
  · exact mT_177_ok
  · exact mT_178_ok
  · exact mT_179_ok
  · exact mT_180_ok
  · exact mT_181_ok
  · exact mT_182_ok
  · exact mT_183_ok
  · exact mT_184_ok
  · exact mT_185_ok
  · exact mT_186_ok
  · exact mT_187_ok
  · exact mT_188_ok
  · exact mT_189_ok
  · exact mT_190_ok
  · exact mT_191_ok
theorem mTg_11_at (r : Nat) (h : r < 16) : mTab (176 + r) = mTg_11.getD r [] := by
  have h1 : (176 + r) / 16 = 11 := by omega
  have h2 : (176 + r) % 16 = r := by omega
  unfold mTab
  rw [h1, h2]
  rfl
theorem mTg_12_ok : ∀ r, r < 16 → (mTg_12.getD r []).all (mOk mInf (192 + r)) = true := fun r h => by
  obtain rfl | rfl | rfl | rfl | rfl | rfl | rfl | rfl | rfl | rfl | rfl | rfl | rfl | rfl | rfl | rfl := (by omega : r = 0 ∨ r = 1 ∨ r = 2 ∨ r = 3 ∨ r = 4 ∨ r = 5 ∨ r = 6 ∨ r = 7 ∨ r = 8 ∨ r = 9 ∨ r = 10 ∨ r = 11 ∨ r = 12 ∨ r = 13 ∨ r = 14 ∨ r = 15)
  · exact mT_192_ok
  · exact mT_193_ok
  · exact mT_194_ok
  · exact mT_195_ok
  · exact mT_196_ok
  · exact mT_197_ok
  · exact mT_198_ok
  · exact mT_199_ok
  · exact mT_200_ok
  · exact mT_201_ok
  · exact mT_202_ok
  · exact mT_203_ok
  · exact mT_204_ok
  · exact mT_205_ok
  · exact mT_206_ok
  · exact mT_207_ok
theorem mTg_12_at (r : Nat) (h : r < 16) : mTab (192 + r) = mTg_12.getD r [] := by
  have h1 : (192 + r) / 16 = 12 := by omega
  have h2 : (192 + r) % 16 = r := by omega
  unfold mTab
  rw [h1, h2]
  rfl
theorem mTg_13_ok : ∀ r, r < 16 → (mTg_13.getD r []).all (mOk mInf (208 + r)) = true := fun r h => by
  obtain rfl | rfl | rfl | rfl | rfl | rfl | rfl | rfl | rfl | rfl | rfl | rfl | rfl | rfl | rfl | rfl := (by omega : r = 0 ∨ r = 1 ∨ r = 2 ∨ r = 3 ∨ r = 4 ∨ r = 5 ∨ r = 6 ∨ r = 7 ∨ r = 8 ∨ r = 9 ∨ r = 10 ∨ r = 11 ∨ r = 12 ∨ r = 13 ∨ r = 14 ∨ r = 15)
  · exact mT_208_ok
  · exact mT_209_ok
  · exact mT_210_ok
  · exact mT_211_ok
  · exact mT_212_ok
  · exact mT_213_ok
  · exact mT_214_ok
  · exact mT_215_ok
  · exact mT_216_ok
  · exact mT_217_ok
  · exact mT_218_ok
  · exact mT_219_ok
  · exact mT_220_ok
  · exact mT_221_ok
  · exact mT_222_ok
  · exact mT_223_ok
theorem mTg_13_at (r : Nat) (h : r < 16) : mTab (208 + r) = mTg_13.getD r [] := by
  have h1 : (208 + r) / 16 = 13 := by omega
  have h2 : (208 + r) % 16 = r := by omega
  unfold mTab
  rw [h1, h2]
  rfl
theorem mTg_14_ok : ∀ r, r < 16 → (mTg_14.getD r []).all (mOk mInf (224 + r)) = true := fun r h => by
  obtain rfl | rfl | rfl | rfl | rfl | rfl | rfl | rfl | rfl | rfl | rfl | rfl | rfl | rfl | rfl | rfl := (by omega : r = 0 ∨ r = 1 ∨ r = 2 ∨ r = 3 ∨ r = 4 ∨ r = 5 ∨ r = 6 ∨ r = 7 ∨ r = 8 ∨ r = 9 ∨ r = 10 ∨ r = 11 ∨ r = 12 ∨ r = 13 ∨ r = 14 ∨ r = 15)
  · exact mT_224_ok
  · exact mT_225_ok
  · exact mT_226_ok
  · exact mT_227_ok
  · exact mT_228_ok
  · exact mT_229_ok
  · exact mT_230_ok
  · exact mT_231_ok
  · exact mT_232_ok
  · exact mT_233_ok
  · exact mT_234_ok
  · exact mT_235_ok
  · exact mT_236_ok
  · exact mT_237_ok
  · exact mT_238_ok
  · exact mT_239_ok
theorem mTg_14_at (r : Nat) (h : r < 16) : mTab (224 + r) = mTg_14.getD r [] := by
  have h1 : (224 + r) / 16 = 14 := by omega
  have h2 : (224 + r) % 16 = r := by omega
  unfold mTab
  rw [h1, h2]
  rfl
theorem mTg_15_ok : ∀ r, r < 14 → (mTg_15.getD r []).all (mOk mInf (240 + r)) = true := fun r h => by
  obtain rfl | rfl | rfl | rfl | rfl | rfl | rfl | rfl | rfl | rfl | rfl | rfl | rfl | rfl := (by omega : r = 0 ∨ r = 1 ∨ r = 2 ∨ r = 3 ∨ r = 4 ∨ r = 5 ∨ r = 6 ∨ r = 7 ∨ r = 8 ∨ r = 9 ∨ r = 10 ∨ r = 11 ∨ r = 12 ∨ r = 13)
  · exact mT_240_ok
  · exact mT_241_ok
  · exact mT_242_ok
  · exact mT_243_ok
  · exact mT_244_ok
  · exact mT_245_ok
  · exact mT_246_ok
  · exact mT_247_ok
  · exact mT_248_ok
  · exact mT_249_ok
  · exact mT_250_ok
  · exact mT_251_ok
  · exact mT_252_ok
  · exact mT_253_ok
theorem mTg_15_at (r : Nat) (h : r < 16) : mTab (240 + r) = mTg_15.getD r [] := by
  have h1 : (240 + r) / 16 = 15 := by omega
  have h2 : (240 + r) % 16 = r := by omega
  unfold mTab
  rw [h1, h2]
  rfl
theorem mT_ok : ∀ mi, ∀ e ∈ mTab mi, mOk mInf mi e = true := by
  intro mi e he
  have hr : mi % 16 < 16 := Nat.mod_lt mi (by omega)
  have hm : mi = 16 * (mi / 16) + mi % 16 := (Nat.div_add_mod mi 16).symm
  by_cases h : mi / 16 < 16
  · generalize mi % 16 = r at hr hm
    generalize mi / 16 = q at h hm
    subst hm
    obtain rfl | rfl | rfl | rfl | rfl | rfl | rfl | rfl | rfl | rfl | rfl | rfl | rfl | rfl | rfl | rfl := (by omega : q = 0 ∨ q = 1 ∨ q = 2 ∨ q = 3 ∨ q = 4 ∨ q = 5 ∨ q = 6 ∨ q = 7 ∨ q = 8 ∨ q = 9 ∨ q = 10 ∨ q = 11 ∨ q = 12 ∨ q = 13 ∨ q = 14 ∨ q = 15)
    ·
      have e1 : 16 * 0 + r = 0 + r := by omega
      rw [e1] at he ⊢
      rw [mTg_0_at r hr] at he
      by_cases h9 : r < 16
      · exact List.all_eq_true.mp (mTg_0_ok r h9) e he
      · rw [mGetD_out (by show 16 ≤ r; omega)] at he
        cases he
    ·
      have e1 : 16 * 1 + r = 16 + r := by omega
      rw [e1] at he ⊢
      rw [mTg_1_at r hr] at he
      by_cases h9 : r < 16
      · exact List.all_eq_true.mp (mTg_1_ok r h9) e he
      · rw [mGetD_out (by show 16 ≤ r; omega)] at he
        cases he
    ·
      have e1 : 16 * 2 + r = 32 + r := by omega
      rw [e1] at he ⊢
      rw [mTg_2_at r hr] at he
      by_cases h9 : r < 16
      · exact List.all_eq_true.mp (mTg_2_ok r h9) e he
      · rw [mGetD_out (by show 16 ≤ r; omega)] at he
        cases he
    ·
      have e1 : 16 * 3 + r = 48 + r := by omega
      rw [e1] at he ⊢
      rw [mTg_3_at r hr] at he
      by_cases h9 : r < 16
      · exact List.all_eq_true.mp (mTg_3_ok r h9) e he
      · rw [mGetD_out (by show 16 ≤ r; omega)] at he
        cases he
    ·
      have e1 : 16 * 4 + r = 64 + r := by omega
      rw [e1] at he ⊢
      rw [mTg_4_at r hr] at he
      by_cases h9 : r < 16
      · exact List.all_eq_true.mp (mTg_4_ok r h9) e he
      · rw [mGetD_out (by show 16 ≤ r; omega)] at he
        cases he
    ·
      have e1 : 16 * 5 + r = 80 + r := by omega
      rw [e1] at he ⊢
      rw [mTg_5_at r hr] at he
      by_cases h9 : r < 16
      · exact List.all_eq_true.mp (mTg_5_ok r h9) e he
      · rw [mGetD_out (by show 16 ≤ r; omega)] at he
        cases he
    ·
      have e1 : 16 * 6 + r = 96 + r := by omega
      rw [e1] at he ⊢
      rw [mTg_6_at r hr] at he
      by_cases h9 : r < 16
      · exact List.all_eq_true.mp (mTg_6_ok r h9) e he
      · rw [mGetD_out (by show 16 ≤ r; omega)] at he
        cases he
    ·
      have e1 : 16 * 7 + r = 112 + r := by omega
      rw [e1] at he ⊢
      rw [mTg_7_at r hr] at he
      by_cases h9 : r < 16
      · exact List.all_eq_true.mp (mTg_7_ok r h9) e he
      · rw [mGetD_out (by show 16 ≤ r; omega)] at he
        cases he
    ·
      have e1 : 16 * 8 + r = 128 + r := by omega
      rw [e1] at he ⊢
      rw [mTg_8_at r hr] at he
      by_cases h9 : r < 16
      · exact List.all_eq_true.mp (mTg_8_ok r h9) e he
      · rw [mGetD_out (by show 16 ≤ r; omega)] at he
        cases he
    ·
      have e1 : 16 * 9 + r = 144 + r := by omega
      rw [e1] at he ⊢
      rw [mTg_9_at r hr] at he
      by_cases h9 : r < 16
      · exact List.all_eq_true.mp (mTg_9_ok r h9) e he
      · rw [mGetD_out (by show 16 ≤ r; omega)] at he
        cases he
    ·
      have e1 : 16 * 10 + r = 160 + r := by omega
      rw [e1] at he ⊢
      rw [mTg_10_at r hr] at he
      by_cases h9 : r < 16
      · exact List.all_eq_true.mp (mTg_10_ok r h9) e he
      · rw [mGetD_out (by show 16 ≤ r; omega)] at he
        cases he
    ·
      have e1 : 16 * 11 + r = 176 + r := by omega
      rw [e1] at he ⊢
      rw [mTg_11_at r hr] at he
      by_cases h9 : r < 16
      · exact List.all_eq_true.mp (mTg_11_ok r h9) e he
      · rw [mGetD_out (by show 16 ≤ r; omega)] at he
        cases he
    ·
      have e1 : 16 * 12 + r = 192 + r := by omega
      rw [e1] at he ⊢
      rw [mTg_12_at r hr] at he
      by_cases h9 : r < 16
      · exact List.all_eq_true.mp (mTg_12_ok r h9) e he
      · rw [mGetD_out (by show 16 ≤ r; omega)] at he
        cases he
    ·
      have e1 : 16 * 13 + r = 208 + r := by omega
      rw [e1] at he ⊢
      rw [mTg_13_at r hr] at he
      by_cases h9 : r < 16
      · exact List.all_eq_true.mp (mTg_13_ok r h9) e he
      · rw [mGetD_out (by show 16 ≤ r; omega)] at he
        cases he
    ·
      have e1 : 16 * 14 + r = 224 + r := by omega
      rw [e1] at he ⊢
      rw [mTg_14_at r hr] at he
      by_cases h9 : r < 16
      · exact List.all_eq_true.mp (mTg_14_ok r h9) e he
      · rw [mGetD_out (by show 16 ≤ r; omega)] at he
        cases he
    ·
      have e1 : 16 * 15 + r = 240 + r := by omega
      rw [e1] at he ⊢
      rw [mTg_15_at r hr] at he
      by_cases h9 : r < 14
      · exact List.all_eq_true.mp (mTg_15_ok r h9) e he
      · rw [mGetD_out (by show 14 ≤ r; omega)] at he
        cases he
  · exfalso
    have h2 : mTab mi = [] := by
      unfold mTab
      rw [mGetD_out (n := mi / 16) (by show 16 ≤ mi / 16; omega)]
      rfl
    rw [h2] at he
    cases he
set_option maxRecDepth 100000 in
theorem mG_0 : (∀ w ∈ u_ws (mRX 0) (mTX 0) (mNX 0), w ∈ mTBL) ∧ Cond.instantiable (mRX 0) (mNX 0) ∈ mTBL ∧ Cond.initialized (mRX 0) ∈ mTBL := ⟨mIn_r [182, 184, 186] (by decide +kernel) (by decide +kernel), mW_in (wi := 168) (by decide +kernel), mW_in (wi := 96) (by decide +kernel)⟩
set_option maxRecDepth 100000 in
theorem mG_1 : (∀ w ∈ u_ws (mRX 1) (mTX 1) (mNX 1), w ∈ mTBL) ∧ Cond.instantiable (mRX 1) (mNX 1) ∈ mTBL ∧ Cond.initialized (mRX 1) ∈ mTBL := ⟨mIn_r [262, 264, 266, 268, 270, 272, 274, 276, 278, 280, 282, 284] (by decide +kernel) (by decide +kernel), mW_in (wi := 227) (by decide +kernel), mW_in (wi := 100) (by decide +kernel)⟩
set_option maxRecDepth 100000 in
theorem mG_2 : (∀ w ∈ u_ws (mRX 2) (mTX 2) (mNX 2), w ∈ mTBL) ∧ Cond.instantiable (mRX 2) (mNX 2) ∈ mTBL ∧ Cond.initialized (mRX 2) ∈ mTBL := ⟨mIn_r [158, 160, 162, 164] (by decide +kernel) (by decide +kernel), mW_in (wi := 147) (by decide +kernel), mW_in (wi := 95) (by decide +kernel)⟩
set_option maxRecDepth 100000 in
theorem mG_3 : (∀ w ∈ u_ws (mRX 3) (mTX 3) (mNX 3), w ∈ mTBL) ∧ Cond.instantiable (mRX 3) (mNX 3) ∈ mTBL ∧ Cond.initialized (mRX 3) ∈ mTBL := ⟨mIn_r [400, 402, 404, 406, 408, 410, 412, 414, 416, 418, 420, 422, 424] (by decide +kernel) (by decide +kernel), mW_in (wi := 113) (by decide +kernel), mW_in (wi := 93) (by decide +kernel)⟩
set_option maxRecDepth 100000 in
theorem mG_4 : (∀ w ∈ u_ws (mRX 4) (mTX 4) (mNX 4), w ∈ mTBL) ∧ Cond.instantiable (mRX 4) (mNX 4) ∈ mTBL ∧ Cond.initialized (mRX 4) ∈ mTBL := ⟨mIn_r [136, 138, 140, 142] (by decide +kernel) (by decide +kernel), mW_in (wi := 121) (by decide +kernel), mW_in (wi := 94) (by decide +kernel)⟩
set_option maxRecDepth 100000 in
theorem mG_5 : (∀ w ∈ u_ws (mRX 5) (mTX 5) (mNX 5), w ∈ mTBL) ∧ Cond.instantiable (mRX 5) (mNX 5) ∈ mTBL ∧ Cond.initialized (mRX 5) ∈ mTBL := ⟨mIn_r [336, 338, 340, 342, 344, 346, 348, 350, 352, 354, 356, 358, 360, 362, 364, 366, 368, 370, 372] (by decide +kernel) (by decide +kernel), mW_in (wi := 194) (by decide +kernel), mW_in (wi := 98) (by decide +kernel)⟩
set_option maxRecDepth 100000 in
theorem mG_6 : (∀ w ∈ u_ws (mRX 6) (mTX 6) (mNX 6), w ∈ mTBL) ∧ Cond.instantiable (mRX 6) (mNX 6) ∈ mTBL ∧ Cond.initialized (mRX 6) ∈ mTBL := ⟨mIn_r [219, 221, 223] (by decide +kernel) (by decide +kernel), mW_in (wi := 202) (by decide +kernel), mW_in (wi := 99) (by decide +kernel)⟩
set_option maxRecDepth 100000 in
theorem mG_7 : (∀ w ∈ u_ws (mRX 7) (mTX 7) (mNX 7), w ∈ mTBL) ∧ Cond.instantiable (mRX 7) (mNX 7) ∈ mTBL ∧ Cond.initialized (mRX 7) ∈ mTBL := ⟨mIn_r [432, 434, 436, 438, 440] (by decide +kernel) (by decide +kernel), mW_in (wi := 105) (by decide +kernel), mW_in (wi := 92) (by decide +kernel)⟩
set_option maxRecDepth 100000 in
theorem mG_8 : (∀ w ∈ u_ws (mRX 8) (mTX 8) (mNX 8), w ∈ mTBL) ∧ Cond.instantiable (mRX 8) (mNX 8) ∈ mTBL ∧ Cond.initialized (mRX 8) ∈ mTBL := ⟨mIn_r [978, 980, 982, 984, 986, 988, 990] (by decide +kernel) (by decide +kernel), mW_in (wi := 966) (by decide +kernel), mW_in (wi := 101) (by decide +kernel)⟩
set_option maxRecDepth 100000 in
theorem mG_ok : mG := ⟨fun ci h => by
  match ci, h with
  | 0, _ => exact mG_0
  | 1, _ => exact mG_1
  | 2, _ => exact mG_2
  | 3, _ => exact mG_3
  | 4, _ => exact mG_4
  | 5, _ => exact mG_5
  | 6, _ => exact mG_6
  | 7, _ => exact mG_7
  | 8, _ => exact mG_8, mW_in (wi := 110) (by decide +kernel), mW_in (wi := 111) (by decide +kernel), mW_in (wi := 193) (by decide +kernel), mW_in (wi := 192) (by decide +kernel), mW_in (wi := 97) (by decide +kernel), mW_in (wi := 145) (by decide +kernel), mW_in (wi := 103) (by decide +kernel), ⟨mW_in (wi := 724) (by decide +kernel), mW_in (wi := 725) (by decide +kernel)⟩, mW_in (wi := 762) (by decide +kernel), mW_in (wi := 763) (by decide +kernel)⟩
