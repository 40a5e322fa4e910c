/-! The references as the makers laid them. -/
def ma_RTL : List (List (Option Nat)) := [[some 1, some 41, some 162, some 163, some 182, some 184, some 194, some 198, some 200, some 212], [some 2, some 17, some 28, some 39, some 40], [some 3, some 10], [none, none, some 4, some 5, some 6, some 7, some 8, some 9], [], [], [], [], [], [], [none, none, some 11, some 12, some 13, some 14, some 15, some 16], [], [], [], [], [], [], [some 18, some 23], [none, some 19, some 20, some 21, some 22], [], [], [], [], [none, some 24, some 25, some 26, some 27], [], [], [], [], [some 29, some 34], [none, some 30, some 31, some 32, some 33], [], [], [], [], [none, some 35, some 36, some 37, some 38], [], [], [], [], [], [], [some 42, some 82, some 122], [some 43, some 58, some 69, some 80, some 81], [some 44, some 51], [none, none, some 45, some 46, some 47, some 48, some 49, some 50], [], [], [], [], [], [], [none, none, some 52, some 53, some 54, some 55, some 56, some 57], [], [], [], [], [], [], [some 59, some 64], [none, some 60, some 61, some 62, some 63], [], [], [], [], [none, some 65, some 66, some 67, some 68], [], [], [], [], [some 70, some 75], [none, some 71, some 72, some 73, some 74], [], [], [], [], [none, some 76, some 77, some 78, some 79], [], [], [], [], [], [], [some 83, some 98, some 109, some 120, some 121], [some 84, some 91], [none, none, some 85, some 86, some 87, some 88, some 89, some 90], [], [], [], [], [], [], [none, none, some 92, some 93, some 94, some 95, some 96, some 97], [], [], [], [], [], [], [some 99, some 104], [none, some 100, some 101, some 102, some 103], [], [], [], [], [none, some 105, some 106, some 107, some 108], [], [], [], [], [some 110, some 115], [none, some 111, some 112, some 113, some 114], [], [], [], [], [none, some 116, some 117, some 118, some 119], [], [], [], [], [], [], [some 123, some 138, some 149, some 160, some 161], [some 124, some 131], [none, none, some 125, some 126, some 127, some 128, some 129, some 130], [], [], [], [], [], [], [none, none, some 132, some 133, some 134, some 135, some 136, some 137], [], [], [], [], [], [], [some 139, some 144], [none, some 140, some 141, some 142, some 143], [], [], [], [], [none, some 145, some 146, some 147, some 148], [], [], [], [], [some 150, some 155], [none, some 151, some 152, some 153, some 154], [], [], [], [], [none, some 156, some 157, some 158, some 159], [], [], [], [], [], [], [], [some 164, some 171, some 176, none, none, none, none, none, none, none, none, none, some 181], [none, none, some 165, some 166, some 167, some 168, some 169, some 170], [], [], [], [], [], [], [none, some 172, some 173, some 174, some 175], [], [], [], [], [none, some 177, some 178, some 179, some 180], [], [], [], [], [], [none, none, some 183], [], [some 185, some 192], [none, none, some 186, some 187, some 188, some 189, some 190, some 191], [], [], [], [], [], [], [none, none, some 193], [], [some 195, none, some 196, some 197], [], [], [], [some 199], [], [some 201, some 208, some 210, some 211], [none, none, some 202, some 203, some 204, some 205, some 206, some 207], [], [], [], [], [], [], [none, none, some 209], [], [], [], [none, some 213, some 214, some 215, some 216], [], [], [], [], [none, some 218, some 219, some 220, some 221, some 222, some 223, some 224, some 225, none, none, none, none, none, none, none, none, none, some 226, some 227, none, none, none, none, none, none, none, none, none, none, some 228, some 229, some 230, some 231, some 232, some 233, none, some 234, none, none, some 235, none, none, some 236, some 237, some 238, some 239, none, none, none, none, some 240], [], [], [], [], [], [], [], [], [], [], [], [], [], [], [], [], [], [], [], [], [], [], []]
def ma_RT (o k : Nat) : Option Nat := (ma_RTL.getD o []).getD k none
/-- how many objects there are, and their references but the reader's tape -/
def ma_H (h : pb_HP) : Prop := h.1 = 241 ∧ ∀ o k, ¬ (o = 163 ∧ k = 5) → pb_R h o k = ma_RT o k
theorem ma_H_fr {L : List Nat} {F : List (Nat × Nat)} {h h2 : pb_HP} (H : ma_H h) (f : ma_fr L F h h2) : ma_H h2 := ⟨f.1.trans H.1, fun o k q => by rw [f.2.1]; exact H.2 o k q⟩
theorem ma_H_pI {h : pb_HP} (H : ma_H h) (o k : Nat) (v : Int32) : ma_H (pb_pI h o k v) := H
theorem ma_H_pW {h : pb_HP} (H : ma_H h) (o : Nat) (f : Nat → Int32) : ma_H (pb_pW h o f) := H
theorem sh_0 : pb_SH 0 = (10, 0) := rfl
theorem sh_1 : pb_SH 1 = (7, 0) := rfl
theorem sh_2 : pb_SH 2 = (15, 2) := rfl
theorem sh_3 : pb_SH 3 = (0, 0) := rfl
theorem sh_4 : pb_SH 4 = (12, 6) := rfl
theorem sh_5 : pb_SH 5 = (12, 6) := rfl
theorem sh_6 : pb_SH 6 = (12, 6) := rfl
theorem sh_7 : pb_SH 7 = (12, 6) := rfl
theorem sh_8 : pb_SH 8 = (12, 6) := rfl
theorem sh_9 : pb_SH 9 = (12, 36) := rfl
theorem sh_10 : pb_SH 10 = (0, 0) := rfl
theorem sh_11 : pb_SH 11 = (12, 6) := rfl
theorem sh_12 : pb_SH 12 = (12, 6) := rfl
theorem sh_13 : pb_SH 13 = (12, 6) := rfl
theorem sh_14 : pb_SH 14 = (12, 6) := rfl
theorem sh_15 : pb_SH 15 = (12, 6) := rfl
theorem sh_16 : pb_SH 16 = (12, 36) := rfl
theorem sh_17 : pb_SH 17 = (16, 2) := rfl
theorem sh_18 : pb_SH 18 = (4, 0) := rfl
theorem sh_19 : pb_SH 19 = (12, 40) := rfl
theorem sh_20 : pb_SH 20 = (12, 40) := rfl
theorem sh_21 : pb_SH 21 = (12, 40) := rfl
theorem sh_22 : pb_SH 22 = (12, 40) := rfl
theorem sh_23 : pb_SH 23 = (4, 0) := rfl
theorem sh_24 : pb_SH 24 = (12, 40) := rfl
theorem sh_25 : pb_SH 25 = (12, 40) := rfl
theorem sh_26 : pb_SH 26 = (12, 40) := rfl
theorem sh_27 : pb_SH 27 = (12, 40) := rfl
theorem sh_28 : pb_SH 28 = (16, 2) := rfl
theorem sh_29 : pb_SH 29 = (4, 0) := rfl
theorem sh_30 : pb_SH 30 = (12, 8) := rfl
theorem sh_31 : pb_SH 31 = (12, 8) := rfl
theorem sh_32 : pb_SH 32 = (12, 8) := rfl
theorem sh_33 : pb_SH 33 = (12, 8) := rfl
theorem sh_34 : pb_SH 34 = (4, 0) := rfl
theorem sh_35 : pb_SH 35 = (12, 8) := rfl
theorem sh_36 : pb_SH 36 = (12, 8) := rfl
theorem sh_37 : pb_SH 37 = (12, 8) := rfl
theorem sh_38 : pb_SH 38 = (12, 8) := rfl
theorem sh_39 : pb_SH 39 = (12, 3) := rfl
theorem sh_40 : pb_SH 40 = (13, 600) := rfl
theorem sh_41 : pb_SH 41 = (17, 3) := rfl
theorem sh_42 : pb_SH 42 = (7, 0) := rfl
theorem sh_43 : pb_SH 43 = (15, 2) := rfl
theorem sh_44 : pb_SH 44 = (0, 0) := rfl
theorem sh_45 : pb_SH 45 = (12, 6) := rfl
theorem sh_46 : pb_SH 46 = (12, 6) := rfl
theorem sh_47 : pb_SH 47 = (12, 6) := rfl
theorem sh_48 : pb_SH 48 = (12, 6) := rfl
theorem sh_49 : pb_SH 49 = (12, 6) := rfl
theorem sh_50 : pb_SH 50 = (12, 36) := rfl
theorem sh_51 : pb_SH 51 = (0, 0) := rfl
theorem sh_52 : pb_SH 52 = (12, 6) := rfl
theorem sh_53 : pb_SH 53 = (12, 6) := rfl
theorem sh_54 : pb_SH 54 = (12, 6) := rfl
theorem sh_55 : pb_SH 55 = (12, 6) := rfl
theorem sh_56 : pb_SH 56 = (12, 6) := rfl
theorem sh_57 : pb_SH 57 = (12, 36) := rfl
theorem sh_58 : pb_SH 58 = (16, 2) := rfl
theorem sh_59 : pb_SH 59 = (4, 0) := rfl
theorem sh_60 : pb_SH 60 = (12, 40) := rfl
theorem sh_61 : pb_SH 61 = (12, 40) := rfl
theorem sh_62 : pb_SH 62 = (12, 40) := rfl
theorem sh_63 : pb_SH 63 = (12, 40) := rfl
theorem sh_64 : pb_SH 64 = (4, 0) := rfl
theorem sh_65 : pb_SH 65 = (12, 40) := rfl
theorem sh_66 : pb_SH 66 = (12, 40) := rfl
theorem sh_67 : pb_SH 67 = (12, 40) := rfl
theorem sh_68 : pb_SH 68 = (12, 40) := rfl
theorem sh_69 : pb_SH 69 = (16, 2) := rfl
theorem sh_70 : pb_SH 70 = (4, 0) := rfl
theorem sh_71 : pb_SH 71 = (12, 8) := rfl
theorem sh_72 : pb_SH 72 = (12, 8) := rfl
theorem sh_73 : pb_SH 73 = (12, 8) := rfl
theorem sh_74 : pb_SH 74 = (12, 8) := rfl
theorem sh_75 : pb_SH 75 = (4, 0) := rfl
theorem sh_76 : pb_SH 76 = (12, 8) := rfl
theorem sh_77 : pb_SH 77 = (12, 8) := rfl
theorem sh_78 : pb_SH 78 = (12, 8) := rfl
theorem sh_79 : pb_SH 79 = (12, 8) := rfl
theorem sh_80 : pb_SH 80 = (12, 3) := rfl
theorem sh_81 : pb_SH 81 = (13, 600) := rfl
theorem sh_82 : pb_SH 82 = (7, 0) := rfl
theorem sh_83 : pb_SH 83 = (15, 2) := rfl
theorem sh_84 : pb_SH 84 = (0, 0) := rfl
theorem sh_85 : pb_SH 85 = (12, 6) := rfl
theorem sh_86 : pb_SH 86 = (12, 6) := rfl
theorem sh_87 : pb_SH 87 = (12, 6) := rfl
theorem sh_88 : pb_SH 88 = (12, 6) := rfl
theorem sh_89 : pb_SH 89 = (12, 6) := rfl
theorem sh_90 : pb_SH 90 = (12, 36) := rfl
theorem sh_91 : pb_SH 91 = (0, 0) := rfl
theorem sh_92 : pb_SH 92 = (12, 6) := rfl
theorem sh_93 : pb_SH 93 = (12, 6) := rfl
theorem sh_94 : pb_SH 94 = (12, 6) := rfl
theorem sh_95 : pb_SH 95 = (12, 6) := rfl
theorem sh_96 : pb_SH 96 = (12, 6) := rfl
theorem sh_97 : pb_SH 97 = (12, 36) := rfl
theorem sh_98 : pb_SH 98 = (16, 2) := rfl
theorem sh_99 : pb_SH 99 = (4, 0) := rfl
theorem sh_100 : pb_SH 100 = (12, 40) := rfl
theorem sh_101 : pb_SH 101 = (12, 40) := rfl
theorem sh_102 : pb_SH 102 = (12, 40) := rfl
theorem sh_103 : pb_SH 103 = (12, 40) := rfl
theorem sh_104 : pb_SH 104 = (4, 0) := rfl
theorem sh_105 : pb_SH 105 = (12, 40) := rfl
theorem sh_106 : pb_SH 106 = (12, 40) := rfl
theorem sh_107 : pb_SH 107 = (12, 40) := rfl
theorem sh_108 : pb_SH 108 = (12, 40) := rfl
theorem sh_109 : pb_SH 109 = (16, 2) := rfl
theorem sh_110 : pb_SH 110 = (4, 0) := rfl
theorem sh_111 : pb_SH 111 = (12, 8) := rfl
theorem sh_112 : pb_SH 112 = (12, 8) := rfl
theorem sh_113 : pb_SH 113 = (12, 8) := rfl
theorem sh_114 : pb_SH 114 = (12, 8) := rfl
theorem sh_115 : pb_SH 115 = (4, 0) := rfl
theorem sh_116 : pb_SH 116 = (12, 8) := rfl
theorem sh_117 : pb_SH 117 = (12, 8) := rfl
theorem sh_118 : pb_SH 118 = (12, 8) := rfl
theorem sh_119 : pb_SH 119 = (12, 8) := rfl
theorem sh_120 : pb_SH 120 = (12, 3) := rfl
theorem sh_121 : pb_SH 121 = (13, 600) := rfl
theorem sh_122 : pb_SH 122 = (7, 0) := rfl
theorem sh_123 : pb_SH 123 = (15, 2) := rfl
theorem sh_124 : pb_SH 124 = (0, 0) := rfl
theorem sh_125 : pb_SH 125 = (12, 6) := rfl
theorem sh_126 : pb_SH 126 = (12, 6) := rfl
theorem sh_127 : pb_SH 127 = (12, 6) := rfl
theorem sh_128 : pb_SH 128 = (12, 6) := rfl
theorem sh_129 : pb_SH 129 = (12, 6) := rfl
theorem sh_130 : pb_SH 130 = (12, 36) := rfl
theorem sh_131 : pb_SH 131 = (0, 0) := rfl
theorem sh_132 : pb_SH 132 = (12, 6) := rfl
theorem sh_133 : pb_SH 133 = (12, 6) := rfl
theorem sh_134 : pb_SH 134 = (12, 6) := rfl
theorem sh_135 : pb_SH 135 = (12, 6) := rfl
theorem sh_136 : pb_SH 136 = (12, 6) := rfl
theorem sh_137 : pb_SH 137 = (12, 36) := rfl
theorem sh_138 : pb_SH 138 = (16, 2) := rfl
theorem sh_139 : pb_SH 139 = (4, 0) := rfl
theorem sh_140 : pb_SH 140 = (12, 40) := rfl
theorem sh_141 : pb_SH 141 = (12, 40) := rfl
theorem sh_142 : pb_SH 142 = (12, 40) := rfl
theorem sh_143 : pb_SH 143 = (12, 40) := rfl
theorem sh_144 : pb_SH 144 = (4, 0) := rfl
theorem sh_145 : pb_SH 145 = (12, 40) := rfl
theorem sh_146 : pb_SH 146 = (12, 40) := rfl
theorem sh_147 : pb_SH 147 = (12, 40) := rfl
theorem sh_148 : pb_SH 148 = (12, 40) := rfl
theorem sh_149 : pb_SH 149 = (16, 2) := rfl
theorem sh_150 : pb_SH 150 = (4, 0) := rfl
theorem sh_151 : pb_SH 151 = (12, 8) := rfl
theorem sh_152 : pb_SH 152 = (12, 8) := rfl
theorem sh_153 : pb_SH 153 = (12, 8) := rfl
theorem sh_154 : pb_SH 154 = (12, 8) := rfl
theorem sh_155 : pb_SH 155 = (4, 0) := rfl
theorem sh_156 : pb_SH 156 = (12, 8) := rfl
theorem sh_157 : pb_SH 157 = (12, 8) := rfl
theorem sh_158 : pb_SH 158 = (12, 8) := rfl
theorem sh_159 : pb_SH 159 = (12, 8) := rfl
theorem sh_160 : pb_SH 160 = (12, 3) := rfl
theorem sh_161 : pb_SH 161 = (13, 600) := rfl
theorem sh_162 : pb_SH 162 = (14, 3) := rfl
theorem sh_163 : pb_SH 163 = (6, 0) := rfl
theorem sh_164 : pb_SH 164 = (0, 0) := rfl
theorem sh_165 : pb_SH 165 = (12, 6) := rfl
theorem sh_166 : pb_SH 166 = (12, 6) := rfl
theorem sh_167 : pb_SH 167 = (12, 6) := rfl
theorem sh_168 : pb_SH 168 = (12, 6) := rfl
theorem sh_169 : pb_SH 169 = (12, 6) := rfl
theorem sh_170 : pb_SH 170 = (12, 36) := rfl
theorem sh_171 : pb_SH 171 = (4, 0) := rfl
theorem sh_172 : pb_SH 172 = (12, 40) := rfl
theorem sh_173 : pb_SH 173 = (12, 40) := rfl
theorem sh_174 : pb_SH 174 = (12, 40) := rfl
theorem sh_175 : pb_SH 175 = (12, 40) := rfl
theorem sh_176 : pb_SH 176 = (4, 0) := rfl
theorem sh_177 : pb_SH 177 = (12, 8) := rfl
theorem sh_178 : pb_SH 178 = (12, 8) := rfl
theorem sh_179 : pb_SH 179 = (12, 8) := rfl
theorem sh_180 : pb_SH 180 = (12, 8) := rfl
theorem sh_181 : pb_SH 181 = (12, 3) := rfl
theorem sh_182 : pb_SH 182 = (5, 0) := rfl
theorem sh_183 : pb_SH 183 = (12, 6) := rfl
theorem sh_184 : pb_SH 184 = (8, 0) := rfl
theorem sh_185 : pb_SH 185 = (0, 0) := rfl
theorem sh_186 : pb_SH 186 = (12, 6) := rfl
theorem sh_187 : pb_SH 187 = (12, 6) := rfl
theorem sh_188 : pb_SH 188 = (12, 6) := rfl
theorem sh_189 : pb_SH 189 = (12, 6) := rfl
theorem sh_190 : pb_SH 190 = (12, 6) := rfl
theorem sh_191 : pb_SH 191 = (12, 36) := rfl
theorem sh_192 : pb_SH 192 = (5, 0) := rfl
theorem sh_193 : pb_SH 193 = (12, 6) := rfl
theorem sh_194 : pb_SH 194 = (2, 0) := rfl
theorem sh_195 : pb_SH 195 = (12, 6) := rfl
theorem sh_196 : pb_SH 196 = (12, 36) := rfl
theorem sh_197 : pb_SH 197 = (12, 6) := rfl
theorem sh_198 : pb_SH 198 = (9, 0) := rfl
theorem sh_199 : pb_SH 199 = (12, 6) := rfl
theorem sh_200 : pb_SH 200 = (1, 0) := rfl
theorem sh_201 : pb_SH 201 = (0, 0) := rfl
theorem sh_202 : pb_SH 202 = (12, 6) := rfl
theorem sh_203 : pb_SH 203 = (12, 6) := rfl
theorem sh_204 : pb_SH 204 = (12, 6) := rfl
theorem sh_205 : pb_SH 205 = (12, 6) := rfl
theorem sh_206 : pb_SH 206 = (12, 6) := rfl
theorem sh_207 : pb_SH 207 = (12, 36) := rfl
theorem sh_208 : pb_SH 208 = (5, 0) := rfl
theorem sh_209 : pb_SH 209 = (12, 6) := rfl
theorem sh_210 : pb_SH 210 = (12, 6) := rfl
theorem sh_211 : pb_SH 211 = (12, 6) := rfl
theorem sh_212 : pb_SH 212 = (3, 0) := rfl
theorem sh_213 : pb_SH 213 = (12, 729) := rfl
theorem sh_214 : pb_SH 214 = (12, 729) := rfl
theorem sh_215 : pb_SH 215 = (12, 6) := rfl
theorem sh_216 : pb_SH 216 = (12, 36) := rfl
theorem sh_217 : pb_SH 217 = (11, 0) := rfl
theorem sh_218 : pb_SH 218 = (13, 2400) := rfl
theorem sh_219 : pb_SH 219 = (12, 4) := rfl
theorem sh_220 : pb_SH 220 = (12, 4) := rfl
theorem sh_221 : pb_SH 221 = (12, 4) := rfl
theorem sh_222 : pb_SH 222 = (12, 12) := rfl
theorem sh_223 : pb_SH 223 = (12, 544) := rfl
theorem sh_224 : pb_SH 224 = (12, 1288) := rfl
theorem sh_225 : pb_SH 225 = (12, 200) := rfl
theorem sh_226 : pb_SH 226 = (12, 161) := rfl
theorem sh_227 : pb_SH 227 = (12, 4) := rfl
theorem sh_228 : pb_SH 228 = (12, 6) := rfl
theorem sh_229 : pb_SH 229 = (12, 6) := rfl
theorem sh_230 : pb_SH 230 = (12, 6) := rfl
theorem sh_231 : pb_SH 231 = (12, 6) := rfl
theorem sh_232 : pb_SH 232 = (12, 36) := rfl
theorem sh_233 : pb_SH 233 = (12, 6) := rfl
theorem sh_234 : pb_SH 234 = (12, 2401) := rfl
theorem sh_235 : pb_SH 235 = (12, 729) := rfl
theorem sh_236 : pb_SH 236 = (12, 6) := rfl
theorem sh_237 : pb_SH 237 = (12, 6) := rfl
theorem sh_238 : pb_SH 238 = (12, 6) := rfl
theorem sh_239 : pb_SH 239 = (12, 6) := rfl
theorem sh_240 : pb_SH 240 = (14, 3) := rfl
theorem mr_0_0 {h : pb_HP} (H : ma_H h) : pb_R h 0 0 = some 1 := (H.2 0 0 (by decide)).trans rfl
theorem mr_0_1 {h : pb_HP} (H : ma_H h) : pb_R h 0 1 = some 41 := (H.2 0 1 (by decide)).trans rfl
theorem mr_0_2 {h : pb_HP} (H : ma_H h) : pb_R h 0 2 = some 162 := (H.2 0 2 (by decide)).trans rfl
theorem mr_0_3 {h : pb_HP} (H : ma_H h) : pb_R h 0 3 = some 163 := (H.2 0 3 (by decide)).trans rfl
theorem mr_0_4 {h : pb_HP} (H : ma_H h) : pb_R h 0 4 = some 182 := (H.2 0 4 (by decide)).trans rfl
theorem mr_0_5 {h : pb_HP} (H : ma_H h) : pb_R h 0 5 = some 184 := (H.2 0 5 (by decide)).trans rfl
theorem mr_0_6 {h : pb_HP} (H : ma_H h) : pb_R h 0 6 = some 194 := (H.2 0 6 (by decide)).trans rfl
theorem mr_0_7 {h : pb_HP} (H : ma_H h) : pb_R h 0 7 = some 198 := (H.2 0 7 (by decide)).trans rfl
theorem mr_0_8 {h : pb_HP} (H : ma_H h) : pb_R h 0 8 = some 200 := (H.2 0 8 (by decide)).trans rfl
theorem mr_0_9 {h : pb_HP} (H : ma_H h) : pb_R h 0 9 = some 212 := (H.2 0 9 (by decide)).trans rfl
theorem mr_1_0 {h : pb_HP} (H : ma_H h) : pb_R h 1 0 = some 2 := (H.2 1 0 (by decide)).trans rfl
theorem mr_1_1 {h : pb_HP} (H : ma_H h) : pb_R h 1 1 = some 17 := (H.2 1 1 (by decide)).trans rfl
theorem mr_1_2 {h : pb_HP} (H : ma_H h) : pb_R h 1 2 = some 28 := (H.2 1 2 (by decide)).trans rfl
theorem mr_1_3 {h : pb_HP} (H : ma_H h) : pb_R h 1 3 = some 39 := (H.2 1 3 (by decide)).trans rfl
theorem mr_1_4 {h : pb_HP} (H : ma_H h) : pb_R h 1 4 = some 40 := (H.2 1 4 (by decide)).trans rfl
theorem mr_2_0 {h : pb_HP} (H : ma_H h) : pb_R h 2 0 = some 3 := (H.2 2 0 (by decide)).trans rfl
theorem mr_2_1 {h : pb_HP} (H : ma_H h) : pb_R h 2 1 = some 10 := (H.2 2 1 (by decide)).trans rfl
theorem mr_3_2 {h : pb_HP} (H : ma_H h) : pb_R h 3 2 = some 4 := (H.2 3 2 (by decide)).trans rfl
theorem mr_3_3 {h : pb_HP} (H : ma_H h) : pb_R h 3 3 = some 5 := (H.2 3 3 (by decide)).trans rfl
theorem mr_3_4 {h : pb_HP} (H : ma_H h) : pb_R h 3 4 = some 6 := (H.2 3 4 (by decide)).trans rfl
theorem mr_3_5 {h : pb_HP} (H : ma_H h) : pb_R h 3 5 = some 7 := (H.2 3 5 (by decide)).trans rfl
theorem mr_3_6 {h : pb_HP} (H : ma_H h) : pb_R h 3 6 = some 8 := (H.2 3 6 (by decide)).trans rfl
theorem mr_3_7 {h : pb_HP} (H : ma_H h) : pb_R h 3 7 = some 9 := (H.2 3 7 (by decide)).trans rfl
theorem mr_10_2 {h : pb_HP} (H : ma_H h) : pb_R h 10 2 = some 11 := (H.2 10 2 (by decide)).trans rfl
theorem mr_10_3 {h : pb_HP} (H : ma_H h) : pb_R h 10 3 = some 12 := (H.2 10 3 (by decide)).trans rfl
theorem mr_10_4 {h : pb_HP} (H : ma_H h) : pb_R h 10 4 = some 13 := (H.2 10 4 (by decide)).trans rfl
theorem mr_10_5 {h : pb_HP} (H : ma_H h) : pb_R h 10 5 = some 14 := (H.2 10 5 (by decide)).trans rfl
theorem mr_10_6 {h : pb_HP} (H : ma_H h) : pb_R h 10 6 = some 15 := (H.2 10 6 (by decide)).trans rfl
theorem mr_10_7 {h : pb_HP} (H : ma_H h) : pb_R h 10 7 = some 16 := (H.2 10 7 (by decide)).trans rfl
theorem mr_17_0 {h : pb_HP} (H : ma_H h) : pb_R h 17 0 = some 18 := (H.2 17 0 (by decide)).trans rfl
theorem mr_17_1 {h : pb_HP} (H : ma_H h) : pb_R h 17 1 = some 23 := (H.2 17 1 (by decide)).trans rfl
theorem mr_18_1 {h : pb_HP} (H : ma_H h) : pb_R h 18 1 = some 19 := (H.2 18 1 (by decide)).trans rfl
theorem mr_18_2 {h : pb_HP} (H : ma_H h) : pb_R h 18 2 = some 20 := (H.2 18 2 (by decide)).trans rfl
theorem mr_18_3 {h : pb_HP} (H : ma_H h) : pb_R h 18 3 = some 21 := (H.2 18 3 (by decide)).trans rfl
theorem mr_18_4 {h : pb_HP} (H : ma_H h) : pb_R h 18 4 = some 22 := (H.2 18 4 (by decide)).trans rfl
theorem mr_23_1 {h : pb_HP} (H : ma_H h) : pb_R h 23 1 = some 24 := (H.2 23 1 (by decide)).trans rfl
theorem mr_23_2 {h : pb_HP} (H : ma_H h) : pb_R h 23 2 = some 25 := (H.2 23 2 (by decide)).trans rfl
theorem mr_23_3 {h : pb_HP} (H : ma_H h) : pb_R h 23 3 = some 26 := (H.2 23 3 (by decide)).trans rfl
theorem mr_23_4 {h : pb_HP} (H : ma_H h) : pb_R h 23 4 = some 27 := (H.2 23 4 (by decide)).trans rfl
theorem mr_28_0 {h : pb_HP} (H : ma_H h) : pb_R h 28 0 = some 29 := (H.2 28 0 (by decide)).trans rfl
theorem mr_28_1 {h : pb_HP} (H : ma_H h) : pb_R h 28 1 = some 34 := (H.2 28 1 (by decide)).trans rfl
theorem mr_29_1 {h : pb_HP} (H : ma_H h) : pb_R h 29 1 = some 30 := (H.2 29 1 (by decide)).trans rfl
theorem mr_29_2 {h : pb_HP} (H : ma_H h) : pb_R h 29 2 = some 31 := (H.2 29 2 (by decide)).trans rfl
theorem mr_29_3 {h : pb_HP} (H : ma_H h) : pb_R h 29 3 = some 32 := (H.2 29 3 (by decide)).trans rfl
theorem mr_29_4 {h : pb_HP} (H : ma_H h) : pb_R h 29 4 = some 33 := (H.2 29 4 (by decide)).trans rfl
theorem mr_34_1 {h : pb_HP} (H : ma_H h) : pb_R h 34 1 = some 35 := (H.2 34 1 (by decide)).trans rfl
theorem mr_34_2 {h : pb_HP} (H : ma_H h) : pb_R h 34 2 = some 36 := (H.2 34 2 (by decide)).trans rfl
theorem mr_34_3 {h : pb_HP} (H : ma_H h) : pb_R h 34 3 = some 37 := (H.2 34 3 (by decide)).trans rfl
theorem mr_34_4 {h : pb_HP} (H : ma_H h) : pb_R h 34 4 = some 38 := (H.2 34 4 (by decide)).trans rfl
theorem mr_41_0 {h : pb_HP} (H : ma_H h) : pb_R h 41 0 = some 42 := (H.2 41 0 (by decide)).trans rfl
theorem mr_41_1 {h : pb_HP} (H : ma_H h) : pb_R h 41 1 = some 82 := (H.2 41 1 (by decide)).trans rfl
theorem mr_41_2 {h : pb_HP} (H : ma_H h) : pb_R h 41 2 = some 122 := (H.2 41 2 (by decide)).trans rfl
theorem mr_42_0 {h : pb_HP} (H : ma_H h) : pb_R h 42 0 = some 43 := (H.2 42 0 (by decide)).trans rfl
theorem mr_42_1 {h : pb_HP} (H : ma_H h) : pb_R h 42 1 = some 58 := (H.2 42 1 (by decide)).trans rfl
theorem mr_42_2 {h : pb_HP} (H : ma_H h) : pb_R h 42 2 = some 69 := (H.2 42 2 (by decide)).trans rfl
theorem mr_42_3 {h : pb_HP} (H : ma_H h) : pb_R h 42 3 = some 80 := (H.2 42 3 (by decide)).trans rfl
theorem mr_42_4 {h : pb_HP} (H : ma_H h) : pb_R h 42 4 = some 81 := (H.2 42 4 (by decide)).trans rfl
theorem mr_43_0 {h : pb_HP} (H : ma_H h) : pb_R h 43 0 = some 44 := (H.2 43 0 (by decide)).trans rfl
theorem mr_43_1 {h : pb_HP} (H : ma_H h) : pb_R h 43 1 = some 51 := (H.2 43 1 (by decide)).trans rfl
theorem mr_44_2 {h : pb_HP} (H : ma_H h) : pb_R h 44 2 = some 45 := (H.2 44 2 (by decide)).trans rfl
theorem mr_44_3 {h : pb_HP} (H : ma_H h) : pb_R h 44 3 = some 46 := (H.2 44 3 (by decide)).trans rfl
theorem mr_44_4 {h : pb_HP} (H : ma_H h) : pb_R h 44 4 = some 47 := (H.2 44 4 (by decide)).trans rfl
theorem mr_44_5 {h : pb_HP} (H : ma_H h) : pb_R h 44 5 = some 48 := (H.2 44 5 (by decide)).trans rfl
theorem mr_44_6 {h : pb_HP} (H : ma_H h) : pb_R h 44 6 = some 49 := (H.2 44 6 (by decide)).trans rfl
theorem mr_44_7 {h : pb_HP} (H : ma_H h) : pb_R h 44 7 = some 50 := (H.2 44 7 (by decide)).trans rfl
theorem mr_51_2 {h : pb_HP} (H : ma_H h) : pb_R h 51 2 = some 52 := (H.2 51 2 (by decide)).trans rfl
theorem mr_51_3 {h : pb_HP} (H : ma_H h) : pb_R h 51 3 = some 53 := (H.2 51 3 (by decide)).trans rfl
theorem mr_51_4 {h : pb_HP} (H : ma_H h) : pb_R h 51 4 = some 54 := (H.2 51 4 (by decide)).trans rfl
theorem mr_51_5 {h : pb_HP} (H : ma_H h) : pb_R h 51 5 = some 55 := (H.2 51 5 (by decide)).trans rfl
theorem mr_51_6 {h : pb_HP} (H : ma_H h) : pb_R h 51 6 = some 56 := (H.2 51 6 (by decide)).trans rfl
theorem mr_51_7 {h : pb_HP} (H : ma_H h) : pb_R h 51 7 = some 57 := (H.2 51 7 (by decide)).trans rfl
theorem mr_58_0 {h : pb_HP} (H : ma_H h) : pb_R h 58 0 = some 59 := (H.2 58 0 (by decide)).trans rfl
theorem mr_58_1 {h : pb_HP} (H : ma_H h) : pb_R h 58 1 = some 64 := (H.2 58 1 (by decide)).trans rfl
theorem mr_59_1 {h : pb_HP} (H : ma_H h) : pb_R h 59 1 = some 60 := (H.2 59 1 (by decide)).trans rfl
theorem mr_59_2 {h : pb_HP} (H : ma_H h) : pb_R h 59 2 = some 61 := (H.2 59 2 (by decide)).trans rfl
theorem mr_59_3 {h : pb_HP} (H : ma_H h) : pb_R h 59 3 = some 62 := (H.2 59 3 (by decide)).trans rfl
theorem mr_59_4 {h : pb_HP} (H : ma_H h) : pb_R h 59 4 = some 63 := (H.2 59 4 (by decide)).trans rfl
theorem mr_64_1 {h : pb_HP} (H : ma_H h) : pb_R h 64 1 = some 65 := (H.2 64 1 (by decide)).trans rfl
theorem mr_64_2 {h : pb_HP} (H : ma_H h) : pb_R h 64 2 = some 66 := (H.2 64 2 (by decide)).trans rfl
theorem mr_64_3 {h : pb_HP} (H : ma_H h) : pb_R h 64 3 = some 67 := (H.2 64 3 (by decide)).trans rfl
theorem mr_64_4 {h : pb_HP} (H : ma_H h) : pb_R h 64 4 = some 68 := (H.2 64 4 (by decide)).trans rfl
theorem mr_69_0 {h : pb_HP} (H : ma_H h) : pb_R h 69 0 = some 70 := (H.2 69 0 (by decide)).trans rfl
theorem mr_69_1 {h : pb_HP} (H : ma_H h) : pb_R h 69 1 = some 75 := (H.2 69 1 (by decide)).trans rfl
theorem mr_70_1 {h : pb_HP} (H : ma_H h) : pb_R h 70 1 = some 71 := (H.2 70 1 (by decide)).trans rfl
theorem mr_70_2 {h : pb_HP} (H : ma_H h) : pb_R h 70 2 = some 72 := (H.2 70 2 (by decide)).trans rfl
theorem mr_70_3 {h : pb_HP} (H : ma_H h) : pb_R h 70 3 = some 73 := (H.2 70 3 (by decide)).trans rfl
theorem mr_70_4 {h : pb_HP} (H : ma_H h) : pb_R h 70 4 = some 74 := (H.2 70 4 (by decide)).trans rfl
theorem mr_75_1 {h : pb_HP} (H : ma_H h) : pb_R h 75 1 = some 76 := (H.2 75 1 (by decide)).trans rfl
theorem mr_75_2 {h : pb_HP} (H : ma_H h) : pb_R h 75 2 = some 77 := (H.2 75 2 (by decide)).trans rfl
theorem mr_75_3 {h : pb_HP} (H : ma_H h) : pb_R h 75 3 = some 78 := (H.2 75 3 (by decide)).trans rfl
theorem mr_75_4 {h : pb_HP} (H : ma_H h) : pb_R h 75 4 = some 79 := (H.2 75 4 (by decide)).trans rfl
theorem mr_82_0 {h : pb_HP} (H : ma_H h) : pb_R h 82 0 = some 83 := (H.2 82 0 (by decide)).trans rfl
theorem mr_82_1 {h : pb_HP} (H : ma_H h) : pb_R h 82 1 = some 98 := (H.2 82 1 (by decide)).trans rfl
theorem mr_82_2 {h : pb_HP} (H : ma_H h) : pb_R h 82 2 = some 109 := (H.2 82 2 (by decide)).trans rfl
theorem mr_82_3 {h : pb_HP} (H : ma_H h) : pb_R h 82 3 = some 120 := (H.2 82 3 (by decide)).trans rfl
theorem mr_82_4 {h : pb_HP} (H : ma_H h) : pb_R h 82 4 = some 121 := (H.2 82 4 (by decide)).trans rfl
theorem mr_83_0 {h : pb_HP} (H : ma_H h) : pb_R h 83 0 = some 84 := (H.2 83 0 (by decide)).trans rfl
theorem mr_83_1 {h : pb_HP} (H : ma_H h) : pb_R h 83 1 = some 91 := (H.2 83 1 (by decide)).trans rfl
theorem mr_84_2 {h : pb_HP} (H : ma_H h) : pb_R h 84 2 = some 85 := (H.2 84 2 (by decide)).trans rfl
theorem mr_84_3 {h : pb_HP} (H : ma_H h) : pb_R h 84 3 = some 86 := (H.2 84 3 (by decide)).trans rfl
theorem mr_84_4 {h : pb_HP} (H : ma_H h) : pb_R h 84 4 = some 87 := (H.2 84 4 (by decide)).trans rfl
theorem mr_84_5 {h : pb_HP} (H : ma_H h) : pb_R h 84 5 = some 88 := (H.2 84 5 (by decide)).trans rfl
theorem mr_84_6 {h : pb_HP} (H : ma_H h) : pb_R h 84 6 = some 89 := (H.2 84 6 (by decide)).trans rfl
theorem mr_84_7 {h : pb_HP} (H : ma_H h) : pb_R h 84 7 = some 90 := (H.2 84 7 (by decide)).trans rfl
theorem mr_91_2 {h : pb_HP} (H : ma_H h) : pb_R h 91 2 = some 92 := (H.2 91 2 (by decide)).trans rfl
theorem mr_91_3 {h : pb_HP} (H : ma_H h) : pb_R h 91 3 = some 93 := (H.2 91 3 (by decide)).trans rfl
theorem mr_91_4 {h : pb_HP} (H : ma_H h) : pb_R h 91 4 = some 94 := (H.2 91 4 (by decide)).trans rfl
theorem mr_91_5 {h : pb_HP} (H : ma_H h) : pb_R h 91 5 = some 95 := (H.2 91 5 (by decide)).trans rfl
theorem mr_91_6 {h : pb_HP} (H : ma_H h) : pb_R h 91 6 = some 96 := (H.2 91 6 (by decide)).trans rfl
theorem mr_91_7 {h : pb_HP} (H : ma_H h) : pb_R h 91 7 = some 97 := (H.2 91 7 (by decide)).trans rfl
theorem mr_98_0 {h : pb_HP} (H : ma_H h) : pb_R h 98 0 = some 99 := (H.2 98 0 (by decide)).trans rfl
theorem mr_98_1 {h : pb_HP} (H : ma_H h) : pb_R h 98 1 = some 104 := (H.2 98 1 (by decide)).trans rfl
theorem mr_99_1 {h : pb_HP} (H : ma_H h) : pb_R h 99 1 = some 100 := (H.2 99 1 (by decide)).trans rfl
theorem mr_99_2 {h : pb_HP} (H : ma_H h) : pb_R h 99 2 = some 101 := (H.2 99 2 (by decide)).trans rfl
theorem mr_99_3 {h : pb_HP} (H : ma_H h) : pb_R h 99 3 = some 102 := (H.2 99 3 (by decide)).trans rfl
theorem mr_99_4 {h : pb_HP} (H : ma_H h) : pb_R h 99 4 = some 103 := (H.2 99 4 (by decide)).trans rfl
theorem mr_104_1 {h : pb_HP} (H : ma_H h) : pb_R h 104 1 = some 105 := (H.2 104 1 (by decide)).trans rfl
theorem mr_104_2 {h : pb_HP} (H : ma_H h) : pb_R h 104 2 = some 106 := (H.2 104 2 (by decide)).trans rfl
theorem mr_104_3 {h : pb_HP} (H : ma_H h) : pb_R h 104 3 = some 107 := (H.2 104 3 (by decide)).trans rfl
theorem mr_104_4 {h : pb_HP} (H : ma_H h) : pb_R h 104 4 = some 108 := (H.2 104 4 (by decide)).trans rfl
theorem mr_109_0 {h : pb_HP} (H : ma_H h) : pb_R h 109 0 = some 110 := (H.2 109 0 (by decide)).trans rfl
theorem mr_109_1 {h : pb_HP} (H : ma_H h) : pb_R h 109 1 = some 115 := (H.2 109 1 (by decide)).trans rfl
theorem mr_110_1 {h : pb_HP} (H : ma_H h) : pb_R h 110 1 = some 111 := (H.2 110 1 (by decide)).trans rfl
theorem mr_110_2 {h : pb_HP} (H : ma_H h) : pb_R h 110 2 = some 112 := (H.2 110 2 (by decide)).trans rfl
theorem mr_110_3 {h : pb_HP} (H : ma_H h) : pb_R h 110 3 = some 113 := (H.2 110 3 (by decide)).trans rfl
theorem mr_110_4 {h : pb_HP} (H : ma_H h) : pb_R h 110 4 = some 114 := (H.2 110 4 (by decide)).trans rfl
theorem mr_115_1 {h : pb_HP} (H : ma_H h) : pb_R h 115 1 = some 116 := (H.2 115 1 (by decide)).trans rfl
theorem mr_115_2 {h : pb_HP} (H : ma_H h) : pb_R h 115 2 = some 117 := (H.2 115 2 (by decide)).trans rfl
theorem mr_115_3 {h : pb_HP} (H : ma_H h) : pb_R h 115 3 = some 118 := (H.2 115 3 (by decide)).trans rfl
theorem mr_115_4 {h : pb_HP} (H : ma_H h) : pb_R h 115 4 = some 119 := (H.2 115 4 (by decide)).trans rfl
theorem mr_122_0 {h : pb_HP} (H : ma_H h) : pb_R h 122 0 = some 123 := (H.2 122 0 (by decide)).trans rfl
theorem mr_122_1 {h : pb_HP} (H : ma_H h) : pb_R h 122 1 = some 138 := (H.2 122 1 (by decide)).trans rfl
theorem mr_122_2 {h : pb_HP} (H : ma_H h) : pb_R h 122 2 = some 149 := (H.2 122 2 (by decide)).trans rfl
theorem mr_122_3 {h : pb_HP} (H : ma_H h) : pb_R h 122 3 = some 160 := (H.2 122 3 (by decide)).trans rfl
theorem mr_122_4 {h : pb_HP} (H : ma_H h) : pb_R h 122 4 = some 161 := (H.2 122 4 (by decide)).trans rfl
theorem mr_123_0 {h : pb_HP} (H : ma_H h) : pb_R h 123 0 = some 124 := (H.2 123 0 (by decide)).trans rfl
theorem mr_123_1 {h : pb_HP} (H : ma_H h) : pb_R h 123 1 = some 131 := (H.2 123 1 (by decide)).trans rfl
theorem mr_124_2 {h : pb_HP} (H : ma_H h) : pb_R h 124 2 = some 125 := (H.2 124 2 (by decide)).trans rfl
theorem mr_124_3 {h : pb_HP} (H : ma_H h) : pb_R h 124 3 = some 126 := (H.2 124 3 (by decide)).trans rfl
theorem mr_124_4 {h : pb_HP} (H : ma_H h) : pb_R h 124 4 = some 127 := (H.2 124 4 (by decide)).trans rfl
theorem mr_124_5 {h : pb_HP} (H : ma_H h) : pb_R h 124 5 = some 128 := (H.2 124 5 (by decide)).trans rfl
theorem mr_124_6 {h : pb_HP} (H : ma_H h) : pb_R h 124 6 = some 129 := (H.2 124 6 (by decide)).trans rfl
theorem mr_124_7 {h : pb_HP} (H : ma_H h) : pb_R h 124 7 = some 130 := (H.2 124 7 (by decide)).trans rfl
theorem mr_131_2 {h : pb_HP} (H : ma_H h) : pb_R h 131 2 = some 132 := (H.2 131 2 (by decide)).trans rfl
theorem mr_131_3 {h : pb_HP} (H : ma_H h) : pb_R h 131 3 = some 133 := (H.2 131 3 (by decide)).trans rfl
theorem mr_131_4 {h : pb_HP} (H : ma_H h) : pb_R h 131 4 = some 134 := (H.2 131 4 (by decide)).trans rfl
theorem mr_131_5 {h : pb_HP} (H : ma_H h) : pb_R h 131 5 = some 135 := (H.2 131 5 (by decide)).trans rfl
theorem mr_131_6 {h : pb_HP} (H : ma_H h) : pb_R h 131 6 = some 136 := (H.2 131 6 (by decide)).trans rfl
theorem mr_131_7 {h : pb_HP} (H : ma_H h) : pb_R h 131 7 = some 137 := (H.2 131 7 (by decide)).trans rfl
theorem mr_138_0 {h : pb_HP} (H : ma_H h) : pb_R h 138 0 = some 139 := (H.2 138 0 (by decide)).trans rfl
theorem mr_138_1 {h : pb_HP} (H : ma_H h) : pb_R h 138 1 = some 144 := (H.2 138 1 (by decide)).trans rfl
theorem mr_139_1 {h : pb_HP} (H : ma_H h) : pb_R h 139 1 = some 140 := (H.2 139 1 (by decide)).trans rfl
theorem mr_139_2 {h : pb_HP} (H : ma_H h) : pb_R h 139 2 = some 141 := (H.2 139 2 (by decide)).trans rfl
theorem mr_139_3 {h : pb_HP} (H : ma_H h) : pb_R h 139 3 = some 142 := (H.2 139 3 (by decide)).trans rfl
theorem mr_139_4 {h : pb_HP} (H : ma_H h) : pb_R h 139 4 = some 143 := (H.2 139 4 (by decide)).trans rfl
theorem mr_144_1 {h : pb_HP} (H : ma_H h) : pb_R h 144 1 = some 145 := (H.2 144 1 (by decide)).trans rfl
theorem mr_144_2 {h : pb_HP} (H : ma_H h) : pb_R h 144 2 = some 146 := (H.2 144 2 (by decide)).trans rfl
theorem mr_144_3 {h : pb_HP} (H : ma_H h) : pb_R h 144 3 = some 147 := (H.2 144 3 (by decide)).trans rfl
theorem mr_144_4 {h : pb_HP} (H : ma_H h) : pb_R h 144 4 = some 148 := (H.2 144 4 (by decide)).trans rfl
theorem mr_149_0 {h : pb_HP} (H : ma_H h) : pb_R h 149 0 = some 150 := (H.2 149 0 (by decide)).trans rfl
theorem mr_149_1 {h : pb_HP} (H : ma_H h) : pb_R h 149 1 = some 155 := (H.2 149 1 (by decide)).trans rfl
theorem mr_150_1 {h : pb_HP} (H : ma_H h) : pb_R h 150 1 = some 151 := (H.2 150 1 (by decide)).trans rfl
theorem mr_150_2 {h : pb_HP} (H : ma_H h) : pb_R h 150 2 = some 152 := (H.2 150 2 (by decide)).trans rfl
theorem mr_150_3 {h : pb_HP} (H : ma_H h) : pb_R h 150 3 = some 153 := (H.2 150 3 (by decide)).trans rfl
theorem mr_150_4 {h : pb_HP} (H : ma_H h) : pb_R h 150 4 = some 154 := (H.2 150 4 (by decide)).trans rfl
theorem mr_155_1 {h : pb_HP} (H : ma_H h) : pb_R h 155 1 = some 156 := (H.2 155 1 (by decide)).trans rfl
theorem mr_155_2 {h : pb_HP} (H : ma_H h) : pb_R h 155 2 = some 157 := (H.2 155 2 (by decide)).trans rfl
theorem mr_155_3 {h : pb_HP} (H : ma_H h) : pb_R h 155 3 = some 158 := (H.2 155 3 (by decide)).trans rfl
theorem mr_155_4 {h : pb_HP} (H : ma_H h) : pb_R h 155 4 = some 159 := (H.2 155 4 (by decide)).trans rfl
theorem mr_163_0 {h : pb_HP} (H : ma_H h) : pb_R h 163 0 = some 164 := (H.2 163 0 (by decide)).trans rfl
theorem mr_163_1 {h : pb_HP} (H : ma_H h) : pb_R h 163 1 = some 171 := (H.2 163 1 (by decide)).trans rfl
theorem mr_163_2 {h : pb_HP} (H : ma_H h) : pb_R h 163 2 = some 176 := (H.2 163 2 (by decide)).trans rfl
theorem mr_163_12 {h : pb_HP} (H : ma_H h) : pb_R h 163 12 = some 181 := (H.2 163 12 (by decide)).trans rfl
theorem mr_164_2 {h : pb_HP} (H : ma_H h) : pb_R h 164 2 = some 165 := (H.2 164 2 (by decide)).trans rfl
theorem mr_164_3 {h : pb_HP} (H : ma_H h) : pb_R h 164 3 = some 166 := (H.2 164 3 (by decide)).trans rfl
theorem mr_164_4 {h : pb_HP} (H : ma_H h) : pb_R h 164 4 = some 167 := (H.2 164 4 (by decide)).trans rfl
theorem mr_164_5 {h : pb_HP} (H : ma_H h) : pb_R h 164 5 = some 168 := (H.2 164 5 (by decide)).trans rfl
theorem mr_164_6 {h : pb_HP} (H : ma_H h) : pb_R h 164 6 = some 169 := (H.2 164 6 (by decide)).trans rfl
theorem mr_164_7 {h : pb_HP} (H : ma_H h) : pb_R h 164 7 = some 170 := (H.2 164 7 (by decide)).trans rfl
theorem mr_171_1 {h : pb_HP} (H : ma_H h) : pb_R h 171 1 = some 172 := (H.2 171 1 (by decide)).trans rfl
theorem mr_171_2 {h : pb_HP} (H : ma_H h) : pb_R h 171 2 = some 173 := (H.2 171 2 (by decide)).trans rfl
theorem mr_171_3 {h : pb_HP} (H : ma_H h) : pb_R h 171 3 = some 174 := (H.2 171 3 (by decide)).trans rfl
theorem mr_171_4 {h : pb_HP} (H : ma_H h) : pb_R h 171 4 = some 175 := (H.2 171 4 (by decide)).trans rfl
theorem mr_176_1 {h : pb_HP} (H : ma_H h) : pb_R h 176 1 = some 177 := (H.2 176 1 (by decide)).trans rfl
theorem mr_176_2 {h : pb_HP} (H : ma_H h) : pb_R h 176 2 = some 178 := (H.2 176 2 (by decide)).trans rfl
theorem mr_176_3 {h : pb_HP} (H : ma_H h) : pb_R h 176 3 = some 179 := (H.2 176 3 (by decide)).trans rfl
theorem mr_176_4 {h : pb_HP} (H : ma_H h) : pb_R h 176 4 = some 180 := (H.2 176 4 (by decide)).trans rfl
theorem mr_182_2 {h : pb_HP} (H : ma_H h) : pb_R h 182 2 = some 183 := (H.2 182 2 (by decide)).trans rfl
theorem mr_184_0 {h : pb_HP} (H : ma_H h) : pb_R h 184 0 = some 185 := (H.2 184 0 (by decide)).trans rfl
theorem mr_184_1 {h : pb_HP} (H : ma_H h) : pb_R h 184 1 = some 192 := (H.2 184 1 (by decide)).trans rfl
theorem mr_185_2 {h : pb_HP} (H : ma_H h) : pb_R h 185 2 = some 186 := (H.2 185 2 (by decide)).trans rfl
theorem mr_185_3 {h : pb_HP} (H : ma_H h) : pb_R h 185 3 = some 187 := (H.2 185 3 (by decide)).trans rfl
theorem mr_185_4 {h : pb_HP} (H : ma_H h) : pb_R h 185 4 = some 188 := (H.2 185 4 (by decide)).trans rfl
theorem mr_185_5 {h : pb_HP} (H : ma_H h) : pb_R h 185 5 = some 189 := (H.2 185 5 (by decide)).trans rfl
theorem mr_185_6 {h : pb_HP} (H : ma_H h) : pb_R h 185 6 = some 190 := (H.2 185 6 (by decide)).trans rfl
theorem mr_185_7 {h : pb_HP} (H : ma_H h) : pb_R h 185 7 = some 191 := (H.2 185 7 (by decide)).trans rfl
theorem mr_192_2 {h : pb_HP} (H : ma_H h) : pb_R h 192 2 = some 193 := (H.2 192 2 (by decide)).trans rfl
theorem mr_194_0 {h : pb_HP} (H : ma_H h) : pb_R h 194 0 = some 195 := (H.2 194 0 (by decide)).trans rfl
theorem mr_194_2 {h : pb_HP} (H : ma_H h) : pb_R h 194 2 = some 196 := (H.2 194 2 (by decide)).trans rfl
theorem mr_194_3 {h : pb_HP} (H : ma_H h) : pb_R h 194 3 = some 197 := (H.2 194 3 (by decide)).trans rfl
theorem mr_198_0 {h : pb_HP} (H : ma_H h) : pb_R h 198 0 = some 199 := (H.2 198 0 (by decide)).trans rfl
theorem mr_200_0 {h : pb_HP} (H : ma_H h) : pb_R h 200 0 = some 201 := (H.2 200 0 (by decide)).trans rfl
theorem mr_200_1 {h : pb_HP} (H : ma_H h) : pb_R h 200 1 = some 208 := (H.2 200 1 (by decide)).trans rfl
theorem mr_200_2 {h : pb_HP} (H : ma_H h) : pb_R h 200 2 = some 210 := (H.2 200 2 (by decide)).trans rfl
theorem mr_200_3 {h : pb_HP} (H : ma_H h) : pb_R h 200 3 = some 211 := (H.2 200 3 (by decide)).trans rfl
theorem mr_201_2 {h : pb_HP} (H : ma_H h) : pb_R h 201 2 = some 202 := (H.2 201 2 (by decide)).trans rfl
theorem mr_201_3 {h : pb_HP} (H : ma_H h) : pb_R h 201 3 = some 203 := (H.2 201 3 (by decide)).trans rfl
theorem mr_201_4 {h : pb_HP} (H : ma_H h) : pb_R h 201 4 = some 204 := (H.2 201 4 (by decide)).trans rfl
theorem mr_201_5 {h : pb_HP} (H : ma_H h) : pb_R h 201 5 = some 205 := (H.2 201 5 (by decide)).trans rfl
theorem mr_201_6 {h : pb_HP} (H : ma_H h) : pb_R h 201 6 = some 206 := (H.2 201 6 (by decide)).trans rfl
theorem mr_201_7 {h : pb_HP} (H : ma_H h) : pb_R h 201 7 = some 207 := (H.2 201 7 (by decide)).trans rfl
theorem mr_208_2 {h : pb_HP} (H : ma_H h) : pb_R h 208 2 = some 209 := (H.2 208 2 (by decide)).trans rfl
theorem mr_212_1 {h : pb_HP} (H : ma_H h) : pb_R h 212 1 = some 213 := (H.2 212 1 (by decide)).trans rfl
theorem mr_212_2 {h : pb_HP} (H : ma_H h) : pb_R h 212 2 = some 214 := (H.2 212 2 (by decide)).trans rfl
theorem mr_212_3 {h : pb_HP} (H : ma_H h) : pb_R h 212 3 = some 215 := (H.2 212 3 (by decide)).trans rfl
theorem mr_212_4 {h : pb_HP} (H : ma_H h) : pb_R h 212 4 = some 216 := (H.2 212 4 (by decide)).trans rfl
theorem mr_217_1 {h : pb_HP} (H : ma_H h) : pb_R h 217 1 = some 218 := (H.2 217 1 (by decide)).trans rfl
theorem mr_217_2 {h : pb_HP} (H : ma_H h) : pb_R h 217 2 = some 219 := (H.2 217 2 (by decide)).trans rfl
theorem mr_217_3 {h : pb_HP} (H : ma_H h) : pb_R h 217 3 = some 220 := (H.2 217 3 (by decide)).trans rfl
theorem mr_217_4 {h : pb_HP} (H : ma_H h) : pb_R h 217 4 = some 221 := (H.2 217 4 (by decide)).trans rfl
theorem mr_217_5 {h : pb_HP} (H : ma_H h) : pb_R h 217 5 = some 222 := (H.2 217 5 (by decide)).trans rfl
theorem mr_217_6 {h : pb_HP} (H : ma_H h) : pb_R h 217 6 = some 223 := (H.2 217 6 (by decide)).trans rfl
theorem mr_217_7 {h : pb_HP} (H : ma_H h) : pb_R h 217 7 = some 224 := (H.2 217 7 (by decide)).trans rfl
theorem mr_217_8 {h : pb_HP} (H : ma_H h) : pb_R h 217 8 = some 225 := (H.2 217 8 (by decide)).trans rfl
theorem mr_217_18 {h : pb_HP} (H : ma_H h) : pb_R h 217 18 = some 226 := (H.2 217 18 (by decide)).trans rfl
theorem mr_217_19 {h : pb_HP} (H : ma_H h) : pb_R h 217 19 = some 227 := (H.2 217 19 (by decide)).trans rfl
theorem mr_217_30 {h : pb_HP} (H : ma_H h) : pb_R h 217 30 = some 228 := (H.2 217 30 (by decide)).trans rfl
theorem mr_217_31 {h : pb_HP} (H : ma_H h) : pb_R h 217 31 = some 229 := (H.2 217 31 (by decide)).trans rfl
theorem mr_217_32 {h : pb_HP} (H : ma_H h) : pb_R h 217 32 = some 230 := (H.2 217 32 (by decide)).trans rfl
theorem mr_217_33 {h : pb_HP} (H : ma_H h) : pb_R h 217 33 = some 231 := (H.2 217 33 (by decide)).trans rfl
theorem mr_217_34 {h : pb_HP} (H : ma_H h) : pb_R h 217 34 = some 232 := (H.2 217 34 (by decide)).trans rfl
theorem mr_217_35 {h : pb_HP} (H : ma_H h) : pb_R h 217 35 = some 233 := (H.2 217 35 (by decide)).trans rfl
theorem mr_217_37 {h : pb_HP} (H : ma_H h) : pb_R h 217 37 = some 234 := (H.2 217 37 (by decide)).trans rfl
theorem mr_217_40 {h : pb_HP} (H : ma_H h) : pb_R h 217 40 = some 235 := (H.2 217 40 (by decide)).trans rfl
theorem mr_217_43 {h : pb_HP} (H : ma_H h) : pb_R h 217 43 = some 236 := (H.2 217 43 (by decide)).trans rfl
theorem mr_217_44 {h : pb_HP} (H : ma_H h) : pb_R h 217 44 = some 237 := (H.2 217 44 (by decide)).trans rfl
theorem mr_217_45 {h : pb_HP} (H : ma_H h) : pb_R h 217 45 = some 238 := (H.2 217 45 (by decide)).trans rfl
theorem mr_217_46 {h : pb_HP} (H : ma_H h) : pb_R h 217 46 = some 239 := (H.2 217 46 (by decide)).trans rfl
theorem mr_217_51 {h : pb_HP} (H : ma_H h) : pb_R h 217 51 = some 240 := (H.2 217 51 (by decide)).trans rfl
theorem mi_0 {h : pb_HP} (H : ma_H h) : pb_is h 0 10 := ma_is H.1 (by decide) sh_0
theorem mi_1 {h : pb_HP} (H : ma_H h) : pb_is h 1 7 := ma_is H.1 (by decide) sh_1
theorem mi_2 {h : pb_HP} (H : ma_H h) : pb_is h 2 15 := ma_is H.1 (by decide) sh_2
theorem mi_3 {h : pb_HP} (H : ma_H h) : pb_is h 3 0 := ma_is H.1 (by decide) sh_3
theorem mi_4 {h : pb_HP} (H : ma_H h) : pb_is h 4 12 := ma_is H.1 (by decide) sh_4
theorem mi_5 {h : pb_HP} (H : ma_H h) : pb_is h 5 12 := ma_is H.1 (by decide) sh_5
theorem mi_6 {h : pb_HP} (H : ma_H h) : pb_is h 6 12 := ma_is H.1 (by decide) sh_6
theorem mi_7 {h : pb_HP} (H : ma_H h) : pb_is h 7 12 := ma_is H.1 (by decide) sh_7
theorem mi_8 {h : pb_HP} (H : ma_H h) : pb_is h 8 12 := ma_is H.1 (by decide) sh_8
theorem mi_9 {h : pb_HP} (H : ma_H h) : pb_is h 9 12 := ma_is H.1 (by decide) sh_9
theorem mi_10 {h : pb_HP} (H : ma_H h) : pb_is h 10 0 := ma_is H.1 (by decide) sh_10
theorem mi_11 {h : pb_HP} (H : ma_H h) : pb_is h 11 12 := ma_is H.1 (by decide) sh_11
theorem mi_12 {h : pb_HP} (H : ma_H h) : pb_is h 12 12 := ma_is H.1 (by decide) sh_12
theorem mi_13 {h : pb_HP} (H : ma_H h) : pb_is h 13 12 := ma_is H.1 (by decide) sh_13
theorem mi_14 {h : pb_HP} (H : ma_H h) : pb_is h 14 12 := ma_is H.1 (by decide) sh_14
theorem mi_15 {h : pb_HP} (H : ma_H h) : pb_is h 15 12 := ma_is H.1 (by decide) sh_15
theorem mi_16 {h : pb_HP} (H : ma_H h) : pb_is h 16 12 := ma_is H.1 (by decide) sh_16
theorem mi_17 {h : pb_HP} (H : ma_H h) : pb_is h 17 16 := ma_is H.1 (by decide) sh_17
theorem mi_18 {h : pb_HP} (H : ma_H h) : pb_is h 18 4 := ma_is H.1 (by decide) sh_18
theorem mi_19 {h : pb_HP} (H : ma_H h) : pb_is h 19 12 := ma_is H.1 (by decide) sh_19
theorem mi_20 {h : pb_HP} (H : ma_H h) : pb_is h 20 12 := ma_is H.1 (by decide) sh_20
theorem mi_21 {h : pb_HP} (H : ma_H h) : pb_is h 21 12 := ma_is H.1 (by decide) sh_21
theorem mi_22 {h : pb_HP} (H : ma_H h) : pb_is h 22 12 := ma_is H.1 (by decide) sh_22
theorem mi_23 {h : pb_HP} (H : ma_H h) : pb_is h 23 4 := ma_is H.1 (by decide) sh_23
theorem mi_24 {h : pb_HP} (H : ma_H h) : pb_is h 24 12 := ma_is H.1 (by decide) sh_24
theorem mi_25 {h : pb_HP} (H : ma_H h) : pb_is h 25 12 := ma_is H.1 (by decide) sh_25
theorem mi_26 {h : pb_HP} (H : ma_H h) : pb_is h 26 12 := ma_is H.1 (by decide) sh_26
theorem mi_27 {h : pb_HP} (H : ma_H h) : pb_is h 27 12 := ma_is H.1 (by decide) sh_27
theorem mi_28 {h : pb_HP} (H : ma_H h) : pb_is h 28 16 := ma_is H.1 (by decide) sh_28
theorem mi_29 {h : pb_HP} (H : ma_H h) : pb_is h 29 4 := ma_is H.1 (by decide) sh_29
theorem mi_30 {h : pb_HP} (H : ma_H h) : pb_is h 30 12 := ma_is H.1 (by decide) sh_30
theorem mi_31 {h : pb_HP} (H : ma_H h) : pb_is h 31 12 := ma_is H.1 (by decide) sh_31
theorem mi_32 {h : pb_HP} (H : ma_H h) : pb_is h 32 12 := ma_is H.1 (by decide) sh_32
theorem mi_33 {h : pb_HP} (H : ma_H h) : pb_is h 33 12 := ma_is H.1 (by decide) sh_33
theorem mi_34 {h : pb_HP} (H : ma_H h) : pb_is h 34 4 := ma_is H.1 (by decide) sh_34
theorem mi_35 {h : pb_HP} (H : ma_H h) : pb_is h 35 12 := ma_is H.1 (by decide) sh_35
theorem mi_36 {h : pb_HP} (H : ma_H h) : pb_is h 36 12 := ma_is H.1 (by decide) sh_36
theorem mi_37 {h : pb_HP} (H : ma_H h) : pb_is h 37 12 := ma_is H.1 (by decide) sh_37
theorem mi_38 {h : pb_HP} (H : ma_H h) : pb_is h 38 12 := ma_is H.1 (by decide) sh_38
theorem mi_39 {h : pb_HP} (H : ma_H h) : pb_is h 39 12 := ma_is H.1 (by decide) sh_39
theorem mi_40 {h : pb_HP} (H : ma_H h) : pb_is h 40 13 := ma_is H.1 (by decide) sh_40
theorem mi_41 {h : pb_HP} (H : ma_H h) : pb_is h 41 17 := ma_is H.1 (by decide) sh_41
theorem mi_42 {h : pb_HP} (H : ma_H h) : pb_is h 42 7 := ma_is H.1 (by decide) sh_42
theorem mi_43 {h : pb_HP} (H : ma_H h) : pb_is h 43 15 := ma_is H.1 (by decide) sh_43
theorem mi_44 {h : pb_HP} (H : ma_H h) : pb_is h 44 0 := ma_is H.1 (by decide) sh_44
theorem mi_45 {h : pb_HP} (H : ma_H h) : pb_is h 45 12 := ma_is H.1 (by decide) sh_45
theorem mi_46 {h : pb_HP} (H : ma_H h) : pb_is h 46 12 := ma_is H.1 (by decide) sh_46
theorem mi_47 {h : pb_HP} (H : ma_H h) : pb_is h 47 12 := ma_is H.1 (by decide) sh_47
theorem mi_48 {h : pb_HP} (H : ma_H h) : pb_is h 48 12 := ma_is H.1 (by decide) sh_48
theorem mi_49 {h : pb_HP} (H : ma_H h) : pb_is h 49 12 := ma_is H.1 (by decide) sh_49
theorem mi_50 {h : pb_HP} (H : ma_H h) : pb_is h 50 12 := ma_is H.1 (by decide) sh_50
theorem mi_51 {h : pb_HP} (H : ma_H h) : pb_is h 51 0 := ma_is H.1 (by decide) sh_51
theorem mi_52 {h : pb_HP} (H : ma_H h) : pb_is h 52 12 := ma_is H.1 (by decide) sh_52
theorem mi_53 {h : pb_HP} (H : ma_H h) : pb_is h 53 12 := ma_is H.1 (by decide) sh_53
theorem mi_54 {h : pb_HP} (H : ma_H h) : pb_is h 54 12 := ma_is H.1 (by decide) sh_54
theorem mi_55 {h : pb_HP} (H : ma_H h) : pb_is h 55 12 := ma_is H.1 (by decide) sh_55
theorem mi_56 {h : pb_HP} (H : ma_H h) : pb_is h 56 12 := ma_is H.1 (by decide) sh_56
theorem mi_57 {h : pb_HP} (H : ma_H h) : pb_is h 57 12 := ma_is H.1 (by decide) sh_57
theorem mi_58 {h : pb_HP} (H : ma_H h) : pb_is h 58 16 := ma_is H.1 (by decide) sh_58
theorem mi_59 {h : pb_HP} (H : ma_H h) : pb_is h 59 4 := ma_is H.1 (by decide) sh_59
theorem mi_60 {h : pb_HP} (H : ma_H h) : pb_is h 60 12 := ma_is H.1 (by decide) sh_60
theorem mi_61 {h : pb_HP} (H : ma_H h) : pb_is h 61 12 := ma_is H.1 (by decide) sh_61
theorem mi_62 {h : pb_HP} (H : ma_H h) : pb_is h 62 12 := ma_is H.1 (by decide) sh_62
theorem mi_63 {h : pb_HP} (H : ma_H h) : pb_is h 63 12 := ma_is H.1 (by decide) sh_63
theorem mi_64 {h : pb_HP} (H : ma_H h) : pb_is h 64 4 := ma_is H.1 (by decide) sh_64
theorem mi_65 {h : pb_HP} (H : ma_H h) : pb_is h 65 12 := ma_is H.1 (by decide) sh_65
theorem mi_66 {h : pb_HP} (H : ma_H h) : pb_is h 66 12 := ma_is H.1 (by decide) sh_66
theorem mi_67 {h : pb_HP} (H : ma_H h) : pb_is h 67 12 := ma_is H.1 (by decide) sh_67
theorem mi_68 {h : pb_HP} (H : ma_H h) : pb_is h 68 12 := ma_is H.1 (by decide) sh_68
theorem mi_69 {h : pb_HP} (H : ma_H h) : pb_is h 69 16 := ma_is H.1 (by decide) sh_69
theorem mi_70 {h : pb_HP} (H : ma_H h) : pb_is h 70 4 := ma_is H.1 (by decide) sh_70
theorem mi_71 {h : pb_HP} (H : ma_H h) : pb_is h 71 12 := ma_is H.1 (by decide) sh_71
theorem mi_72 {h : pb_HP} (H : ma_H h) : pb_is h 72 12 := ma_is H.1 (by decide) sh_72
theorem mi_73 {h : pb_HP} (H : ma_H h) : pb_is h 73 12 := ma_is H.1 (by decide) sh_73
theorem mi_74 {h : pb_HP} (H : ma_H h) : pb_is h 74 12 := ma_is H.1 (by decide) sh_74
theorem mi_75 {h : pb_HP} (H : ma_H h) : pb_is h 75 4 := ma_is H.1 (by decide) sh_75
theorem mi_76 {h : pb_HP} (H : ma_H h) : pb_is h 76 12 := ma_is H.1 (by decide) sh_76
theorem mi_77 {h : pb_HP} (H : ma_H h) : pb_is h 77 12 := ma_is H.1 (by decide) sh_77
theorem mi_78 {h : pb_HP} (H : ma_H h) : pb_is h 78 12 := ma_is H.1 (by decide) sh_78
theorem mi_79 {h : pb_HP} (H : ma_H h) : pb_is h 79 12 := ma_is H.1 (by decide) sh_79
theorem mi_80 {h : pb_HP} (H : ma_H h) : pb_is h 80 12 := ma_is H.1 (by decide) sh_80
theorem mi_81 {h : pb_HP} (H : ma_H h) : pb_is h 81 13 := ma_is H.1 (by decide) sh_81
theorem mi_82 {h : pb_HP} (H : ma_H h) : pb_is h 82 7 := ma_is H.1 (by decide) sh_82
theorem mi_83 {h : pb_HP} (H : ma_H h) : pb_is h 83 15 := ma_is H.1 (by decide) sh_83
theorem mi_84 {h : pb_HP} (H : ma_H h) : pb_is h 84 0 := ma_is H.1 (by decide) sh_84
theorem mi_85 {h : pb_HP} (H : ma_H h) : pb_is h 85 12 := ma_is H.1 (by decide) sh_85
theorem mi_86 {h : pb_HP} (H : ma_H h) : pb_is h 86 12 := ma_is H.1 (by decide) sh_86
theorem mi_87 {h : pb_HP} (H : ma_H h) : pb_is h 87 12 := ma_is H.1 (by decide) sh_87
theorem mi_88 {h : pb_HP} (H : ma_H h) : pb_is h 88 12 := ma_is H.1 (by decide) sh_88
theorem mi_89 {h : pb_HP} (H : ma_H h) : pb_is h 89 12 := ma_is H.1 (by decide) sh_89
theorem mi_90 {h : pb_HP} (H : ma_H h) : pb_is h 90 12 := ma_is H.1 (by decide) sh_90
theorem mi_91 {h : pb_HP} (H : ma_H h) : pb_is h 91 0 := ma_is H.1 (by decide) sh_91
theorem mi_92 {h : pb_HP} (H : ma_H h) : pb_is h 92 12 := ma_is H.1 (by decide) sh_92
theorem mi_93 {h : pb_HP} (H : ma_H h) : pb_is h 93 12 := ma_is H.1 (by decide) sh_93
theorem mi_94 {h : pb_HP} (H : ma_H h) : pb_is h 94 12 := ma_is H.1 (by decide) sh_94
theorem mi_95 {h : pb_HP} (H : ma_H h) : pb_is h 95 12 := ma_is H.1 (by decide) sh_95
theorem mi_96 {h : pb_HP} (H : ma_H h) : pb_is h 96 12 := ma_is H.1 (by decide) sh_96
theorem mi_97 {h : pb_HP} (H : ma_H h) : pb_is h 97 12 := ma_is H.1 (by decide) sh_97
theorem mi_98 {h : pb_HP} (H : ma_H h) : pb_is h 98 16 := ma_is H.1 (by decide) sh_98
theorem mi_99 {h : pb_HP} (H : ma_H h) : pb_is h 99 4 := ma_is H.1 (by decide) sh_99
theorem mi_100 {h : pb_HP} (H : ma_H h) : pb_is h 100 12 := ma_is H.1 (by decide) sh_100
theorem mi_101 {h : pb_HP} (H : ma_H h) : pb_is h 101 12 := ma_is H.1 (by decide) sh_101
theorem mi_102 {h : pb_HP} (H : ma_H h) : pb_is h 102 12 := ma_is H.1 (by decide) sh_102
theorem mi_103 {h : pb_HP} (H : ma_H h) : pb_is h 103 12 := ma_is H.1 (by decide) sh_103
theorem mi_104 {h : pb_HP} (H : ma_H h) : pb_is h 104 4 := ma_is H.1 (by decide) sh_104
theorem mi_105 {h : pb_HP} (H : ma_H h) : pb_is h 105 12 := ma_is H.1 (by decide) sh_105
theorem mi_106 {h : pb_HP} (H : ma_H h) : pb_is h 106 12 := ma_is H.1 (by decide) sh_106
theorem mi_107 {h : pb_HP} (H : ma_H h) : pb_is h 107 12 := ma_is H.1 (by decide) sh_107
theorem mi_108 {h : pb_HP} (H : ma_H h) : pb_is h 108 12 := ma_is H.1 (by decide) sh_108
theorem mi_109 {h : pb_HP} (H : ma_H h) : pb_is h 109 16 := ma_is H.1 (by decide) sh_109
theorem mi_110 {h : pb_HP} (H : ma_H h) : pb_is h 110 4 := ma_is H.1 (by decide) sh_110
theorem mi_111 {h : pb_HP} (H : ma_H h) : pb_is h 111 12 := ma_is H.1 (by decide) sh_111
theorem mi_112 {h : pb_HP} (H : ma_H h) : pb_is h 112 12 := ma_is H.1 (by decide) sh_112
theorem mi_113 {h : pb_HP} (H : ma_H h) : pb_is h 113 12 := ma_is H.1 (by decide) sh_113
theorem mi_114 {h : pb_HP} (H : ma_H h) : pb_is h 114 12 := ma_is H.1 (by decide) sh_114
theorem mi_115 {h : pb_HP} (H : ma_H h) : pb_is h 115 4 := ma_is H.1 (by decide) sh_115
theorem mi_116 {h : pb_HP} (H : ma_H h) : pb_is h 116 12 := ma_is H.1 (by decide) sh_116
theorem mi_117 {h : pb_HP} (H : ma_H h) : pb_is h 117 12 := ma_is H.1 (by decide) sh_117
theorem mi_118 {h : pb_HP} (H : ma_H h) : pb_is h 118 12 := ma_is H.1 (by decide) sh_118
theorem mi_119 {h : pb_HP} (H : ma_H h) : pb_is h 119 12 := ma_is H.1 (by decide) sh_119
theorem mi_120 {h : pb_HP} (H : ma_H h) : pb_is h 120 12 := ma_is H.1 (by decide) sh_120
theorem mi_121 {h : pb_HP} (H : ma_H h) : pb_is h 121 13 := ma_is H.1 (by decide) sh_121
theorem mi_122 {h : pb_HP} (H : ma_H h) : pb_is h 122 7 := ma_is H.1 (by decide) sh_122
theorem mi_123 {h : pb_HP} (H : ma_H h) : pb_is h 123 15 := ma_is H.1 (by decide) sh_123
theorem mi_124 {h : pb_HP} (H : ma_H h) : pb_is h 124 0 := ma_is H.1 (by decide) sh_124
theorem mi_125 {h : pb_HP} (H : ma_H h) : pb_is h 125 12 := ma_is H.1 (by decide) sh_125
theorem mi_126 {h : pb_HP} (H : ma_H h) : pb_is h 126 12 := ma_is H.1 (by decide) sh_126
theorem mi_127 {h : pb_HP} (H : ma_H h) : pb_is h 127 12 := ma_is H.1 (by decide) sh_127
theorem mi_128 {h : pb_HP} (H : ma_H h) : pb_is h 128 12 := ma_is H.1 (by decide) sh_128
theorem mi_129 {h : pb_HP} (H : ma_H h) : pb_is h 129 12 := ma_is H.1 (by decide) sh_129
theorem mi_130 {h : pb_HP} (H : ma_H h) : pb_is h 130 12 := ma_is H.1 (by decide) sh_130
theorem mi_131 {h : pb_HP} (H : ma_H h) : pb_is h 131 0 := ma_is H.1 (by decide) sh_131
theorem mi_132 {h : pb_HP} (H : ma_H h) : pb_is h 132 12 := ma_is H.1 (by decide) sh_132
theorem mi_133 {h : pb_HP} (H : ma_H h) : pb_is h 133 12 := ma_is H.1 (by decide) sh_133
theorem mi_134 {h : pb_HP} (H : ma_H h) : pb_is h 134 12 := ma_is H.1 (by decide) sh_134
theorem mi_135 {h : pb_HP} (H : ma_H h) : pb_is h 135 12 := ma_is H.1 (by decide) sh_135
theorem mi_136 {h : pb_HP} (H : ma_H h) : pb_is h 136 12 := ma_is H.1 (by decide) sh_136
theorem mi_137 {h : pb_HP} (H : ma_H h) : pb_is h 137 12 := ma_is H.1 (by decide) sh_137
theorem mi_138 {h : pb_HP} (H : ma_H h) : pb_is h 138 16 := ma_is H.1 (by decide) sh_138
theorem mi_139 {h : pb_HP} (H : ma_H h) : pb_is h 139 4 := ma_is H.1 (by decide) sh_139
theorem mi_140 {h : pb_HP} (H : ma_H h) : pb_is h 140 12 := ma_is H.1 (by decide) sh_140
theorem mi_141 {h : pb_HP} (H : ma_H h) : pb_is h 141 12 := ma_is H.1 (by decide) sh_141
theorem mi_142 {h : pb_HP} (H : ma_H h) : pb_is h 142 12 := ma_is H.1 (by decide) sh_142
theorem mi_143 {h : pb_HP} (H : ma_H h) : pb_is h 143 12 := ma_is H.1 (by decide) sh_143
theorem mi_144 {h : pb_HP} (H : ma_H h) : pb_is h 144 4 := ma_is H.1 (by decide) sh_144
theorem mi_145 {h : pb_HP} (H : ma_H h) : pb_is h 145 12 := ma_is H.1 (by decide) sh_145
theorem mi_146 {h : pb_HP} (H : ma_H h) : pb_is h 146 12 := ma_is H.1 (by decide) sh_146
theorem mi_147 {h : pb_HP} (H : ma_H h) : pb_is h 147 12 := ma_is H.1 (by decide) sh_147
theorem mi_148 {h : pb_HP} (H : ma_H h) : pb_is h 148 12 := ma_is H.1 (by decide) sh_148
theorem mi_149 {h : pb_HP} (H : ma_H h) : pb_is h 149 16 := ma_is H.1 (by decide) sh_149
theorem mi_150 {h : pb_HP} (H : ma_H h) : pb_is h 150 4 := ma_is H.1 (by decide) sh_150
theorem mi_151 {h : pb_HP} (H : ma_H h) : pb_is h 151 12 := ma_is H.1 (by decide) sh_151
theorem mi_152 {h : pb_HP} (H : ma_H h) : pb_is h 152 12 := ma_is H.1 (by decide) sh_152
theorem mi_153 {h : pb_HP} (H : ma_H h) : pb_is h 153 12 := ma_is H.1 (by decide) sh_153
theorem mi_154 {h : pb_HP} (H : ma_H h) : pb_is h 154 12 := ma_is H.1 (by decide) sh_154
theorem mi_155 {h : pb_HP} (H : ma_H h) : pb_is h 155 4 := ma_is H.1 (by decide) sh_155
theorem mi_156 {h : pb_HP} (H : ma_H h) : pb_is h 156 12 := ma_is H.1 (by decide) sh_156
theorem mi_157 {h : pb_HP} (H : ma_H h) : pb_is h 157 12 := ma_is H.1 (by decide) sh_157
theorem mi_158 {h : pb_HP} (H : ma_H h) : pb_is h 158 12 := ma_is H.1 (by decide) sh_158
theorem mi_159 {h : pb_HP} (H : ma_H h) : pb_is h 159 12 := ma_is H.1 (by decide) sh_159
theorem mi_160 {h : pb_HP} (H : ma_H h) : pb_is h 160 12 := ma_is H.1 (by decide) sh_160
theorem mi_161 {h : pb_HP} (H : ma_H h) : pb_is h 161 13 := ma_is H.1 (by decide) sh_161
theorem mi_162 {h : pb_HP} (H : ma_H h) : pb_is h 162 14 := ma_is H.1 (by decide) sh_162
theorem mi_163 {h : pb_HP} (H : ma_H h) : pb_is h 163 6 := ma_is H.1 (by decide) sh_163
theorem mi_164 {h : pb_HP} (H : ma_H h) : pb_is h 164 0 := ma_is H.1 (by decide) sh_164
theorem mi_165 {h : pb_HP} (H : ma_H h) : pb_is h 165 12 := ma_is H.1 (by decide) sh_165
theorem mi_166 {h : pb_HP} (H : ma_H h) : pb_is h 166 12 := ma_is H.1 (by decide) sh_166
theorem mi_167 {h : pb_HP} (H : ma_H h) : pb_is h 167 12 := ma_is H.1 (by decide) sh_167
theorem mi_168 {h : pb_HP} (H : ma_H h) : pb_is h 168 12 := ma_is H.1 (by decide) sh_168
theorem mi_169 {h : pb_HP} (H : ma_H h) : pb_is h 169 12 := ma_is H.1 (by decide) sh_169
theorem mi_170 {h : pb_HP} (H : ma_H h) : pb_is h 170 12 := ma_is H.1 (by decide) sh_170
theorem mi_171 {h : pb_HP} (H : ma_H h) : pb_is h 171 4 := ma_is H.1 (by decide) sh_171
theorem mi_172 {h : pb_HP} (H : ma_H h) : pb_is h 172 12 := ma_is H.1 (by decide) sh_172
theorem mi_173 {h : pb_HP} (H : ma_H h) : pb_is h 173 12 := ma_is H.1 (by decide) sh_173
theorem mi_174 {h : pb_HP} (H : ma_H h) : pb_is h 174 12 := ma_is H.1 (by decide) sh_174
theorem mi_175 {h : pb_HP} (H : ma_H h) : pb_is h 175 12 := ma_is H.1 (by decide) sh_175
theorem mi_176 {h : pb_HP} (H : ma_H h) : pb_is h 176 4 := ma_is H.1 (by decide) sh_176
theorem mi_177 {h : pb_HP} (H : ma_H h) : pb_is h 177 12 := ma_is H.1 (by decide) sh_177
theorem mi_178 {h : pb_HP} (H : ma_H h) : pb_is h 178 12 := ma_is H.1 (by decide) sh_178
theorem mi_179 {h : pb_HP} (H : ma_H h) : pb_is h 179 12 := ma_is H.1 (by decide) sh_179
theorem mi_180 {h : pb_HP} (H : ma_H h) : pb_is h 180 12 := ma_is H.1 (by decide) sh_180
theorem mi_181 {h : pb_HP} (H : ma_H h) : pb_is h 181 12 := ma_is H.1 (by decide) sh_181
theorem mi_182 {h : pb_HP} (H : ma_H h) : pb_is h 182 5 := ma_is H.1 (by decide) sh_182
theorem mi_183 {h : pb_HP} (H : ma_H h) : pb_is h 183 12 := ma_is H.1 (by decide) sh_183
theorem mi_184 {h : pb_HP} (H : ma_H h) : pb_is h 184 8 := ma_is H.1 (by decide) sh_184
theorem mi_185 {h : pb_HP} (H : ma_H h) : pb_is h 185 0 := ma_is H.1 (by decide) sh_185
theorem mi_186 {h : pb_HP} (H : ma_H h) : pb_is h 186 12 := ma_is H.1 (by decide) sh_186
theorem mi_187 {h : pb_HP} (H : ma_H h) : pb_is h 187 12 := ma_is H.1 (by decide) sh_187
theorem mi_188 {h : pb_HP} (H : ma_H h) : pb_is h 188 12 := ma_is H.1 (by decide) sh_188
theorem mi_189 {h : pb_HP} (H : ma_H h) : pb_is h 189 12 := ma_is H.1 (by decide) sh_189
theorem mi_190 {h : pb_HP} (H : ma_H h) : pb_is h 190 12 := ma_is H.1 (by decide) sh_190
theorem mi_191 {h : pb_HP} (H : ma_H h) : pb_is h 191 12 := ma_is H.1 (by decide) sh_191
theorem mi_192 {h : pb_HP} (H : ma_H h) : pb_is h 192 5 := ma_is H.1 (by decide) sh_192
theorem mi_193 {h : pb_HP} (H : ma_H h) : pb_is h 193 12 := ma_is H.1 (by decide) sh_193
theorem mi_194 {h : pb_HP} (H : ma_H h) : pb_is h 194 2 := ma_is H.1 (by decide) sh_194
theorem mi_195 {h : pb_HP} (H : ma_H h) : pb_is h 195 12 := ma_is H.1 (by decide) sh_195
theorem mi_196 {h : pb_HP} (H : ma_H h) : pb_is h 196 12 := ma_is H.1 (by decide) sh_196
theorem mi_197 {h : pb_HP} (H : ma_H h) : pb_is h 197 12 := ma_is H.1 (by decide) sh_197
theorem mi_198 {h : pb_HP} (H : ma_H h) : pb_is h 198 9 := ma_is H.1 (by decide) sh_198
theorem mi_199 {h : pb_HP} (H : ma_H h) : pb_is h 199 12 := ma_is H.1 (by decide) sh_199
theorem mi_200 {h : pb_HP} (H : ma_H h) : pb_is h 200 1 := ma_is H.1 (by decide) sh_200
theorem mi_201 {h : pb_HP} (H : ma_H h) : pb_is h 201 0 := ma_is H.1 (by decide) sh_201
theorem mi_202 {h : pb_HP} (H : ma_H h) : pb_is h 202 12 := ma_is H.1 (by decide) sh_202
theorem mi_203 {h : pb_HP} (H : ma_H h) : pb_is h 203 12 := ma_is H.1 (by decide) sh_203
theorem mi_204 {h : pb_HP} (H : ma_H h) : pb_is h 204 12 := ma_is H.1 (by decide) sh_204
theorem mi_205 {h : pb_HP} (H : ma_H h) : pb_is h 205 12 := ma_is H.1 (by decide) sh_205
theorem mi_206 {h : pb_HP} (H : ma_H h) : pb_is h 206 12 := ma_is H.1 (by decide) sh_206
theorem mi_207 {h : pb_HP} (H : ma_H h) : pb_is h 207 12 := ma_is H.1 (by decide) sh_207
theorem mi_208 {h : pb_HP} (H : ma_H h) : pb_is h 208 5 := ma_is H.1 (by decide) sh_208
theorem mi_209 {h : pb_HP} (H : ma_H h) : pb_is h 209 12 := ma_is H.1 (by decide) sh_209
theorem mi_210 {h : pb_HP} (H : ma_H h) : pb_is h 210 12 := ma_is H.1 (by decide) sh_210
theorem mi_211 {h : pb_HP} (H : ma_H h) : pb_is h 211 12 := ma_is H.1 (by decide) sh_211
theorem mi_212 {h : pb_HP} (H : ma_H h) : pb_is h 212 3 := ma_is H.1 (by decide) sh_212
theorem mi_213 {h : pb_HP} (H : ma_H h) : pb_is h 213 12 := ma_is H.1 (by decide) sh_213
theorem mi_214 {h : pb_HP} (H : ma_H h) : pb_is h 214 12 := ma_is H.1 (by decide) sh_214
theorem mi_215 {h : pb_HP} (H : ma_H h) : pb_is h 215 12 := ma_is H.1 (by decide) sh_215
theorem mi_216 {h : pb_HP} (H : ma_H h) : pb_is h 216 12 := ma_is H.1 (by decide) sh_216
theorem mi_217 {h : pb_HP} (H : ma_H h) : pb_is h 217 11 := ma_is H.1 (by decide) sh_217
theorem mi_218 {h : pb_HP} (H : ma_H h) : pb_is h 218 13 := ma_is H.1 (by decide) sh_218
theorem mi_219 {h : pb_HP} (H : ma_H h) : pb_is h 219 12 := ma_is H.1 (by decide) sh_219
theorem mi_220 {h : pb_HP} (H : ma_H h) : pb_is h 220 12 := ma_is H.1 (by decide) sh_220
theorem mi_221 {h : pb_HP} (H : ma_H h) : pb_is h 221 12 := ma_is H.1 (by decide) sh_221
theorem mi_222 {h : pb_HP} (H : ma_H h) : pb_is h 222 12 := ma_is H.1 (by decide) sh_222
theorem mi_223 {h : pb_HP} (H : ma_H h) : pb_is h 223 12 := ma_is H.1 (by decide) sh_223
theorem mi_224 {h : pb_HP} (H : ma_H h) : pb_is h 224 12 := ma_is H.1 (by decide) sh_224
theorem mi_225 {h : pb_HP} (H : ma_H h) : pb_is h 225 12 := ma_is H.1 (by decide) sh_225
theorem mi_226 {h : pb_HP} (H : ma_H h) : pb_is h 226 12 := ma_is H.1 (by decide) sh_226
theorem mi_227 {h : pb_HP} (H : ma_H h) : pb_is h 227 12 := ma_is H.1 (by decide) sh_227
theorem mi_228 {h : pb_HP} (H : ma_H h) : pb_is h 228 12 := ma_is H.1 (by decide) sh_228
theorem mi_229 {h : pb_HP} (H : ma_H h) : pb_is h 229 12 := ma_is H.1 (by decide) sh_229
theorem mi_230 {h : pb_HP} (H : ma_H h) : pb_is h 230 12 := ma_is H.1 (by decide) sh_230
theorem mi_231 {h : pb_HP} (H : ma_H h) : pb_is h 231 12 := ma_is H.1 (by decide) sh_231
theorem mi_232 {h : pb_HP} (H : ma_H h) : pb_is h 232 12 := ma_is H.1 (by decide) sh_232
theorem mi_233 {h : pb_HP} (H : ma_H h) : pb_is h 233 12 := ma_is H.1 (by decide) sh_233
theorem mi_234 {h : pb_HP} (H : ma_H h) : pb_is h 234 12 := ma_is H.1 (by decide) sh_234
theorem mi_235 {h : pb_HP} (H : ma_H h) : pb_is h 235 12 := ma_is H.1 (by decide) sh_235
theorem mi_236 {h : pb_HP} (H : ma_H h) : pb_is h 236 12 := ma_is H.1 (by decide) sh_236
theorem mi_237 {h : pb_HP} (H : ma_H h) : pb_is h 237 12 := ma_is H.1 (by decide) sh_237
theorem mi_238 {h : pb_HP} (H : ma_H h) : pb_is h 238 12 := ma_is H.1 (by decide) sh_238
theorem mi_239 {h : pb_HP} (H : ma_H h) : pb_is h 239 12 := ma_is H.1 (by decide) sh_239
theorem mi_240 {h : pb_HP} (H : ma_H h) : pb_is h 240 14 := ma_is H.1 (by decide) sh_240
theorem mx_2 {h : pb_HP} (H : ma_H h) {j : Nat} (hj : j < 2) : pb_ar h 2 15 (nI j) := ma_ar H.1 (by decide) sh_2 hj (by decide)
theorem mx_4 {h : pb_HP} (H : ma_H h) {j : Nat} (hj : j < 6) : pb_ar h 4 12 (nI j) := ma_ar H.1 (by decide) sh_4 hj (by decide)
theorem mx_5 {h : pb_HP} (H : ma_H h) {j : Nat} (hj : j < 6) : pb_ar h 5 12 (nI j) := ma_ar H.1 (by decide) sh_5 hj (by decide)
theorem mx_6 {h : pb_HP} (H : ma_H h) {j : Nat} (hj : j < 6) : pb_ar h 6 12 (nI j) := ma_ar H.1 (by decide) sh_6 hj (by decide)
theorem mx_7 {h : pb_HP} (H : ma_H h) {j : Nat} (hj : j < 6) : pb_ar h 7 12 (nI j) := ma_ar H.1 (by decide) sh_7 hj (by decide)
theorem mx_8 {h : pb_HP} (H : ma_H h) {j : Nat} (hj : j < 6) : pb_ar h 8 12 (nI j) := ma_ar H.1 (by decide) sh_8 hj (by decide)
theorem mx_9 {h : pb_HP} (H : ma_H h) {j : Nat} (hj : j < 36) : pb_ar h 9 12 (nI j) := ma_ar H.1 (by decide) sh_9 hj (by decide)
theorem mx_11 {h : pb_HP} (H : ma_H h) {j : Nat} (hj : j < 6) : pb_ar h 11 12 (nI j) := ma_ar H.1 (by decide) sh_11 hj (by decide)
theorem mx_12 {h : pb_HP} (H : ma_H h) {j : Nat} (hj : j < 6) : pb_ar h 12 12 (nI j) := ma_ar H.1 (by decide) sh_12 hj (by decide)
theorem mx_13 {h : pb_HP} (H : ma_H h) {j : Nat} (hj : j < 6) : pb_ar h 13 12 (nI j) := ma_ar H.1 (by decide) sh_13 hj (by decide)
theorem mx_14 {h : pb_HP} (H : ma_H h) {j : Nat} (hj : j < 6) : pb_ar h 14 12 (nI j) := ma_ar H.1 (by decide) sh_14 hj (by decide)
theorem mx_15 {h : pb_HP} (H : ma_H h) {j : Nat} (hj : j < 6) : pb_ar h 15 12 (nI j) := ma_ar H.1 (by decide) sh_15 hj (by decide)
theorem mx_16 {h : pb_HP} (H : ma_H h) {j : Nat} (hj : j < 36) : pb_ar h 16 12 (nI j) := ma_ar H.1 (by decide) sh_16 hj (by decide)
theorem mx_17 {h : pb_HP} (H : ma_H h) {j : Nat} (hj : j < 2) : pb_ar h 17 16 (nI j) := ma_ar H.1 (by decide) sh_17 hj (by decide)
theorem mx_19 {h : pb_HP} (H : ma_H h) {j : Nat} (hj : j < 40) : pb_ar h 19 12 (nI j) := ma_ar H.1 (by decide) sh_19 hj (by decide)
theorem mx_20 {h : pb_HP} (H : ma_H h) {j : Nat} (hj : j < 40) : pb_ar h 20 12 (nI j) := ma_ar H.1 (by decide) sh_20 hj (by decide)
theorem mx_21 {h : pb_HP} (H : ma_H h) {j : Nat} (hj : j < 40) : pb_ar h 21 12 (nI j) := ma_ar H.1 (by decide) sh_21 hj (by decide)
theorem mx_22 {h : pb_HP} (H : ma_H h) {j : Nat} (hj : j < 40) : pb_ar h 22 12 (nI j) := ma_ar H.1 (by decide) sh_22 hj (by decide)
theorem mx_24 {h : pb_HP} (H : ma_H h) {j : Nat} (hj : j < 40) : pb_ar h 24 12 (nI j) := ma_ar H.1 (by decide) sh_24 hj (by decide)
theorem mx_25 {h : pb_HP} (H : ma_H h) {j : Nat} (hj : j < 40) : pb_ar h 25 12 (nI j) := ma_ar H.1 (by decide) sh_25 hj (by decide)
theorem mx_26 {h : pb_HP} (H : ma_H h) {j : Nat} (hj : j < 40) : pb_ar h 26 12 (nI j) := ma_ar H.1 (by decide) sh_26 hj (by decide)
theorem mx_27 {h : pb_HP} (H : ma_H h) {j : Nat} (hj : j < 40) : pb_ar h 27 12 (nI j) := ma_ar H.1 (by decide) sh_27 hj (by decide)
theorem mx_28 {h : pb_HP} (H : ma_H h) {j : Nat} (hj : j < 2) : pb_ar h 28 16 (nI j) := ma_ar H.1 (by decide) sh_28 hj (by decide)
theorem mx_30 {h : pb_HP} (H : ma_H h) {j : Nat} (hj : j < 8) : pb_ar h 30 12 (nI j) := ma_ar H.1 (by decide) sh_30 hj (by decide)
theorem mx_31 {h : pb_HP} (H : ma_H h) {j : Nat} (hj : j < 8) : pb_ar h 31 12 (nI j) := ma_ar H.1 (by decide) sh_31 hj (by decide)
theorem mx_32 {h : pb_HP} (H : ma_H h) {j : Nat} (hj : j < 8) : pb_ar h 32 12 (nI j) := ma_ar H.1 (by decide) sh_32 hj (by decide)
theorem mx_33 {h : pb_HP} (H : ma_H h) {j : Nat} (hj : j < 8) : pb_ar h 33 12 (nI j) := ma_ar H.1 (by decide) sh_33 hj (by decide)
theorem mx_35 {h : pb_HP} (H : ma_H h) {j : Nat} (hj : j < 8) : pb_ar h 35 12 (nI j) := ma_ar H.1 (by decide) sh_35 hj (by decide)
theorem mx_36 {h : pb_HP} (H : ma_H h) {j : Nat} (hj : j < 8) : pb_ar h 36 12 (nI j) := ma_ar H.1 (by decide) sh_36 hj (by decide)
theorem mx_37 {h : pb_HP} (H : ma_H h) {j : Nat} (hj : j < 8) : pb_ar h 37 12 (nI j) := ma_ar H.1 (by decide) sh_37 hj (by decide)
theorem mx_38 {h : pb_HP} (H : ma_H h) {j : Nat} (hj : j < 8) : pb_ar h 38 12 (nI j) := ma_ar H.1 (by decide) sh_38 hj (by decide)
theorem mx_39 {h : pb_HP} (H : ma_H h) {j : Nat} (hj : j < 3) : pb_ar h 39 12 (nI j) := ma_ar H.1 (by decide) sh_39 hj (by decide)
theorem mx_40 {h : pb_HP} (H : ma_H h) {j : Nat} (hj : j < 600) : pb_ar h 40 13 (nI j) := ma_ar H.1 (by decide) sh_40 hj (by decide)
theorem mx_41 {h : pb_HP} (H : ma_H h) {j : Nat} (hj : j < 3) : pb_ar h 41 17 (nI j) := ma_ar H.1 (by decide) sh_41 hj (by decide)
theorem mx_43 {h : pb_HP} (H : ma_H h) {j : Nat} (hj : j < 2) : pb_ar h 43 15 (nI j) := ma_ar H.1 (by decide) sh_43 hj (by decide)
theorem mx_45 {h : pb_HP} (H : ma_H h) {j : Nat} (hj : j < 6) : pb_ar h 45 12 (nI j) := ma_ar H.1 (by decide) sh_45 hj (by decide)
theorem mx_46 {h : pb_HP} (H : ma_H h) {j : Nat} (hj : j < 6) : pb_ar h 46 12 (nI j) := ma_ar H.1 (by decide) sh_46 hj (by decide)
theorem mx_47 {h : pb_HP} (H : ma_H h) {j : Nat} (hj : j < 6) : pb_ar h 47 12 (nI j) := ma_ar H.1 (by decide) sh_47 hj (by decide)
theorem mx_48 {h : pb_HP} (H : ma_H h) {j : Nat} (hj : j < 6) : pb_ar h 48 12 (nI j) := ma_ar H.1 (by decide) sh_48 hj (by decide)
theorem mx_49 {h : pb_HP} (H : ma_H h) {j : Nat} (hj : j < 6) : pb_ar h 49 12 (nI j) := ma_ar H.1 (by decide) sh_49 hj (by decide)
theorem mx_50 {h : pb_HP} (H : ma_H h) {j : Nat} (hj : j < 36) : pb_ar h 50 12 (nI j) := ma_ar H.1 (by decide) sh_50 hj (by decide)
theorem mx_52 {h : pb_HP} (H : ma_H h) {j : Nat} (hj : j < 6) : pb_ar h 52 12 (nI j) := ma_ar H.1 (by decide) sh_52 hj (by decide)
theorem mx_53 {h : pb_HP} (H : ma_H h) {j : Nat} (hj : j < 6) : pb_ar h 53 12 (nI j) := ma_ar H.1 (by decide) sh_53 hj (by decide)
theorem mx_54 {h : pb_HP} (H : ma_H h) {j : Nat} (hj : j < 6) : pb_ar h 54 12 (nI j) := ma_ar H.1 (by decide) sh_54 hj (by decide)
theorem mx_55 {h : pb_HP} (H : ma_H h) {j : Nat} (hj : j < 6) : pb_ar h 55 12 (nI j) := ma_ar H.1 (by decide) sh_55 hj (by decide)
theorem mx_56 {h : pb_HP} (H : ma_H h) {j : Nat} (hj : j < 6) : pb_ar h 56 12 (nI j) := ma_ar H.1 (by decide) sh_56 hj (by decide)
theorem mx_57 {h : pb_HP} (H : ma_H h) {j : Nat} (hj : j < 36) : pb_ar h 57 12 (nI j) := ma_ar H.1 (by decide) sh_57 hj (by decide)
theorem mx_58 {h : pb_HP} (H : ma_H h) {j : Nat} (hj : j < 2) : pb_ar h 58 16 (nI j) := ma_ar H.1 (by decide) sh_58 hj (by decide)
theorem mx_60 {h : pb_HP} (H : ma_H h) {j : Nat} (hj : j < 40) : pb_ar h 60 12 (nI j) := ma_ar H.1 (by decide) sh_60 hj (by decide)
theorem mx_61 {h : pb_HP} (H : ma_H h) {j : Nat} (hj : j < 40) : pb_ar h 61 12 (nI j) := ma_ar H.1 (by decide) sh_61 hj (by decide)
theorem mx_62 {h : pb_HP} (H : ma_H h) {j : Nat} (hj : j < 40) : pb_ar h 62 12 (nI j) := ma_ar H.1 (by decide) sh_62 hj (by decide)
theorem mx_63 {h : pb_HP} (H : ma_H h) {j : Nat} (hj : j < 40) : pb_ar h 63 12 (nI j) := ma_ar H.1 (by decide) sh_63 hj (by decide)
theorem mx_65 {h : pb_HP} (H : ma_H h) {j : Nat} (hj : j < 40) : pb_ar h 65 12 (nI j) := ma_ar H.1 (by decide) sh_65 hj (by decide)
theorem mx_66 {h : pb_HP} (H : ma_H h) {j : Nat} (hj : j < 40) : pb_ar h 66 12 (nI j) := ma_ar H.1 (by decide) sh_66 hj (by decide)
theorem mx_67 {h : pb_HP} (H : ma_H h) {j : Nat} (hj : j < 40) : pb_ar h 67 12 (nI j) := ma_ar H.1 (by decide) sh_67 hj (by decide)
theorem mx_68 {h : pb_HP} (H : ma_H h) {j : Nat} (hj : j < 40) : pb_ar h 68 12 (nI j) := ma_ar H.1 (by decide) sh_68 hj (by decide)
theorem mx_69 {h : pb_HP} (H : ma_H h) {j : Nat} (hj : j < 2) : pb_ar h 69 16 (nI j) := ma_ar H.1 (by decide) sh_69 hj (by decide)
theorem mx_71 {h : pb_HP} (H : ma_H h) {j : Nat} (hj : j < 8) : pb_ar h 71 12 (nI j) := ma_ar H.1 (by decide) sh_71 hj (by decide)
theorem mx_72 {h : pb_HP} (H : ma_H h) {j : Nat} (hj : j < 8) : pb_ar h 72 12 (nI j) := ma_ar H.1 (by decide) sh_72 hj (by decide)
theorem mx_73 {h : pb_HP} (H : ma_H h) {j : Nat} (hj : j < 8) : pb_ar h 73 12 (nI j) := ma_ar H.1 (by decide) sh_73 hj (by decide)
theorem mx_74 {h : pb_HP} (H : ma_H h) {j : Nat} (hj : j < 8) : pb_ar h 74 12 (nI j) := ma_ar H.1 (by decide) sh_74 hj (by decide)
theorem mx_76 {h : pb_HP} (H : ma_H h) {j : Nat} (hj : j < 8) : pb_ar h 76 12 (nI j) := ma_ar H.1 (by decide) sh_76 hj (by decide)
theorem mx_77 {h : pb_HP} (H : ma_H h) {j : Nat} (hj : j < 8) : pb_ar h 77 12 (nI j) := ma_ar H.1 (by decide) sh_77 hj (by decide)
theorem mx_78 {h : pb_HP} (H : ma_H h) {j : Nat} (hj : j < 8) : pb_ar h 78 12 (nI j) := ma_ar H.1 (by decide) sh_78 hj (by decide)
theorem mx_79 {h : pb_HP} (H : ma_H h) {j : Nat} (hj : j < 8) : pb_ar h 79 12 (nI j) := ma_ar H.1 (by decide) sh_79 hj (by decide)
theorem mx_80 {h : pb_HP} (H : ma_H h) {j : Nat} (hj : j < 3) : pb_ar h 80 12 (nI j) := ma_ar H.1 (by decide) sh_80 hj (by decide)
theorem mx_81 {h : pb_HP} (H : ma_H h) {j : Nat} (hj : j < 600) : pb_ar h 81 13 (nI j) := ma_ar H.1 (by decide) sh_81 hj (by decide)
theorem mx_83 {h : pb_HP} (H : ma_H h) {j : Nat} (hj : j < 2) : pb_ar h 83 15 (nI j) := ma_ar H.1 (by decide) sh_83 hj (by decide)
theorem mx_85 {h : pb_HP} (H : ma_H h) {j : Nat} (hj : j < 6) : pb_ar h 85 12 (nI j) := ma_ar H.1 (by decide) sh_85 hj (by decide)
theorem mx_86 {h : pb_HP} (H : ma_H h) {j : Nat} (hj : j < 6) : pb_ar h 86 12 (nI j) := ma_ar H.1 (by decide) sh_86 hj (by decide)
theorem mx_87 {h : pb_HP} (H : ma_H h) {j : Nat} (hj : j < 6) : pb_ar h 87 12 (nI j) := ma_ar H.1 (by decide) sh_87 hj (by decide)
theorem mx_88 {h : pb_HP} (H : ma_H h) {j : Nat} (hj : j < 6) : pb_ar h 88 12 (nI j) := ma_ar H.1 (by decide) sh_88 hj (by decide)
theorem mx_89 {h : pb_HP} (H : ma_H h) {j : Nat} (hj : j < 6) : pb_ar h 89 12 (nI j) := ma_ar H.1 (by decide) sh_89 hj (by decide)
theorem mx_90 {h : pb_HP} (H : ma_H h) {j : Nat} (hj : j < 36) : pb_ar h 90 12 (nI j) := ma_ar H.1 (by decide) sh_90 hj (by decide)
theorem mx_92 {h : pb_HP} (H : ma_H h) {j : Nat} (hj : j < 6) : pb_ar h 92 12 (nI j) := ma_ar H.1 (by decide) sh_92 hj (by decide)
theorem mx_93 {h : pb_HP} (H : ma_H h) {j : Nat} (hj : j < 6) : pb_ar h 93 12 (nI j) := ma_ar H.1 (by decide) sh_93 hj (by decide)
theorem mx_94 {h : pb_HP} (H : ma_H h) {j : Nat} (hj : j < 6) : pb_ar h 94 12 (nI j) := ma_ar H.1 (by decide) sh_94 hj (by decide)
theorem mx_95 {h : pb_HP} (H : ma_H h) {j : Nat} (hj : j < 6) : pb_ar h 95 12 (nI j) := ma_ar H.1 (by decide) sh_95 hj (by decide)
theorem mx_96 {h : pb_HP} (H : ma_H h) {j : Nat} (hj : j < 6) : pb_ar h 96 12 (nI j) := ma_ar H.1 (by decide) sh_96 hj (by decide)
theorem mx_97 {h : pb_HP} (H : ma_H h) {j : Nat} (hj : j < 36) : pb_ar h 97 12 (nI j) := ma_ar H.1 (by decide) sh_97 hj (by decide)
theorem mx_98 {h : pb_HP} (H : ma_H h) {j : Nat} (hj : j < 2) : pb_ar h 98 16 (nI j) := ma_ar H.1 (by decide) sh_98 hj (by decide)
theorem mx_100 {h : pb_HP} (H : ma_H h) {j : Nat} (hj : j < 40) : pb_ar h 100 12 (nI j) := ma_ar H.1 (by decide) sh_100 hj (by decide)
theorem mx_101 {h : pb_HP} (H : ma_H h) {j : Nat} (hj : j < 40) : pb_ar h 101 12 (nI j) := ma_ar H.1 (by decide) sh_101 hj (by decide)
theorem mx_102 {h : pb_HP} (H : ma_H h) {j : Nat} (hj : j < 40) : pb_ar h 102 12 (nI j) := ma_ar H.1 (by decide) sh_102 hj (by decide)
theorem mx_103 {h : pb_HP} (H : ma_H h) {j : Nat} (hj : j < 40) : pb_ar h 103 12 (nI j) := ma_ar H.1 (by decide) sh_103 hj (by decide)
theorem mx_105 {h : pb_HP} (H : ma_H h) {j : Nat} (hj : j < 40) : pb_ar h 105 12 (nI j) := ma_ar H.1 (by decide) sh_105 hj (by decide)
theorem mx_106 {h : pb_HP} (H : ma_H h) {j : Nat} (hj : j < 40) : pb_ar h 106 12 (nI j) := ma_ar H.1 (by decide) sh_106 hj (by decide)
theorem mx_107 {h : pb_HP} (H : ma_H h) {j : Nat} (hj : j < 40) : pb_ar h 107 12 (nI j) := ma_ar H.1 (by decide) sh_107 hj (by decide)
theorem mx_108 {h : pb_HP} (H : ma_H h) {j : Nat} (hj : j < 40) : pb_ar h 108 12 (nI j) := ma_ar H.1 (by decide) sh_108 hj (by decide)
theorem mx_109 {h : pb_HP} (H : ma_H h) {j : Nat} (hj : j < 2) : pb_ar h 109 16 (nI j) := ma_ar H.1 (by decide) sh_109 hj (by decide)
theorem mx_111 {h : pb_HP} (H : ma_H h) {j : Nat} (hj : j < 8) : pb_ar h 111 12 (nI j) := ma_ar H.1 (by decide) sh_111 hj (by decide)
theorem mx_112 {h : pb_HP} (H : ma_H h) {j : Nat} (hj : j < 8) : pb_ar h 112 12 (nI j) := ma_ar H.1 (by decide) sh_112 hj (by decide)
theorem mx_113 {h : pb_HP} (H : ma_H h) {j : Nat} (hj : j < 8) : pb_ar h 113 12 (nI j) := ma_ar H.1 (by decide) sh_113 hj (by decide)
theorem mx_114 {h : pb_HP} (H : ma_H h) {j : Nat} (hj : j < 8) : pb_ar h 114 12 (nI j) := ma_ar H.1 (by decide) sh_114 hj (by decide)
theorem mx_116 {h : pb_HP} (H : ma_H h) {j : Nat} (hj : j < 8) : pb_ar h 116 12 (nI j) := ma_ar H.1 (by decide) sh_116 hj (by decide)
theorem mx_117 {h : pb_HP} (H : ma_H h) {j : Nat} (hj : j < 8) : pb_ar h 117 12 (nI j) := ma_ar H.1 (by decide) sh_117 hj (by decide)
theorem mx_118 {h : pb_HP} (H : ma_H h) {j : Nat} (hj : j < 8) : pb_ar h 118 12 (nI j) := ma_ar H.1 (by decide) sh_118 hj (by decide)
theorem mx_119 {h : pb_HP} (H : ma_H h) {j : Nat} (hj : j < 8) : pb_ar h 119 12 (nI j) := ma_ar H.1 (by decide) sh_119 hj (by decide)
theorem mx_120 {h : pb_HP} (H : ma_H h) {j : Nat} (hj : j < 3) : pb_ar h 120 12 (nI j) := ma_ar H.1 (by decide) sh_120 hj (by decide)
theorem mx_121 {h : pb_HP} (H : ma_H h) {j : Nat} (hj : j < 600) : pb_ar h 121 13 (nI j) := ma_ar H.1 (by decide) sh_121 hj (by decide)
theorem mx_123 {h : pb_HP} (H : ma_H h) {j : Nat} (hj : j < 2) : pb_ar h 123 15 (nI j) := ma_ar H.1 (by decide) sh_123 hj (by decide)
theorem mx_125 {h : pb_HP} (H : ma_H h) {j : Nat} (hj : j < 6) : pb_ar h 125 12 (nI j) := ma_ar H.1 (by decide) sh_125 hj (by decide)
theorem mx_126 {h : pb_HP} (H : ma_H h) {j : Nat} (hj : j < 6) : pb_ar h 126 12 (nI j) := ma_ar H.1 (by decide) sh_126 hj (by decide)
theorem mx_127 {h : pb_HP} (H : ma_H h) {j : Nat} (hj : j < 6) : pb_ar h 127 12 (nI j) := ma_ar H.1 (by decide) sh_127 hj (by decide)
theorem mx_128 {h : pb_HP} (H : ma_H h) {j : Nat} (hj : j < 6) : pb_ar h 128 12 (nI j) := ma_ar H.1 (by decide) sh_128 hj (by decide)
theorem mx_129 {h : pb_HP} (H : ma_H h) {j : Nat} (hj : j < 6) : pb_ar h 129 12 (nI j) := ma_ar H.1 (by decide) sh_129 hj (by decide)
theorem mx_130 {h : pb_HP} (H : ma_H h) {j : Nat} (hj : j < 36) : pb_ar h 130 12 (nI j) := ma_ar H.1 (by decide) sh_130 hj (by decide)
theorem mx_132 {h : pb_HP} (H : ma_H h) {j : Nat} (hj : j < 6) : pb_ar h 132 12 (nI j) := ma_ar H.1 (by decide) sh_132 hj (by decide)
theorem mx_133 {h : pb_HP} (H : ma_H h) {j : Nat} (hj : j < 6) : pb_ar h 133 12 (nI j) := ma_ar H.1 (by decide) sh_133 hj (by decide)
theorem mx_134 {h : pb_HP} (H : ma_H h) {j : Nat} (hj : j < 6) : pb_ar h 134 12 (nI j) := ma_ar H.1 (by decide) sh_134 hj (by decide)
theorem mx_135 {h : pb_HP} (H : ma_H h) {j : Nat} (hj : j < 6) : pb_ar h 135 12 (nI j) := ma_ar H.1 (by decide) sh_135 hj (by decide)
theorem mx_136 {h : pb_HP} (H : ma_H h) {j : Nat} (hj : j < 6) : pb_ar h 136 12 (nI j) := ma_ar H.1 (by decide) sh_136 hj (by decide)
theorem mx_137 {h : pb_HP} (H : ma_H h) {j : Nat} (hj : j < 36) : pb_ar h 137 12 (nI j) := ma_ar H.1 (by decide) sh_137 hj (by decide)
theorem mx_138 {h : pb_HP} (H : ma_H h) {j : Nat} (hj : j < 2) : pb_ar h 138 16 (nI j) := ma_ar H.1 (by decide) sh_138 hj (by decide)
theorem mx_140 {h : pb_HP} (H : ma_H h) {j : Nat} (hj : j < 40) : pb_ar h 140 12 (nI j) := ma_ar H.1 (by decide) sh_140 hj (by decide)
theorem mx_141 {h : pb_HP} (H : ma_H h) {j : Nat} (hj : j < 40) : pb_ar h 141 12 (nI j) := ma_ar H.1 (by decide) sh_141 hj (by decide)
theorem mx_142 {h : pb_HP} (H : ma_H h) {j : Nat} (hj : j < 40) : pb_ar h 142 12 (nI j) := ma_ar H.1 (by decide) sh_142 hj (by decide)
theorem mx_143 {h : pb_HP} (H : ma_H h) {j : Nat} (hj : j < 40) : pb_ar h 143 12 (nI j) := ma_ar H.1 (by decide) sh_143 hj (by decide)
theorem mx_145 {h : pb_HP} (H : ma_H h) {j : Nat} (hj : j < 40) : pb_ar h 145 12 (nI j) := ma_ar H.1 (by decide) sh_145 hj (by decide)
theorem mx_146 {h : pb_HP} (H : ma_H h) {j : Nat} (hj : j < 40) : pb_ar h 146 12 (nI j) := ma_ar H.1 (by decide) sh_146 hj (by decide)
theorem mx_147 {h : pb_HP} (H : ma_H h) {j : Nat} (hj : j < 40) : pb_ar h 147 12 (nI j) := ma_ar H.1 (by decide) sh_147 hj (by decide)
theorem mx_148 {h : pb_HP} (H : ma_H h) {j : Nat} (hj : j < 40) : pb_ar h 148 12 (nI j) := ma_ar H.1 (by decide) sh_148 hj (by decide)
theorem mx_149 {h : pb_HP} (H : ma_H h) {j : Nat} (hj : j < 2) : pb_ar h 149 16 (nI j) := ma_ar H.1 (by decide) sh_149 hj (by decide)
theorem mx_151 {h : pb_HP} (H : ma_H h) {j : Nat} (hj : j < 8) : pb_ar h 151 12 (nI j) := ma_ar H.1 (by decide) sh_151 hj (by decide)
theorem mx_152 {h : pb_HP} (H : ma_H h) {j : Nat} (hj : j < 8) : pb_ar h 152 12 (nI j) := ma_ar H.1 (by decide) sh_152 hj (by decide)
theorem mx_153 {h : pb_HP} (H : ma_H h) {j : Nat} (hj : j < 8) : pb_ar h 153 12 (nI j) := ma_ar H.1 (by decide) sh_153 hj (by decide)
theorem mx_154 {h : pb_HP} (H : ma_H h) {j : Nat} (hj : j < 8) : pb_ar h 154 12 (nI j) := ma_ar H.1 (by decide) sh_154 hj (by decide)
theorem mx_156 {h : pb_HP} (H : ma_H h) {j : Nat} (hj : j < 8) : pb_ar h 156 12 (nI j) := ma_ar H.1 (by decide) sh_156 hj (by decide)
theorem mx_157 {h : pb_HP} (H : ma_H h) {j : Nat} (hj : j < 8) : pb_ar h 157 12 (nI j) := ma_ar H.1 (by decide) sh_157 hj (by decide)
theorem mx_158 {h : pb_HP} (H : ma_H h) {j : Nat} (hj : j < 8) : pb_ar h 158 12 (nI j) := ma_ar H.1 (by decide) sh_158 hj (by decide)
theorem mx_159 {h : pb_HP} (H : ma_H h) {j : Nat} (hj : j < 8) : pb_ar h 159 12 (nI j) := ma_ar H.1 (by decide) sh_159 hj (by decide)
theorem mx_160 {h : pb_HP} (H : ma_H h) {j : Nat} (hj : j < 3) : pb_ar h 160 12 (nI j) := ma_ar H.1 (by decide) sh_160 hj (by decide)
theorem mx_161 {h : pb_HP} (H : ma_H h) {j : Nat} (hj : j < 600) : pb_ar h 161 13 (nI j) := ma_ar H.1 (by decide) sh_161 hj (by decide)
theorem mx_162 {h : pb_HP} (H : ma_H h) {j : Nat} (hj : j < 3) : pb_ar h 162 14 (nI j) := ma_ar H.1 (by decide) sh_162 hj (by decide)
theorem mx_165 {h : pb_HP} (H : ma_H h) {j : Nat} (hj : j < 6) : pb_ar h 165 12 (nI j) := ma_ar H.1 (by decide) sh_165 hj (by decide)
theorem mx_166 {h : pb_HP} (H : ma_H h) {j : Nat} (hj : j < 6) : pb_ar h 166 12 (nI j) := ma_ar H.1 (by decide) sh_166 hj (by decide)
theorem mx_167 {h : pb_HP} (H : ma_H h) {j : Nat} (hj : j < 6) : pb_ar h 167 12 (nI j) := ma_ar H.1 (by decide) sh_167 hj (by decide)
theorem mx_168 {h : pb_HP} (H : ma_H h) {j : Nat} (hj : j < 6) : pb_ar h 168 12 (nI j) := ma_ar H.1 (by decide) sh_168 hj (by decide)
theorem mx_169 {h : pb_HP} (H : ma_H h) {j : Nat} (hj : j < 6) : pb_ar h 169 12 (nI j) := ma_ar H.1 (by decide) sh_169 hj (by decide)
theorem mx_170 {h : pb_HP} (H : ma_H h) {j : Nat} (hj : j < 36) : pb_ar h 170 12 (nI j) := ma_ar H.1 (by decide) sh_170 hj (by decide)
theorem mx_172 {h : pb_HP} (H : ma_H h) {j : Nat} (hj : j < 40) : pb_ar h 172 12 (nI j) := ma_ar H.1 (by decide) sh_172 hj (by decide)
theorem mx_173 {h : pb_HP} (H : ma_H h) {j : Nat} (hj : j < 40) : pb_ar h 173 12 (nI j) := ma_ar H.1 (by decide) sh_173 hj (by decide)
theorem mx_174 {h : pb_HP} (H : ma_H h) {j : Nat} (hj : j < 40) : pb_ar h 174 12 (nI j) := ma_ar H.1 (by decide) sh_174 hj (by decide)
theorem mx_175 {h : pb_HP} (H : ma_H h) {j : Nat} (hj : j < 40) : pb_ar h 175 12 (nI j) := ma_ar H.1 (by decide) sh_175 hj (by decide)
theorem mx_177 {h : pb_HP} (H : ma_H h) {j : Nat} (hj : j < 8) : pb_ar h 177 12 (nI j) := ma_ar H.1 (by decide) sh_177 hj (by decide)
theorem mx_178 {h : pb_HP} (H : ma_H h) {j : Nat} (hj : j < 8) : pb_ar h 178 12 (nI j) := ma_ar H.1 (by decide) sh_178 hj (by decide)
theorem mx_179 {h : pb_HP} (H : ma_H h) {j : Nat} (hj : j < 8) : pb_ar h 179 12 (nI j) := ma_ar H.1 (by decide) sh_179 hj (by decide)
theorem mx_180 {h : pb_HP} (H : ma_H h) {j : Nat} (hj : j < 8) : pb_ar h 180 12 (nI j) := ma_ar H.1 (by decide) sh_180 hj (by decide)
theorem mx_181 {h : pb_HP} (H : ma_H h) {j : Nat} (hj : j < 3) : pb_ar h 181 12 (nI j) := ma_ar H.1 (by decide) sh_181 hj (by decide)
theorem mx_183 {h : pb_HP} (H : ma_H h) {j : Nat} (hj : j < 6) : pb_ar h 183 12 (nI j) := ma_ar H.1 (by decide) sh_183 hj (by decide)
theorem mx_186 {h : pb_HP} (H : ma_H h) {j : Nat} (hj : j < 6) : pb_ar h 186 12 (nI j) := ma_ar H.1 (by decide) sh_186 hj (by decide)
theorem mx_187 {h : pb_HP} (H : ma_H h) {j : Nat} (hj : j < 6) : pb_ar h 187 12 (nI j) := ma_ar H.1 (by decide) sh_187 hj (by decide)
theorem mx_188 {h : pb_HP} (H : ma_H h) {j : Nat} (hj : j < 6) : pb_ar h 188 12 (nI j) := ma_ar H.1 (by decide) sh_188 hj (by decide)
theorem mx_189 {h : pb_HP} (H : ma_H h) {j : Nat} (hj : j < 6) : pb_ar h 189 12 (nI j) := ma_ar H.1 (by decide) sh_189 hj (by decide)
theorem mx_190 {h : pb_HP} (H : ma_H h) {j : Nat} (hj : j < 6) : pb_ar h 190 12 (nI j) := ma_ar H.1 (by decide) sh_190 hj (by decide)
theorem mx_191 {h : pb_HP} (H : ma_H h) {j : Nat} (hj : j < 36) : pb_ar h 191 12 (nI j) := ma_ar H.1 (by decide) sh_191 hj (by decide)
theorem mx_193 {h : pb_HP} (H : ma_H h) {j : Nat} (hj : j < 6) : pb_ar h 193 12 (nI j) := ma_ar H.1 (by decide) sh_193 hj (by decide)
theorem mx_195 {h : pb_HP} (H : ma_H h) {j : Nat} (hj : j < 6) : pb_ar h 195 12 (nI j) := ma_ar H.1 (by decide) sh_195 hj (by decide)
theorem mx_196 {h : pb_HP} (H : ma_H h) {j : Nat} (hj : j < 36) : pb_ar h 196 12 (nI j) := ma_ar H.1 (by decide) sh_196 hj (by decide)
theorem mx_197 {h : pb_HP} (H : ma_H h) {j : Nat} (hj : j < 6) : pb_ar h 197 12 (nI j) := ma_ar H.1 (by decide) sh_197 hj (by decide)
theorem mx_199 {h : pb_HP} (H : ma_H h) {j : Nat} (hj : j < 6) : pb_ar h 199 12 (nI j) := ma_ar H.1 (by decide) sh_199 hj (by decide)
theorem mx_202 {h : pb_HP} (H : ma_H h) {j : Nat} (hj : j < 6) : pb_ar h 202 12 (nI j) := ma_ar H.1 (by decide) sh_202 hj (by decide)
theorem mx_203 {h : pb_HP} (H : ma_H h) {j : Nat} (hj : j < 6) : pb_ar h 203 12 (nI j) := ma_ar H.1 (by decide) sh_203 hj (by decide)
theorem mx_204 {h : pb_HP} (H : ma_H h) {j : Nat} (hj : j < 6) : pb_ar h 204 12 (nI j) := ma_ar H.1 (by decide) sh_204 hj (by decide)
theorem mx_205 {h : pb_HP} (H : ma_H h) {j : Nat} (hj : j < 6) : pb_ar h 205 12 (nI j) := ma_ar H.1 (by decide) sh_205 hj (by decide)
theorem mx_206 {h : pb_HP} (H : ma_H h) {j : Nat} (hj : j < 6) : pb_ar h 206 12 (nI j) := ma_ar H.1 (by decide) sh_206 hj (by decide)
theorem mx_207 {h : pb_HP} (H : ma_H h) {j : Nat} (hj : j < 36) : pb_ar h 207 12 (nI j) := ma_ar H.1 (by decide) sh_207 hj (by decide)
theorem mx_209 {h : pb_HP} (H : ma_H h) {j : Nat} (hj : j < 6) : pb_ar h 209 12 (nI j) := ma_ar H.1 (by decide) sh_209 hj (by decide)
theorem mx_210 {h : pb_HP} (H : ma_H h) {j : Nat} (hj : j < 6) : pb_ar h 210 12 (nI j) := ma_ar H.1 (by decide) sh_210 hj (by decide)
theorem mx_211 {h : pb_HP} (H : ma_H h) {j : Nat} (hj : j < 6) : pb_ar h 211 12 (nI j) := ma_ar H.1 (by decide) sh_211 hj (by decide)
theorem mx_213 {h : pb_HP} (H : ma_H h) {j : Nat} (hj : j < 729) : pb_ar h 213 12 (nI j) := ma_ar H.1 (by decide) sh_213 hj (by decide)
theorem mx_214 {h : pb_HP} (H : ma_H h) {j : Nat} (hj : j < 729) : pb_ar h 214 12 (nI j) := ma_ar H.1 (by decide) sh_214 hj (by decide)
theorem mx_215 {h : pb_HP} (H : ma_H h) {j : Nat} (hj : j < 6) : pb_ar h 215 12 (nI j) := ma_ar H.1 (by decide) sh_215 hj (by decide)
theorem mx_216 {h : pb_HP} (H : ma_H h) {j : Nat} (hj : j < 36) : pb_ar h 216 12 (nI j) := ma_ar H.1 (by decide) sh_216 hj (by decide)
theorem mx_218 {h : pb_HP} (H : ma_H h) {j : Nat} (hj : j < 2400) : pb_ar h 218 13 (nI j) := ma_ar H.1 (by decide) sh_218 hj (by decide)
theorem mx_219 {h : pb_HP} (H : ma_H h) {j : Nat} (hj : j < 4) : pb_ar h 219 12 (nI j) := ma_ar H.1 (by decide) sh_219 hj (by decide)
theorem mx_220 {h : pb_HP} (H : ma_H h) {j : Nat} (hj : j < 4) : pb_ar h 220 12 (nI j) := ma_ar H.1 (by decide) sh_220 hj (by decide)
theorem mx_221 {h : pb_HP} (H : ma_H h) {j : Nat} (hj : j < 4) : pb_ar h 221 12 (nI j) := ma_ar H.1 (by decide) sh_221 hj (by decide)
theorem mx_222 {h : pb_HP} (H : ma_H h) {j : Nat} (hj : j < 12) : pb_ar h 222 12 (nI j) := ma_ar H.1 (by decide) sh_222 hj (by decide)
theorem mx_223 {h : pb_HP} (H : ma_H h) {j : Nat} (hj : j < 544) : pb_ar h 223 12 (nI j) := ma_ar H.1 (by decide) sh_223 hj (by decide)
theorem mx_224 {h : pb_HP} (H : ma_H h) {j : Nat} (hj : j < 1288) : pb_ar h 224 12 (nI j) := ma_ar H.1 (by decide) sh_224 hj (by decide)
theorem mx_225 {h : pb_HP} (H : ma_H h) {j : Nat} (hj : j < 200) : pb_ar h 225 12 (nI j) := ma_ar H.1 (by decide) sh_225 hj (by decide)
theorem mx_226 {h : pb_HP} (H : ma_H h) {j : Nat} (hj : j < 161) : pb_ar h 226 12 (nI j) := ma_ar H.1 (by decide) sh_226 hj (by decide)
theorem mx_227 {h : pb_HP} (H : ma_H h) {j : Nat} (hj : j < 4) : pb_ar h 227 12 (nI j) := ma_ar H.1 (by decide) sh_227 hj (by decide)
theorem mx_228 {h : pb_HP} (H : ma_H h) {j : Nat} (hj : j < 6) : pb_ar h 228 12 (nI j) := ma_ar H.1 (by decide) sh_228 hj (by decide)
theorem mx_229 {h : pb_HP} (H : ma_H h) {j : Nat} (hj : j < 6) : pb_ar h 229 12 (nI j) := ma_ar H.1 (by decide) sh_229 hj (by decide)
theorem mx_230 {h : pb_HP} (H : ma_H h) {j : Nat} (hj : j < 6) : pb_ar h 230 12 (nI j) := ma_ar H.1 (by decide) sh_230 hj (by decide)
theorem mx_231 {h : pb_HP} (H : ma_H h) {j : Nat} (hj : j < 6) : pb_ar h 231 12 (nI j) := ma_ar H.1 (by decide) sh_231 hj (by decide)
theorem mx_232 {h : pb_HP} (H : ma_H h) {j : Nat} (hj : j < 36) : pb_ar h 232 12 (nI j) := ma_ar H.1 (by decide) sh_232 hj (by decide)
theorem mx_233 {h : pb_HP} (H : ma_H h) {j : Nat} (hj : j < 6) : pb_ar h 233 12 (nI j) := ma_ar H.1 (by decide) sh_233 hj (by decide)
theorem mx_234 {h : pb_HP} (H : ma_H h) {j : Nat} (hj : j < 2401) : pb_ar h 234 12 (nI j) := ma_ar H.1 (by decide) sh_234 hj (by decide)
theorem mx_235 {h : pb_HP} (H : ma_H h) {j : Nat} (hj : j < 729) : pb_ar h 235 12 (nI j) := ma_ar H.1 (by decide) sh_235 hj (by decide)
theorem mx_236 {h : pb_HP} (H : ma_H h) {j : Nat} (hj : j < 6) : pb_ar h 236 12 (nI j) := ma_ar H.1 (by decide) sh_236 hj (by decide)
theorem mx_237 {h : pb_HP} (H : ma_H h) {j : Nat} (hj : j < 6) : pb_ar h 237 12 (nI j) := ma_ar H.1 (by decide) sh_237 hj (by decide)
theorem mx_238 {h : pb_HP} (H : ma_H h) {j : Nat} (hj : j < 6) : pb_ar h 238 12 (nI j) := ma_ar H.1 (by decide) sh_238 hj (by decide)
theorem mx_239 {h : pb_HP} (H : ma_H h) {j : Nat} (hj : j < 6) : pb_ar h 239 12 (nI j) := ma_ar H.1 (by decide) sh_239 hj (by decide)
theorem mx_240 {h : pb_HP} (H : ma_H h) {j : Nat} (hj : j < 3) : pb_ar h 240 14 (nI j) := ma_ar H.1 (by decide) sh_240 hj (by decide)
theorem ji_0 {h : pb_HP} (H : ma_H h) {α : Type} {a b : α} : (if pb_is h 0 10 then a else b) = a := if_pos (mi_0 H)
theorem ji_1 {h : pb_HP} (H : ma_H h) {α : Type} {a b : α} : (if pb_is h 1 7 then a else b) = a := if_pos (mi_1 H)
theorem ji_2 {h : pb_HP} (H : ma_H h) {α : Type} {a b : α} : (if pb_is h 2 15 then a else b) = a := if_pos (mi_2 H)
theorem ji_3 {h : pb_HP} (H : ma_H h) {α : Type} {a b : α} : (if pb_is h 3 0 then a else b) = a := if_pos (mi_3 H)
theorem ji_4 {h : pb_HP} (H : ma_H h) {α : Type} {a b : α} : (if pb_is h 4 12 then a else b) = a := if_pos (mi_4 H)
theorem ji_5 {h : pb_HP} (H : ma_H h) {α : Type} {a b : α} : (if pb_is h 5 12 then a else b) = a := if_pos (mi_5 H)
theorem ji_6 {h : pb_HP} (H : ma_H h) {α : Type} {a b : α} : (if pb_is h 6 12 then a else b) = a := if_pos (mi_6 H)
theorem ji_7 {h : pb_HP} (H : ma_H h) {α : Type} {a b : α} : (if pb_is h 7 12 then a else b) = a := if_pos (mi_7 H)
theorem ji_8 {h : pb_HP} (H : ma_H h) {α : Type} {a b : α} : (if pb_is h 8 12 then a else b) = a := if_pos (mi_8 H)
theorem ji_9 {h : pb_HP} (H : ma_H h) {α : Type} {a b : α} : (if pb_is h 9 12 then a else b) = a := if_pos (mi_9 H)
theorem ji_10 {h : pb_HP} (H : ma_H h) {α : Type} {a b : α} : (if pb_is h 10 0 then a else b) = a := if_pos (mi_10 H)
theorem ji_11 {h : pb_HP} (H : ma_H h) {α : Type} {a b : α} : (if pb_is h 11 12 then a else b) = a := if_pos (mi_11 H)
theorem ji_12 {h : pb_HP} (H : ma_H h) {α : Type} {a b : α} : (if pb_is h 12 12 then a else b) = a := if_pos (mi_12 H)
theorem ji_13 {h : pb_HP} (H : ma_H h) {α : Type} {a b : α} : (if pb_is h 13 12 then a else b) = a := if_pos (mi_13 H)
theorem ji_14 {h : pb_HP} (H : ma_H h) {α : Type} {a b : α} : (if pb_is h 14 12 then a else b) = a := if_pos (mi_14 H)
theorem ji_15 {h : pb_HP} (H : ma_H h) {α : Type} {a b : α} : (if pb_is h 15 12 then a else b) = a := if_pos (mi_15 H)
theorem ji_16 {h : pb_HP} (H : ma_H h) {α : Type} {a b : α} : (if pb_is h 16 12 then a else b) = a := if_pos (mi_16 H)
theorem ji_17 {h : pb_HP} (H : ma_H h) {α : Type} {a b : α} : (if pb_is h 17 16 then a else b) = a := if_pos (mi_17 H)
theorem ji_18 {h : pb_HP} (H : ma_H h) {α : Type} {a b : α} : (if pb_is h 18 4 then a else b) = a := if_pos (mi_18 H)
theorem ji_19 {h : pb_HP} (H : ma_H h) {α : Type} {a b : α} : (if pb_is h 19 12 then a else b) = a := if_pos (mi_19 H)
theorem ji_20 {h : pb_HP} (H : ma_H h) {α : Type} {a b : α} : (if pb_is h 20 12 then a else b) = a := if_pos (mi_20 H)
theorem ji_21 {h : pb_HP} (H : ma_H h) {α : Type} {a b : α} : (if pb_is h 21 12 then a else b) = a := if_pos (mi_21 H)
theorem ji_22 {h : pb_HP} (H : ma_H h) {α : Type} {a b : α} : (if pb_is h 22 12 then a else b) = a := if_pos (mi_22 H)
theorem ji_23 {h : pb_HP} (H : ma_H h) {α : Type} {a b : α} : (if pb_is h 23 4 then a else b) = a := if_pos (mi_23 H)
theorem ji_24 {h : pb_HP} (H : ma_H h) {α : Type} {a b : α} : (if pb_is h 24 12 then a else b) = a := if_pos (mi_24 H)
theorem ji_25 {h : pb_HP} (H : ma_H h) {α : Type} {a b : α} : (if pb_is h 25 12 then a else b) = a := if_pos (mi_25 H)
theorem ji_26 {h : pb_HP} (H : ma_H h) {α : Type} {a b : α} : (if pb_is h 26 12 then a else b) = a := if_pos (mi_26 H)
theorem ji_27 {h : pb_HP} (H : ma_H h) {α : Type} {a b : α} : (if pb_is h 27 12 then a else b) = a := if_pos (mi_27 H)
theorem ji_28 {h : pb_HP} (H : ma_H h) {α : Type} {a b : α} : (if pb_is h 28 16 then a else b) = a := if_pos (mi_28 H)
theorem ji_29 {h : pb_HP} (H : ma_H h) {α : Type} {a b : α} : (if pb_is h 29 4 then a else b) = a := if_pos (mi_29 H)
theorem ji_30 {h : pb_HP} (H : ma_H h) {α : Type} {a b : α} : (if pb_is h 30 12 then a else b) = a := if_pos (mi_30 H)
theorem ji_31 {h : pb_HP} (H : ma_H h) {α : Type} {a b : α} : (if pb_is h 31 12 then a else b) = a := if_pos (mi_31 H)
theorem ji_32 {h : pb_HP} (H : ma_H h) {α : Type} {a b : α} : (if pb_is h 32 12 then a else b) = a := if_pos (mi_32 H)
theorem ji_33 {h : pb_HP} (H : ma_H h) {α : Type} {a b : α} : (if pb_is h 33 12 then a else b) = a := if_pos (mi_33 H)
theorem ji_34 {h : pb_HP} (H : ma_H h) {α : Type} {a b : α} : (if pb_is h 34 4 then a else b) = a := if_pos (mi_34 H)
theorem ji_35 {h : pb_HP} (H : ma_H h) {α : Type} {a b : α} : (if pb_is h 35 12 then a else b) = a := if_pos (mi_35 H)
theorem ji_36 {h : pb_HP} (H : ma_H h) {α : Type} {a b : α} : (if pb_is h 36 12 then a else b) = a := if_pos (mi_36 H)
theorem ji_37 {h : pb_HP} (H : ma_H h) {α : Type} {a b : α} : (if pb_is h 37 12 then a else b) = a := if_pos (mi_37 H)
theorem ji_38 {h : pb_HP} (H : ma_H h) {α : Type} {a b : α} : (if pb_is h 38 12 then a else b) = a := if_pos (mi_38 H)
theorem ji_39 {h : pb_HP} (H : ma_H h) {α : Type} {a b : α} : (if pb_is h 39 12 then a else b) = a := if_pos (mi_39 H)
theorem ji_40 {h : pb_HP} (H : ma_H h) {α : Type} {a b : α} : (if pb_is h 40 13 then a else b) = a := if_pos (mi_40 H)
theorem ji_41 {h : pb_HP} (H : ma_H h) {α : Type} {a b : α} : (if pb_is h 41 17 then a else b) = a := if_pos (mi_41 H)
theorem ji_42 {h : pb_HP} (H : ma_H h) {α : Type} {a b : α} : (if pb_is h 42 7 then a else b) = a := if_pos (mi_42 H)
theorem ji_43 {h : pb_HP} (H : ma_H h) {α : Type} {a b : α} : (if pb_is h 43 15 then a else b) = a := if_pos (mi_43 H)
theorem ji_44 {h : pb_HP} (H : ma_H h) {α : Type} {a b : α} : (if pb_is h 44 0 then a else b) = a := if_pos (mi_44 H)
theorem ji_45 {h : pb_HP} (H : ma_H h) {α : Type} {a b : α} : (if pb_is h 45 12 then a else b) = a := if_pos (mi_45 H)
theorem ji_46 {h : pb_HP} (H : ma_H h) {α : Type} {a b : α} : (if pb_is h 46 12 then a else b) = a := if_pos (mi_46 H)
theorem ji_47 {h : pb_HP} (H : ma_H h) {α : Type} {a b : α} : (if pb_is h 47 12 then a else b) = a := if_pos (mi_47 H)
theorem ji_48 {h : pb_HP} (H : ma_H h) {α : Type} {a b : α} : (if pb_is h 48 12 then a else b) = a := if_pos (mi_48 H)
theorem ji_49 {h : pb_HP} (H : ma_H h) {α : Type} {a b : α} : (if pb_is h 49 12 then a else b) = a := if_pos (mi_49 H)
theorem ji_50 {h : pb_HP} (H : ma_H h) {α : Type} {a b : α} : (if pb_is h 50 12 then a else b) = a := if_pos (mi_50 H)
theorem ji_51 {h : pb_HP} (H : ma_H h) {α : Type} {a b : α} : (if pb_is h 51 0 then a else b) = a := if_pos (mi_51 H)
theorem ji_52 {h : pb_HP} (H : ma_H h) {α : Type} {a b : α} : (if pb_is h 52 12 then a else b) = a := if_pos (mi_52 H)
theorem ji_53 {h : pb_HP} (H : ma_H h) {α : Type} {a b : α} : (if pb_is h 53 12 then a else b) = a := if_pos (mi_53 H)
theorem ji_54 {h : pb_HP} (H : ma_H h) {α : Type} {a b : α} : (if pb_is h 54 12 then a else b) = a := if_pos (mi_54 H)
theorem ji_55 {h : pb_HP} (H : ma_H h) {α : Type} {a b : α} : (if pb_is h 55 12 then a else b) = a := if_pos (mi_55 H)
theorem ji_56 {h : pb_HP} (H : ma_H h) {α : Type} {a b : α} : (if pb_is h 56 12 then a else b) = a := if_pos (mi_56 H)
theorem ji_57 {h : pb_HP} (H : ma_H h) {α : Type} {a b : α} : (if pb_is h 57 12 then a else b) = a := if_pos (mi_57 H)
theorem ji_58 {h : pb_HP} (H : ma_H h) {α : Type} {a b : α} : (if pb_is h 58 16 then a else b) = a := if_pos (mi_58 H)
theorem ji_59 {h : pb_HP} (H : ma_H h) {α : Type} {a b : α} : (if pb_is h 59 4 then a else b) = a := if_pos (mi_59 H)
theorem ji_60 {h : pb_HP} (H : ma_H h) {α : Type} {a b : α} : (if pb_is h 60 12 then a else b) = a := if_pos (mi_60 H)
theorem ji_61 {h : pb_HP} (H : ma_H h) {α : Type} {a b : α} : (if pb_is h 61 12 then a else b) = a := if_pos (mi_61 H)
theorem ji_62 {h : pb_HP} (H : ma_H h) {α : Type} {a b : α} : (if pb_is h 62 12 then a else b) = a := if_pos (mi_62 H)
theorem ji_63 {h : pb_HP} (H : ma_H h) {α : Type} {a b : α} : (if pb_is h 63 12 then a else b) = a := if_pos (mi_63 H)
theorem ji_64 {h : pb_HP} (H : ma_H h) {α : Type} {a b : α} : (if pb_is h 64 4 then a else b) = a := if_pos (mi_64 H)
theorem ji_65 {h : pb_HP} (H : ma_H h) {α : Type} {a b : α} : (if pb_is h 65 12 then a else b) = a := if_pos (mi_65 H)
theorem ji_66 {h : pb_HP} (H : ma_H h) {α : Type} {a b : α} : (if pb_is h 66 12 then a else b) = a := if_pos (mi_66 H)
theorem ji_67 {h : pb_HP} (H : ma_H h) {α : Type} {a b : α} : (if pb_is h 67 12 then a else b) = a := if_pos (mi_67 H)
theorem ji_68 {h : pb_HP} (H : ma_H h) {α : Type} {a b : α} : (if pb_is h 68 12 then a else b) = a := if_pos (mi_68 H)
theorem ji_69 {h : pb_HP} (H : ma_H h) {α : Type} {a b : α} : (if pb_is h 69 16 then a else b) = a := if_pos (mi_69 H)
theorem ji_70 {h : pb_HP} (H : ma_H h) {α : Type} {a b : α} : (if pb_is h 70 4 then a else b) = a := if_pos (mi_70 H)
theorem ji_71 {h : pb_HP} (H : ma_H h) {α : Type} {a b : α} : (if pb_is h 71 12 then a else b) = a := if_pos (mi_71 H)
theorem ji_72 {h : pb_HP} (H : ma_H h) {α : Type} {a b : α} : (if pb_is h 72 12 then a else b) = a := if_pos (mi_72 H)
theorem ji_73 {h : pb_HP} (H : ma_H h) {α : Type} {a b : α} : (if pb_is h 73 12 then a else b) = a := if_pos (mi_73 H)
theorem ji_74 {h : pb_HP} (H : ma_H h) {α : Type} {a b : α} : (if pb_is h 74 12 then a else b) = a := if_pos (mi_74 H)
theorem ji_75 {h : pb_HP} (H : ma_H h) {α : Type} {a b : α} : (if pb_is h 75 4 then a else b) = a := if_pos (mi_75 H)
theorem ji_76 {h : pb_HP} (H : ma_H h) {α : Type} {a b : α} : (if pb_is h 76 12 then a else b) = a := if_pos (mi_76 H)
theorem ji_77 {h : pb_HP} (H : ma_H h) {α : Type} {a b : α} : (if pb_is h 77 12 then a else b) = a := if_pos (mi_77 H)
theorem ji_78 {h : pb_HP} (H : ma_H h) {α : Type} {a b : α} : (if pb_is h 78 12 then a else b) = a := if_pos (mi_78 H)
theorem ji_79 {h : pb_HP} (H : ma_H h) {α : Type} {a b : α} : (if pb_is h 79 12 then a else b) = a := if_pos (mi_79 H)
theorem ji_80 {h : pb_HP} (H : ma_H h) {α : Type} {a b : α} : (if pb_is h 80 12 then a else b) = a := if_pos (mi_80 H)
theorem ji_81 {h : pb_HP} (H : ma_H h) {α : Type} {a b : α} : (if pb_is h 81 13 then a else b) = a := if_pos (mi_81 H)
theorem ji_82 {h : pb_HP} (H : ma_H h) {α : Type} {a b : α} : (if pb_is h 82 7 then a else b) = a := if_pos (mi_82 H)
theorem ji_83 {h : pb_HP} (H : ma_H h) {α : Type} {a b : α} : (if pb_is h 83 15 then a else b) = a := if_pos (mi_83 H)
theorem ji_84 {h : pb_HP} (H : ma_H h) {α : Type} {a b : α} : (if pb_is h 84 0 then a else b) = a := if_pos (mi_84 H)
theorem ji_85 {h : pb_HP} (H : ma_H h) {α : Type} {a b : α} : (if pb_is h 85 12 then a else b) = a := if_pos (mi_85 H)
theorem ji_86 {h : pb_HP} (H : ma_H h) {α : Type} {a b : α} : (if pb_is h 86 12 then a else b) = a := if_pos (mi_86 H)
theorem ji_87 {h : pb_HP} (H : ma_H h) {α : Type} {a b : α} : (if pb_is h 87 12 then a else b) = a := if_pos (mi_87 H)
theorem ji_88 {h : pb_HP} (H : ma_H h) {α : Type} {a b : α} : (if pb_is h 88 12 then a else b) = a := if_pos (mi_88 H)
theorem ji_89 {h : pb_HP} (H : ma_H h) {α : Type} {a b : α} : (if pb_is h 89 12 then a else b) = a := if_pos (mi_89 H)
theorem ji_90 {h : pb_HP} (H : ma_H h) {α : Type} {a b : α} : (if pb_is h 90 12 then a else b) = a := if_pos (mi_90 H)
theorem ji_91 {h : pb_HP} (H : ma_H h) {α : Type} {a b : α} : (if pb_is h 91 0 then a else b) = a := if_pos (mi_91 H)
theorem ji_92 {h : pb_HP} (H : ma_H h) {α : Type} {a b : α} : (if pb_is h 92 12 then a else b) = a := if_pos (mi_92 H)
theorem ji_93 {h : pb_HP} (H : ma_H h) {α : Type} {a b : α} : (if pb_is h 93 12 then a else b) = a := if_pos (mi_93 H)
theorem ji_94 {h : pb_HP} (H : ma_H h) {α : Type} {a b : α} : (if pb_is h 94 12 then a else b) = a := if_pos (mi_94 H)
theorem ji_95 {h : pb_HP} (H : ma_H h) {α : Type} {a b : α} : (if pb_is h 95 12 then a else b) = a := if_pos (mi_95 H)
theorem ji_96 {h : pb_HP} (H : ma_H h) {α : Type} {a b : α} : (if pb_is h 96 12 then a else b) = a := if_pos (mi_96 H)
theorem ji_97 {h : pb_HP} (H : ma_H h) {α : Type} {a b : α} : (if pb_is h 97 12 then a else b) = a := if_pos (mi_97 H)
theorem ji_98 {h : pb_HP} (H : ma_H h) {α : Type} {a b : α} : (if pb_is h 98 16 then a else b) = a := if_pos (mi_98 H)
theorem ji_99 {h : pb_HP} (H : ma_H h) {α : Type} {a b : α} : (if pb_is h 99 4 then a else b) = a := if_pos (mi_99 H)
theorem ji_100 {h : pb_HP} (H : ma_H h) {α : Type} {a b : α} : (if pb_is h 100 12 then a else b) = a := if_pos (mi_100 H)
theorem ji_101 {h : pb_HP} (H : ma_H h) {α : Type} {a b : α} : (if pb_is h 101 12 then a else b) = a := if_pos (mi_101 H)
theorem ji_102 {h : pb_HP} (H : ma_H h) {α : Type} {a b : α} : (if pb_is h 102 12 then a else b) = a := if_pos (mi_102 H)
theorem ji_103 {h : pb_HP} (H : ma_H h) {α : Type} {a b : α} : (if pb_is h 103 12 then a else b) = a := if_pos (mi_103 H)
theorem ji_104 {h : pb_HP} (H : ma_H h) {α : Type} {a b : α} : (if pb_is h 104 4 then a else b) = a := if_pos (mi_104 H)
theorem ji_105 {h : pb_HP} (H : ma_H h) {α : Type} {a b : α} : (if pb_is h 105 12 then a else b) = a := if_pos (mi_105 H)
theorem ji_106 {h : pb_HP} (H : ma_H h) {α : Type} {a b : α} : (if pb_is h 106 12 then a else b) = a := if_pos (mi_106 H)
theorem ji_107 {h : pb_HP} (H : ma_H h) {α : Type} {a b : α} : (if pb_is h 107 12 then a else b) = a := if_pos (mi_107 H)
theorem ji_108 {h : pb_HP} (H : ma_H h) {α : Type} {a b : α} : (if pb_is h 108 12 then a else b) = a := if_pos (mi_108 H)
theorem ji_109 {h : pb_HP} (H : ma_H h) {α : Type} {a b : α} : (if pb_is h 109 16 then a else b) = a := if_pos (mi_109 H)
theorem ji_110 {h : pb_HP} (H : ma_H h) {α : Type} {a b : α} : (if pb_is h 110 4 then a else b) = a := if_pos (mi_110 H)
theorem ji_111 {h : pb_HP} (H : ma_H h) {α : Type} {a b : α} : (if pb_is h 111 12 then a else b) = a := if_pos (mi_111 H)
theorem ji_112 {h : pb_HP} (H : ma_H h) {α : Type} {a b : α} : (if pb_is h 112 12 then a else b) = a := if_pos (mi_112 H)
theorem ji_113 {h : pb_HP} (H : ma_H h) {α : Type} {a b : α} : (if pb_is h 113 12 then a else b) = a := if_pos (mi_113 H)
theorem ji_114 {h : pb_HP} (H : ma_H h) {α : Type} {a b : α} : (if pb_is h 114 12 then a else b) = a := if_pos (mi_114 H)
theorem ji_115 {h : pb_HP} (H : ma_H h) {α : Type} {a b : α} : (if pb_is h 115 4 then a else b) = a := if_pos (mi_115 H)
theorem ji_116 {h : pb_HP} (H : ma_H h) {α : Type} {a b : α} : (if pb_is h 116 12 then a else b) = a := if_pos (mi_116 H)
theorem ji_117 {h : pb_HP} (H : ma_H h) {α : Type} {a b : α} : (if pb_is h 117 12 then a else b) = a := if_pos (mi_117 H)
theorem ji_118 {h : pb_HP} (H : ma_H h) {α : Type} {a b : α} : (if pb_is h 118 12 then a else b) = a := if_pos (mi_118 H)
theorem ji_119 {h : pb_HP} (H : ma_H h) {α : Type} {a b : α} : (if pb_is h 119 12 then a else b) = a := if_pos (mi_119 H)
theorem ji_120 {h : pb_HP} (H : ma_H h) {α : Type} {a b : α} : (if pb_is h 120 12 then a else b) = a := if_pos (mi_120 H)
theorem ji_121 {h : pb_HP} (H : ma_H h) {α : Type} {a b : α} : (if pb_is h 121 13 then a else b) = a := if_pos (mi_121 H)
theorem ji_122 {h : pb_HP} (H : ma_H h) {α : Type} {a b : α} : (if pb_is h 122 7 then a else b) = a := if_pos (mi_122 H)
theorem ji_123 {h : pb_HP} (H : ma_H h) {α : Type} {a b : α} : (if pb_is h 123 15 then a else b) = a := if_pos (mi_123 H)
theorem ji_124 {h : pb_HP} (H : ma_H h) {α : Type} {a b : α} : (if pb_is h 124 0 then a else b) = a := if_pos (mi_124 H)
theorem ji_125 {h : pb_HP} (H : ma_H h) {α : Type} {a b : α} : (if pb_is h 125 12 then a else b) = a := if_pos (mi_125 H)
theorem ji_126 {h : pb_HP} (H : ma_H h) {α : Type} {a b : α} : (if pb_is h 126 12 then a else b) = a := if_pos (mi_126 H)
theorem ji_127 {h : pb_HP} (H : ma_H h) {α : Type} {a b : α} : (if pb_is h 127 12 then a else b) = a := if_pos (mi_127 H)
theorem ji_128 {h : pb_HP} (H : ma_H h) {α : Type} {a b : α} : (if pb_is h 128 12 then a else b) = a := if_pos (mi_128 H)
theorem ji_129 {h : pb_HP} (H : ma_H h) {α : Type} {a b : α} : (if pb_is h 129 12 then a else b) = a := if_pos (mi_129 H)
theorem ji_130 {h : pb_HP} (H : ma_H h) {α : Type} {a b : α} : (if pb_is h 130 12 then a else b) = a := if_pos (mi_130 H)
theorem ji_131 {h : pb_HP} (H : ma_H h) {α : Type} {a b : α} : (if pb_is h 131 0 then a else b) = a := if_pos (mi_131 H)
theorem ji_132 {h : pb_HP} (H : ma_H h) {α : Type} {a b : α} : (if pb_is h 132 12 then a else b) = a := if_pos (mi_132 H)
theorem ji_133 {h : pb_HP} (H : ma_H h) {α : Type} {a b : α} : (if pb_is h 133 12 then a else b) = a := if_pos (mi_133 H)
theorem ji_134 {h : pb_HP} (H : ma_H h) {α : Type} {a b : α} : (if pb_is h 134 12 then a else b) = a := if_pos (mi_134 H)
theorem ji_135 {h : pb_HP} (H : ma_H h) {α : Type} {a b : α} : (if pb_is h 135 12 then a else b) = a := if_pos (mi_135 H)
theorem ji_136 {h : pb_HP} (H : ma_H h) {α : Type} {a b : α} : (if pb_is h 136 12 then a else b) = a := if_pos (mi_136 H)
theorem ji_137 {h : pb_HP} (H : ma_H h) {α : Type} {a b : α} : (if pb_is h 137 12 then a else b) = a := if_pos (mi_137 H)
theorem ji_138 {h : pb_HP} (H : ma_H h) {α : Type} {a b : α} : (if pb_is h 138 16 then a else b) = a := if_pos (mi_138 H)
theorem ji_139 {h : pb_HP} (H : ma_H h) {α : Type} {a b : α} : (if pb_is h 139 4 then a else b) = a := if_pos (mi_139 H)
theorem ji_140 {h : pb_HP} (H : ma_H h) {α : Type} {a b : α} : (if pb_is h 140 12 then a else b) = a := if_pos (mi_140 H)
theorem ji_141 {h : pb_HP} (H : ma_H h) {α : Type} {a b : α} : (if pb_is h 141 12 then a else b) = a := if_pos (mi_141 H)
theorem ji_142 {h : pb_HP} (H : ma_H h) {α : Type} {a b : α} : (if pb_is h 142 12 then a else b) = a := if_pos (mi_142 H)
theorem ji_143 {h : pb_HP} (H : ma_H h) {α : Type} {a b : α} : (if pb_is h 143 12 then a else b) = a := if_pos (mi_143 H)
theorem ji_144 {h : pb_HP} (H : ma_H h) {α : Type} {a b : α} : (if pb_is h 144 4 then a else b) = a := if_pos (mi_144 H)
theorem ji_145 {h : pb_HP} (H : ma_H h) {α : Type} {a b : α} : (if pb_is h 145 12 then a else b) = a := if_pos (mi_145 H)
theorem ji_146 {h : pb_HP} (H : ma_H h) {α : Type} {a b : α} : (if pb_is h 146 12 then a else b) = a := if_pos (mi_146 H)
theorem ji_147 {h : pb_HP} (H : ma_H h) {α : Type} {a b : α} : (if pb_is h 147 12 then a else b) = a := if_pos (mi_147 H)
theorem ji_148 {h : pb_HP} (H : ma_H h) {α : Type} {a b : α} : (if pb_is h 148 12 then a else b) = a := if_pos (mi_148 H)
theorem ji_149 {h : pb_HP} (H : ma_H h) {α : Type} {a b : α} : (if pb_is h 149 16 then a else b) = a := if_pos (mi_149 H)
theorem ji_150 {h : pb_HP} (H : ma_H h) {α : Type} {a b : α} : (if pb_is h 150 4 then a else b) = a := if_pos (mi_150 H)
theorem ji_151 {h : pb_HP} (H : ma_H h) {α : Type} {a b : α} : (if pb_is h 151 12 then a else b) = a := if_pos (mi_151 H)
theorem ji_152 {h : pb_HP} (H : ma_H h) {α : Type} {a b : α} : (if pb_is h 152 12 then a else b) = a := if_pos (mi_152 H)
theorem ji_153 {h : pb_HP} (H : ma_H h) {α : Type} {a b : α} : (if pb_is h 153 12 then a else b) = a := if_pos (mi_153 H)
theorem ji_154 {h : pb_HP} (H : ma_H h) {α : Type} {a b : α} : (if pb_is h 154 12 then a else b) = a := if_pos (mi_154 H)
theorem ji_155 {h : pb_HP} (H : ma_H h) {α : Type} {a b : α} : (if pb_is h 155 4 then a else b) = a := if_pos (mi_155 H)
theorem ji_156 {h : pb_HP} (H : ma_H h) {α : Type} {a b : α} : (if pb_is h 156 12 then a else b) = a := if_pos (mi_156 H)
theorem ji_157 {h : pb_HP} (H : ma_H h) {α : Type} {a b : α} : (if pb_is h 157 12 then a else b) = a := if_pos (mi_157 H)
theorem ji_158 {h : pb_HP} (H : ma_H h) {α : Type} {a b : α} : (if pb_is h 158 12 then a else b) = a := if_pos (mi_158 H)
theorem ji_159 {h : pb_HP} (H : ma_H h) {α : Type} {a b : α} : (if pb_is h 159 12 then a else b) = a := if_pos (mi_159 H)
theorem ji_160 {h : pb_HP} (H : ma_H h) {α : Type} {a b : α} : (if pb_is h 160 12 then a else b) = a := if_pos (mi_160 H)
theorem ji_161 {h : pb_HP} (H : ma_H h) {α : Type} {a b : α} : (if pb_is h 161 13 then a else b) = a := if_pos (mi_161 H)
theorem ji_162 {h : pb_HP} (H : ma_H h) {α : Type} {a b : α} : (if pb_is h 162 14 then a else b) = a := if_pos (mi_162 H)
theorem ji_163 {h : pb_HP} (H : ma_H h) {α : Type} {a b : α} : (if pb_is h 163 6 then a else b) = a := if_pos (mi_163 H)
theorem ji_164 {h : pb_HP} (H : ma_H h) {α : Type} {a b : α} : (if pb_is h 164 0 then a else b) = a := if_pos (mi_164 H)
theorem ji_165 {h : pb_HP} (H : ma_H h) {α : Type} {a b : α} : (if pb_is h 165 12 then a else b) = a := if_pos (mi_165 H)
theorem ji_166 {h : pb_HP} (H : ma_H h) {α : Type} {a b : α} : (if pb_is h 166 12 then a else b) = a := if_pos (mi_166 H)
theorem ji_167 {h : pb_HP} (H : ma_H h) {α : Type} {a b : α} : (if pb_is h 167 12 then a else b) = a := if_pos (mi_167 H)
theorem ji_168 {h : pb_HP} (H : ma_H h) {α : Type} {a b : α} : (if pb_is h 168 12 then a else b) = a := if_pos (mi_168 H)
theorem ji_169 {h : pb_HP} (H : ma_H h) {α : Type} {a b : α} : (if pb_is h 169 12 then a else b) = a := if_pos (mi_169 H)
theorem ji_170 {h : pb_HP} (H : ma_H h) {α : Type} {a b : α} : (if pb_is h 170 12 then a else b) = a := if_pos (mi_170 H)
theorem ji_171 {h : pb_HP} (H : ma_H h) {α : Type} {a b : α} : (if pb_is h 171 4 then a else b) = a := if_pos (mi_171 H)
theorem ji_172 {h : pb_HP} (H : ma_H h) {α : Type} {a b : α} : (if pb_is h 172 12 then a else b) = a := if_pos (mi_172 H)
theorem ji_173 {h : pb_HP} (H : ma_H h) {α : Type} {a b : α} : (if pb_is h 173 12 then a else b) = a := if_pos (mi_173 H)
theorem ji_174 {h : pb_HP} (H : ma_H h) {α : Type} {a b : α} : (if pb_is h 174 12 then a else b) = a := if_pos (mi_174 H)
theorem ji_175 {h : pb_HP} (H : ma_H h) {α : Type} {a b : α} : (if pb_is h 175 12 then a else b) = a := if_pos (mi_175 H)
theorem ji_176 {h : pb_HP} (H : ma_H h) {α : Type} {a b : α} : (if pb_is h 176 4 then a else b) = a := if_pos (mi_176 H)
theorem ji_177 {h : pb_HP} (H : ma_H h) {α : Type} {a b : α} : (if pb_is h 177 12 then a else b) = a := if_pos (mi_177 H)
theorem ji_178 {h : pb_HP} (H : ma_H h) {α : Type} {a b : α} : (if pb_is h 178 12 then a else b) = a := if_pos (mi_178 H)
theorem ji_179 {h : pb_HP} (H : ma_H h) {α : Type} {a b : α} : (if pb_is h 179 12 then a else b) = a := if_pos (mi_179 H)
theorem ji_180 {h : pb_HP} (H : ma_H h) {α : Type} {a b : α} : (if pb_is h 180 12 then a else b) = a := if_pos (mi_180 H)
theorem ji_181 {h : pb_HP} (H : ma_H h) {α : Type} {a b : α} : (if pb_is h 181 12 then a else b) = a := if_pos (mi_181 H)
theorem ji_182 {h : pb_HP} (H : ma_H h) {α : Type} {a b : α} : (if pb_is h 182 5 then a else b) = a := if_pos (mi_182 H)
theorem ji_183 {h : pb_HP} (H : ma_H h) {α : Type} {a b : α} : (if pb_is h 183 12 then a else b) = a := if_pos (mi_183 H)
theorem ji_184 {h : pb_HP} (H : ma_H h) {α : Type} {a b : α} : (if pb_is h 184 8 then a else b) = a := if_pos (mi_184 H)
theorem ji_185 {h : pb_HP} (H : ma_H h) {α : Type} {a b : α} : (if pb_is h 185 0 then a else b) = a := if_pos (mi_185 H)
theorem ji_186 {h : pb_HP} (H : ma_H h) {α : Type} {a b : α} : (if pb_is h 186 12 then a else b) = a := if_pos (mi_186 H)
theorem ji_187 {h : pb_HP} (H : ma_H h) {α : Type} {a b : α} : (if pb_is h 187 12 then a else b) = a := if_pos (mi_187 H)
theorem ji_188 {h : pb_HP} (H : ma_H h) {α : Type} {a b : α} : (if pb_is h 188 12 then a else b) = a := if_pos (mi_188 H)
theorem ji_189 {h : pb_HP} (H : ma_H h) {α : Type} {a b : α} : (if pb_is h 189 12 then a else b) = a := if_pos (mi_189 H)
theorem ji_190 {h : pb_HP} (H : ma_H h) {α : Type} {a b : α} : (if pb_is h 190 12 then a else b) = a := if_pos (mi_190 H)
theorem ji_191 {h : pb_HP} (H : ma_H h) {α : Type} {a b : α} : (if pb_is h 191 12 then a else b) = a := if_pos (mi_191 H)
theorem ji_192 {h : pb_HP} (H : ma_H h) {α : Type} {a b : α} : (if pb_is h 192 5 then a else b) = a := if_pos (mi_192 H)
theorem ji_193 {h : pb_HP} (H : ma_H h) {α : Type} {a b : α} : (if pb_is h 193 12 then a else b) = a := if_pos (mi_193 H)
theorem ji_194 {h : pb_HP} (H : ma_H h) {α : Type} {a b : α} : (if pb_is h 194 2 then a else b) = a := if_pos (mi_194 H)
theorem ji_195 {h : pb_HP} (H : ma_H h) {α : Type} {a b : α} : (if pb_is h 195 12 then a else b) = a := if_pos (mi_195 H)
theorem ji_196 {h : pb_HP} (H : ma_H h) {α : Type} {a b : α} : (if pb_is h 196 12 then a else b) = a := if_pos (mi_196 H)
theorem ji_197 {h : pb_HP} (H : ma_H h) {α : Type} {a b : α} : (if pb_is h 197 12 then a else b) = a := if_pos (mi_197 H)
theorem ji_198 {h : pb_HP} (H : ma_H h) {α : Type} {a b : α} : (if pb_is h 198 9 then a else b) = a := if_pos (mi_198 H)
theorem ji_199 {h : pb_HP} (H : ma_H h) {α : Type} {a b : α} : (if pb_is h 199 12 then a else b) = a := if_pos (mi_199 H)
theorem ji_200 {h : pb_HP} (H : ma_H h) {α : Type} {a b : α} : (if pb_is h 200 1 then a else b) = a := if_pos (mi_200 H)
theorem ji_201 {h : pb_HP} (H : ma_H h) {α : Type} {a b : α} : (if pb_is h 201 0 then a else b) = a := if_pos (mi_201 H)
theorem ji_202 {h : pb_HP} (H : ma_H h) {α : Type} {a b : α} : (if pb_is h 202 12 then a else b) = a := if_pos (mi_202 H)
theorem ji_203 {h : pb_HP} (H : ma_H h) {α : Type} {a b : α} : (if pb_is h 203 12 then a else b) = a := if_pos (mi_203 H)
theorem ji_204 {h : pb_HP} (H : ma_H h) {α : Type} {a b : α} : (if pb_is h 204 12 then a else b) = a := if_pos (mi_204 H)
theorem ji_205 {h : pb_HP} (H : ma_H h) {α : Type} {a b : α} : (if pb_is h 205 12 then a else b) = a := if_pos (mi_205 H)
theorem ji_206 {h : pb_HP} (H : ma_H h) {α : Type} {a b : α} : (if pb_is h 206 12 then a else b) = a := if_pos (mi_206 H)
theorem ji_207 {h : pb_HP} (H : ma_H h) {α : Type} {a b : α} : (if pb_is h 207 12 then a else b) = a := if_pos (mi_207 H)
theorem ji_208 {h : pb_HP} (H : ma_H h) {α : Type} {a b : α} : (if pb_is h 208 5 then a else b) = a := if_pos (mi_208 H)
theorem ji_209 {h : pb_HP} (H : ma_H h) {α : Type} {a b : α} : (if pb_is h 209 12 then a else b) = a := if_pos (mi_209 H)
theorem ji_210 {h : pb_HP} (H : ma_H h) {α : Type} {a b : α} : (if pb_is h 210 12 then a else b) = a := if_pos (mi_210 H)
theorem ji_211 {h : pb_HP} (H : ma_H h) {α : Type} {a b : α} : (if pb_is h 211 12 then a else b) = a := if_pos (mi_211 H)
theorem ji_212 {h : pb_HP} (H : ma_H h) {α : Type} {a b : α} : (if pb_is h 212 3 then a else b) = a := if_pos (mi_212 H)
theorem ji_213 {h : pb_HP} (H : ma_H h) {α : Type} {a b : α} : (if pb_is h 213 12 then a else b) = a := if_pos (mi_213 H)
theorem ji_214 {h : pb_HP} (H : ma_H h) {α : Type} {a b : α} : (if pb_is h 214 12 then a else b) = a := if_pos (mi_214 H)
theorem ji_215 {h : pb_HP} (H : ma_H h) {α : Type} {a b : α} : (if pb_is h 215 12 then a else b) = a := if_pos (mi_215 H)
theorem ji_216 {h : pb_HP} (H : ma_H h) {α : Type} {a b : α} : (if pb_is h 216 12 then a else b) = a := if_pos (mi_216 H)
theorem ji_217 {h : pb_HP} (H : ma_H h) {α : Type} {a b : α} : (if pb_is h 217 11 then a else b) = a := if_pos (mi_217 H)
theorem ji_218 {h : pb_HP} (H : ma_H h) {α : Type} {a b : α} : (if pb_is h 218 13 then a else b) = a := if_pos (mi_218 H)
theorem ji_219 {h : pb_HP} (H : ma_H h) {α : Type} {a b : α} : (if pb_is h 219 12 then a else b) = a := if_pos (mi_219 H)
theorem ji_220 {h : pb_HP} (H : ma_H h) {α : Type} {a b : α} : (if pb_is h 220 12 then a else b) = a := if_pos (mi_220 H)
theorem ji_221 {h : pb_HP} (H : ma_H h) {α : Type} {a b : α} : (if pb_is h 221 12 then a else b) = a := if_pos (mi_221 H)
theorem ji_222 {h : pb_HP} (H : ma_H h) {α : Type} {a b : α} : (if pb_is h 222 12 then a else b) = a := if_pos (mi_222 H)
theorem ji_223 {h : pb_HP} (H : ma_H h) {α : Type} {a b : α} : (if pb_is h 223 12 then a else b) = a := if_pos (mi_223 H)
theorem ji_224 {h : pb_HP} (H : ma_H h) {α : Type} {a b : α} : (if pb_is h 224 12 then a else b) = a := if_pos (mi_224 H)
theorem ji_225 {h : pb_HP} (H : ma_H h) {α : Type} {a b : α} : (if pb_is h 225 12 then a else b) = a := if_pos (mi_225 H)
theorem ji_226 {h : pb_HP} (H : ma_H h) {α : Type} {a b : α} : (if pb_is h 226 12 then a else b) = a := if_pos (mi_226 H)
theorem ji_227 {h : pb_HP} (H : ma_H h) {α : Type} {a b : α} : (if pb_is h 227 12 then a else b) = a := if_pos (mi_227 H)
theorem ji_228 {h : pb_HP} (H : ma_H h) {α : Type} {a b : α} : (if pb_is h 228 12 then a else b) = a := if_pos (mi_228 H)
theorem ji_229 {h : pb_HP} (H : ma_H h) {α : Type} {a b : α} : (if pb_is h 229 12 then a else b) = a := if_pos (mi_229 H)
theorem ji_230 {h : pb_HP} (H : ma_H h) {α : Type} {a b : α} : (if pb_is h 230 12 then a else b) = a := if_pos (mi_230 H)
theorem ji_231 {h : pb_HP} (H : ma_H h) {α : Type} {a b : α} : (if pb_is h 231 12 then a else b) = a := if_pos (mi_231 H)
theorem ji_232 {h : pb_HP} (H : ma_H h) {α : Type} {a b : α} : (if pb_is h 232 12 then a else b) = a := if_pos (mi_232 H)
theorem ji_233 {h : pb_HP} (H : ma_H h) {α : Type} {a b : α} : (if pb_is h 233 12 then a else b) = a := if_pos (mi_233 H)
theorem ji_234 {h : pb_HP} (H : ma_H h) {α : Type} {a b : α} : (if pb_is h 234 12 then a else b) = a := if_pos (mi_234 H)
theorem ji_235 {h : pb_HP} (H : ma_H h) {α : Type} {a b : α} : (if pb_is h 235 12 then a else b) = a := if_pos (mi_235 H)
theorem ji_236 {h : pb_HP} (H : ma_H h) {α : Type} {a b : α} : (if pb_is h 236 12 then a else b) = a := if_pos (mi_236 H)
theorem ji_237 {h : pb_HP} (H : ma_H h) {α : Type} {a b : α} : (if pb_is h 237 12 then a else b) = a := if_pos (mi_237 H)
theorem ji_238 {h : pb_HP} (H : ma_H h) {α : Type} {a b : α} : (if pb_is h 238 12 then a else b) = a := if_pos (mi_238 H)
theorem ji_239 {h : pb_HP} (H : ma_H h) {α : Type} {a b : α} : (if pb_is h 239 12 then a else b) = a := if_pos (mi_239 H)
theorem ji_240 {h : pb_HP} (H : ma_H h) {α : Type} {a b : α} : (if pb_is h 240 14 then a else b) = a := if_pos (mi_240 H)
theorem jx_2 {h : pb_HP} (H : ma_H h) {j : Nat} (hj : j < 2) {α : Type} {a b : α} : (if pb_ar h 2 15 (nI j) then a else b) = a := if_pos (mx_2 H hj)
theorem jx_4 {h : pb_HP} (H : ma_H h) {j : Nat} (hj : j < 6) {α : Type} {a b : α} : (if pb_ar h 4 12 (nI j) then a else b) = a := if_pos (mx_4 H hj)
theorem jx_5 {h : pb_HP} (H : ma_H h) {j : Nat} (hj : j < 6) {α : Type} {a b : α} : (if pb_ar h 5 12 (nI j) then a else b) = a := if_pos (mx_5 H hj)
theorem jx_6 {h : pb_HP} (H : ma_H h) {j : Nat} (hj : j < 6) {α : Type} {a b : α} : (if pb_ar h 6 12 (nI j) then a else b) = a := if_pos (mx_6 H hj)
theorem jx_7 {h : pb_HP} (H : ma_H h) {j : Nat} (hj : j < 6) {α : Type} {a b : α} : (if pb_ar h 7 12 (nI j) then a else b) = a := if_pos (mx_7 H hj)
theorem jx_8 {h : pb_HP} (H : ma_H h) {j : Nat} (hj : j < 6) {α : Type} {a b : α} : (if pb_ar h 8 12 (nI j) then a else b) = a := if_pos (mx_8 H hj)
theorem jx_9 {h : pb_HP} (H : ma_H h) {j : Nat} (hj : j < 36) {α : Type} {a b : α} : (if pb_ar h 9 12 (nI j) then a else b) = a := if_pos (mx_9 H hj)
theorem jx_11 {h : pb_HP} (H : ma_H h) {j : Nat} (hj : j < 6) {α : Type} {a b : α} : (if pb_ar h 11 12 (nI j) then a else b) = a := if_pos (mx_11 H hj)
theorem jx_12 {h : pb_HP} (H : ma_H h) {j : Nat} (hj : j < 6) {α : Type} {a b : α} : (if pb_ar h 12 12 (nI j) then a else b) = a := if_pos (mx_12 H hj)
theorem jx_13 {h : pb_HP} (H : ma_H h) {j : Nat} (hj : j < 6) {α : Type} {a b : α} : (if pb_ar h 13 12 (nI j) then a else b) = a := if_pos (mx_13 H hj)
theorem jx_14 {h : pb_HP} (H : ma_H h) {j : Nat} (hj : j < 6) {α : Type} {a b : α} : (if pb_ar h 14 12 (nI j) then a else b) = a := if_pos (mx_14 H hj)
theorem jx_15 {h : pb_HP} (H : ma_H h) {j : Nat} (hj : j < 6) {α : Type} {a b : α} : (if pb_ar h 15 12 (nI j) then a else b) = a := if_pos (mx_15 H hj)
theorem jx_16 {h : pb_HP} (H : ma_H h) {j : Nat} (hj : j < 36) {α : Type} {a b : α} : (if pb_ar h 16 12 (nI j) then a else b) = a := if_pos (mx_16 H hj)
theorem jx_17 {h : pb_HP} (H : ma_H h) {j : Nat} (hj : j < 2) {α : Type} {a b : α} : (if pb_ar h 17 16 (nI j) then a else b) = a := if_pos (mx_17 H hj)
theorem jx_19 {h : pb_HP} (H : ma_H h) {j : Nat} (hj : j < 40) {α : Type} {a b : α} : (if pb_ar h 19 12 (nI j) then a else b) = a := if_pos (mx_19 H hj)
theorem jx_20 {h : pb_HP} (H : ma_H h) {j : Nat} (hj : j < 40) {α : Type} {a b : α} : (if pb_ar h 20 12 (nI j) then a else b) = a := if_pos (mx_20 H hj)
theorem jx_21 {h : pb_HP} (H : ma_H h) {j : Nat} (hj : j < 40) {α : Type} {a b : α} : (if pb_ar h 21 12 (nI j) then a else b) = a := if_pos (mx_21 H hj)
theorem jx_22 {h : pb_HP} (H : ma_H h) {j : Nat} (hj : j < 40) {α : Type} {a b : α} : (if pb_ar h 22 12 (nI j) then a else b) = a := if_pos (mx_22 H hj)
theorem jx_24 {h : pb_HP} (H : ma_H h) {j : Nat} (hj : j < 40) {α : Type} {a b : α} : (if pb_ar h 24 12 (nI j) then a else b) = a := if_pos (mx_24 H hj)
theorem jx_25 {h : pb_HP} (H : ma_H h) {j : Nat} (hj : j < 40) {α : Type} {a b : α} : (if pb_ar h 25 12 (nI j) then a else b) = a := if_pos (mx_25 H hj)
theorem jx_26 {h : pb_HP} (H : ma_H h) {j : Nat} (hj : j < 40) {α : Type} {a b : α} : (if pb_ar h 26 12 (nI j) then a else b) = a := if_pos (mx_26 H hj)
theorem jx_27 {h : pb_HP} (H : ma_H h) {j : Nat} (hj : j < 40) {α : Type} {a b : α} : (if pb_ar h 27 12 (nI j) then a else b) = a := if_pos (mx_27 H hj)
theorem jx_28 {h : pb_HP} (H : ma_H h) {j : Nat} (hj : j < 2) {α : Type} {a b : α} : (if pb_ar h 28 16 (nI j) then a else b) = a := if_pos (mx_28 H hj)
theorem jx_30 {h : pb_HP} (H : ma_H h) {j : Nat} (hj : j < 8) {α : Type} {a b : α} : (if pb_ar h 30 12 (nI j) then a else b) = a := if_pos (mx_30 H hj)
theorem jx_31 {h : pb_HP} (H : ma_H h) {j : Nat} (hj : j < 8) {α : Type} {a b : α} : (if pb_ar h 31 12 (nI j) then a else b) = a := if_pos (mx_31 H hj)
theorem jx_32 {h : pb_HP} (H : ma_H h) {j : Nat} (hj : j < 8) {α : Type} {a b : α} : (if pb_ar h 32 12 (nI j) then a else b) = a := if_pos (mx_32 H hj)
theorem jx_33 {h : pb_HP} (H : ma_H h) {j : Nat} (hj : j < 8) {α : Type} {a b : α} : (if pb_ar h 33 12 (nI j) then a else b) = a := if_pos (mx_33 H hj)
theorem jx_35 {h : pb_HP} (H : ma_H h) {j : Nat} (hj : j < 8) {α : Type} {a b : α} : (if pb_ar h 35 12 (nI j) then a else b) = a := if_pos (mx_35 H hj)
theorem jx_36 {h : pb_HP} (H : ma_H h) {j : Nat} (hj : j < 8) {α : Type} {a b : α} : (if pb_ar h 36 12 (nI j) then a else b) = a := if_pos (mx_36 H hj)
theorem jx_37 {h : pb_HP} (H : ma_H h) {j : Nat} (hj : j < 8) {α : Type} {a b : α} : (if pb_ar h 37 12 (nI j) then a else b) = a := if_pos (mx_37 H hj)
theorem jx_38 {h : pb_HP} (H : ma_H h) {j : Nat} (hj : j < 8) {α : Type} {a b : α} : (if pb_ar h 38 12 (nI j) then a else b) = a := if_pos (mx_38 H hj)
theorem jx_39 {h : pb_HP} (H : ma_H h) {j : Nat} (hj : j < 3) {α : Type} {a b : α} : (if pb_ar h 39 12 (nI j) then a else b) = a := if_pos (mx_39 H hj)
theorem jx_40 {h : pb_HP} (H : ma_H h) {j : Nat} (hj : j < 600) {α : Type} {a b : α} : (if pb_ar h 40 13 (nI j) then a else b) = a := if_pos (mx_40 H hj)
theorem jx_41 {h : pb_HP} (H : ma_H h) {j : Nat} (hj : j < 3) {α : Type} {a b : α} : (if pb_ar h 41 17 (nI j) then a else b) = a := if_pos (mx_41 H hj)
theorem jx_43 {h : pb_HP} (H : ma_H h) {j : Nat} (hj : j < 2) {α : Type} {a b : α} : (if pb_ar h 43 15 (nI j) then a else b) = a := if_pos (mx_43 H hj)
theorem jx_45 {h : pb_HP} (H : ma_H h) {j : Nat} (hj : j < 6) {α : Type} {a b : α} : (if pb_ar h 45 12 (nI j) then a else b) = a := if_pos (mx_45 H hj)
theorem jx_46 {h : pb_HP} (H : ma_H h) {j : Nat} (hj : j < 6) {α : Type} {a b : α} : (if pb_ar h 46 12 (nI j) then a else b) = a := if_pos (mx_46 H hj)
theorem jx_47 {h : pb_HP} (H : ma_H h) {j : Nat} (hj : j < 6) {α : Type} {a b : α} : (if pb_ar h 47 12 (nI j) then a else b) = a := if_pos (mx_47 H hj)
theorem jx_48 {h : pb_HP} (H : ma_H h) {j : Nat} (hj : j < 6) {α : Type} {a b : α} : (if pb_ar h 48 12 (nI j) then a else b) = a := if_pos (mx_48 H hj)
theorem jx_49 {h : pb_HP} (H : ma_H h) {j : Nat} (hj : j < 6) {α : Type} {a b : α} : (if pb_ar h 49 12 (nI j) then a else b) = a := if_pos (mx_49 H hj)
theorem jx_50 {h : pb_HP} (H : ma_H h) {j : Nat} (hj : j < 36) {α : Type} {a b : α} : (if pb_ar h 50 12 (nI j) then a else b) = a := if_pos (mx_50 H hj)
theorem jx_52 {h : pb_HP} (H : ma_H h) {j : Nat} (hj : j < 6) {α : Type} {a b : α} : (if pb_ar h 52 12 (nI j) then a else b) = a := if_pos (mx_52 H hj)
theorem jx_53 {h : pb_HP} (H : ma_H h) {j : Nat} (hj : j < 6) {α : Type} {a b : α} : (if pb_ar h 53 12 (nI j) then a else b) = a := if_pos (mx_53 H hj)
theorem jx_54 {h : pb_HP} (H : ma_H h) {j : Nat} (hj : j < 6) {α : Type} {a b : α} : (if pb_ar h 54 12 (nI j) then a else b) = a := if_pos (mx_54 H hj)
theorem jx_55 {h : pb_HP} (H : ma_H h) {j : Nat} (hj : j < 6) {α : Type} {a b : α} : (if pb_ar h 55 12 (nI j) then a else b) = a := if_pos (mx_55 H hj)
theorem jx_56 {h : pb_HP} (H : ma_H h) {j : Nat} (hj : j < 6) {α : Type} {a b : α} : (if pb_ar h 56 12 (nI j) then a else b) = a := if_pos (mx_56 H hj)
theorem jx_57 {h : pb_HP} (H : ma_H h) {j : Nat} (hj : j < 36) {α : Type} {a b : α} : (if pb_ar h 57 12 (nI j) then a else b) = a := if_pos (mx_57 H hj)
theorem jx_58 {h : pb_HP} (H : ma_H h) {j : Nat} (hj : j < 2) {α : Type} {a b : α} : (if pb_ar h 58 16 (nI j) then a else b) = a := if_pos (mx_58 H hj)
theorem jx_60 {h : pb_HP} (H : ma_H h) {j : Nat} (hj : j < 40) {α : Type} {a b : α} : (if pb_ar h 60 12 (nI j) then a else b) = a := if_pos (mx_60 H hj)
theorem jx_61 {h : pb_HP} (H : ma_H h) {j : Nat} (hj : j < 40) {α : Type} {a b : α} : (if pb_ar h 61 12 (nI j) then a else b) = a := if_pos (mx_61 H hj)
theorem jx_62 {h : pb_HP} (H : ma_H h) {j : Nat} (hj : j < 40) {α : Type} {a b : α} : (if pb_ar h 62 12 (nI j) then a else b) = a := if_pos (mx_62 H hj)
theorem jx_63 {h : pb_HP} (H : ma_H h) {j : Nat} (hj : j < 40) {α : Type} {a b : α} : (if pb_ar h 63 12 (nI j) then a else b) = a := if_pos (mx_63 H hj)
theorem jx_65 {h : pb_HP} (H : ma_H h) {j : Nat} (hj : j < 40) {α : Type} {a b : α} : (if pb_ar h 65 12 (nI j) then a else b) = a := if_pos (mx_65 H hj)
theorem jx_66 {h : pb_HP} (H : ma_H h) {j : Nat} (hj : j < 40) {α : Type} {a b : α} : (if pb_ar h 66 12 (nI j) then a else b) = a := if_pos (mx_66 H hj)
theorem jx_67 {h : pb_HP} (H : ma_H h) {j : Nat} (hj : j < 40) {α : Type} {a b : α} : (if pb_ar h 67 12 (nI j) then a else b) = a := if_pos (mx_67 H hj)
theorem jx_68 {h : pb_HP} (H : ma_H h) {j : Nat} (hj : j < 40) {α : Type} {a b : α} : (if pb_ar h 68 12 (nI j) then a else b) = a := if_pos (mx_68 H hj)
theorem jx_69 {h : pb_HP} (H : ma_H h) {j : Nat} (hj : j < 2) {α : Type} {a b : α} : (if pb_ar h 69 16 (nI j) then a else b) = a := if_pos (mx_69 H hj)
theorem jx_71 {h : pb_HP} (H : ma_H h) {j : Nat} (hj : j < 8) {α : Type} {a b : α} : (if pb_ar h 71 12 (nI j) then a else b) = a := if_pos (mx_71 H hj)
theorem jx_72 {h : pb_HP} (H : ma_H h) {j : Nat} (hj : j < 8) {α : Type} {a b : α} : (if pb_ar h 72 12 (nI j) then a else b) = a := if_pos (mx_72 H hj)
theorem jx_73 {h : pb_HP} (H : ma_H h) {j : Nat} (hj : j < 8) {α : Type} {a b : α} : (if pb_ar h 73 12 (nI j) then a else b) = a := if_pos (mx_73 H hj)
theorem jx_74 {h : pb_HP} (H : ma_H h) {j : Nat} (hj : j < 8) {α : Type} {a b : α} : (if pb_ar h 74 12 (nI j) then a else b) = a := if_pos (mx_74 H hj)
theorem jx_76 {h : pb_HP} (H : ma_H h) {j : Nat} (hj : j < 8) {α : Type} {a b : α} : (if pb_ar h 76 12 (nI j) then a else b) = a := if_pos (mx_76 H hj)
theorem jx_77 {h : pb_HP} (H : ma_H h) {j : Nat} (hj : j < 8) {α : Type} {a b : α} : (if pb_ar h 77 12 (nI j) then a else b) = a := if_pos (mx_77 H hj)
theorem jx_78 {h : pb_HP} (H : ma_H h) {j : Nat} (hj : j < 8) {α : Type} {a b : α} : (if pb_ar h 78 12 (nI j) then a else b) = a := if_pos (mx_78 H hj)
theorem jx_79 {h : pb_HP} (H : ma_H h) {j : Nat} (hj : j < 8) {α : Type} {a b : α} : (if pb_ar h 79 12 (nI j) then a else b) = a := if_pos (mx_79 H hj)
theorem jx_80 {h : pb_HP} (H : ma_H h) {j : Nat} (hj : j < 3) {α : Type} {a b : α} : (if pb_ar h 80 12 (nI j) then a else b) = a := if_pos (mx_80 H hj)
theorem jx_81 {h : pb_HP} (H : ma_H h) {j : Nat} (hj : j < 600) {α : Type} {a b : α} : (if pb_ar h 81 13 (nI j) then a else b) = a := if_pos (mx_81 H hj)
theorem jx_83 {h : pb_HP} (H : ma_H h) {j : Nat} (hj : j < 2) {α : Type} {a b : α} : (if pb_ar h 83 15 (nI j) then a else b) = a := if_pos (mx_83 H hj)
theorem jx_85 {h : pb_HP} (H : ma_H h) {j : Nat} (hj : j < 6) {α : Type} {a b : α} : (if pb_ar h 85 12 (nI j) then a else b) = a := if_pos (mx_85 H hj)
theorem jx_86 {h : pb_HP} (H : ma_H h) {j : Nat} (hj : j < 6) {α : Type} {a b : α} : (if pb_ar h 86 12 (nI j) then a else b) = a := if_pos (mx_86 H hj)
theorem jx_87 {h : pb_HP} (H : ma_H h) {j : Nat} (hj : j < 6) {α : Type} {a b : α} : (if pb_ar h 87 12 (nI j) then a else b) = a := if_pos (mx_87 H hj)
theorem jx_88 {h : pb_HP} (H : ma_H h) {j : Nat} (hj : j < 6) {α : Type} {a b : α} : (if pb_ar h 88 12 (nI j) then a else b) = a := if_pos (mx_88 H hj)
theorem jx_89 {h : pb_HP} (H : ma_H h) {j : Nat} (hj : j < 6) {α : Type} {a b : α} : (if pb_ar h 89 12 (nI j) then a else b) = a := if_pos (mx_89 H hj)
theorem jx_90 {h : pb_HP} (H : ma_H h) {j : Nat} (hj : j < 36) {α : Type} {a b : α} : (if pb_ar h 90 12 (nI j) then a else b) = a := if_pos (mx_90 H hj)
theorem jx_92 {h : pb_HP} (H : ma_H h) {j : Nat} (hj : j < 6) {α : Type} {a b : α} : (if pb_ar h 92 12 (nI j) then a else b) = a := if_pos (mx_92 H hj)
theorem jx_93 {h : pb_HP} (H : ma_H h) {j : Nat} (hj : j < 6) {α : Type} {a b : α} : (if pb_ar h 93 12 (nI j) then a else b) = a := if_pos (mx_93 H hj)
theorem jx_94 {h : pb_HP} (H : ma_H h) {j : Nat} (hj : j < 6) {α : Type} {a b : α} : (if pb_ar h 94 12 (nI j) then a else b) = a := if_pos (mx_94 H hj)
theorem jx_95 {h : pb_HP} (H : ma_H h) {j : Nat} (hj : j < 6) {α : Type} {a b : α} : (if pb_ar h 95 12 (nI j) then a else b) = a := if_pos (mx_95 H hj)
theorem jx_96 {h : pb_HP} (H : ma_H h) {j : Nat} (hj : j < 6) {α : Type} {a b : α} : (if pb_ar h 96 12 (nI j) then a else b) = a := if_pos (mx_96 H hj)
theorem jx_97 {h : pb_HP} (H : ma_H h) {j : Nat} (hj : j < 36) {α : Type} {a b : α} : (if pb_ar h 97 12 (nI j) then a else b) = a := if_pos (mx_97 H hj)
theorem jx_98 {h : pb_HP} (H : ma_H h) {j : Nat} (hj : j < 2) {α : Type} {a b : α} : (if pb_ar h 98 16 (nI j) then a else b) = a := if_pos (mx_98 H hj)
theorem jx_100 {h : pb_HP} (H : ma_H h) {j : Nat} (hj : j < 40) {α : Type} {a b : α} : (if pb_ar h 100 12 (nI j) then a else b) = a := if_pos (mx_100 H hj)
theorem jx_101 {h : pb_HP} (H : ma_H h) {j : Nat} (hj : j < 40) {α : Type} {a b : α} : (if pb_ar h 101 12 (nI j) then a else b) = a := if_pos (mx_101 H hj)
theorem jx_102 {h : pb_HP} (H : ma_H h) {j : Nat} (hj : j < 40) {α : Type} {a b : α} : (if pb_ar h 102 12 (nI j) then a else b) = a := if_pos (mx_102 H hj)
theorem jx_103 {h : pb_HP} (H : ma_H h) {j : Nat} (hj : j < 40) {α : Type} {a b : α} : (if pb_ar h 103 12 (nI j) then a else b) = a := if_pos (mx_103 H hj)
theorem jx_105 {h : pb_HP} (H : ma_H h) {j : Nat} (hj : j < 40) {α : Type} {a b : α} : (if pb_ar h 105 12 (nI j) then a else b) = a := if_pos (mx_105 H hj)
theorem jx_106 {h : pb_HP} (H : ma_H h) {j : Nat} (hj : j < 40) {α : Type} {a b : α} : (if pb_ar h 106 12 (nI j) then a else b) = a := if_pos (mx_106 H hj)
theorem jx_107 {h : pb_HP} (H : ma_H h) {j : Nat} (hj : j < 40) {α : Type} {a b : α} : (if pb_ar h 107 12 (nI j) then a else b) = a := if_pos (mx_107 H hj)
theorem jx_108 {h : pb_HP} (H : ma_H h) {j : Nat} (hj : j < 40) {α : Type} {a b : α} : (if pb_ar h 108 12 (nI j) then a else b) = a := if_pos (mx_108 H hj)
theorem jx_109 {h : pb_HP} (H : ma_H h) {j : Nat} (hj : j < 2) {α : Type} {a b : α} : (if pb_ar h 109 16 (nI j) then a else b) = a := if_pos (mx_109 H hj)
theorem jx_111 {h : pb_HP} (H : ma_H h) {j : Nat} (hj : j < 8) {α : Type} {a b : α} : (if pb_ar h 111 12 (nI j) then a else b) = a := if_pos (mx_111 H hj)
theorem jx_112 {h : pb_HP} (H : ma_H h) {j : Nat} (hj : j < 8) {α : Type} {a b : α} : (if pb_ar h 112 12 (nI j) then a else b) = a := if_pos (mx_112 H hj)
theorem jx_113 {h : pb_HP} (H : ma_H h) {j : Nat} (hj : j < 8) {α : Type} {a b : α} : (if pb_ar h 113 12 (nI j) then a else b) = a := if_pos (mx_113 H hj)
theorem jx_114 {h : pb_HP} (H : ma_H h) {j : Nat} (hj : j < 8) {α : Type} {a b : α} : (if pb_ar h 114 12 (nI j) then a else b) = a := if_pos (mx_114 H hj)
theorem jx_116 {h : pb_HP} (H : ma_H h) {j : Nat} (hj : j < 8) {α : Type} {a b : α} : (if pb_ar h 116 12 (nI j) then a else b) = a := if_pos (mx_116 H hj)
theorem jx_117 {h : pb_HP} (H : ma_H h) {j : Nat} (hj : j < 8) {α : Type} {a b : α} : (if pb_ar h 117 12 (nI j) then a else b) = a := if_pos (mx_117 H hj)
theorem jx_118 {h : pb_HP} (H : ma_H h) {j : Nat} (hj : j < 8) {α : Type} {a b : α} : (if pb_ar h 118 12 (nI j) then a else b) = a := if_pos (mx_118 H hj)
theorem jx_119 {h : pb_HP} (H : ma_H h) {j : Nat} (hj : j < 8) {α : Type} {a b : α} : (if pb_ar h 119 12 (nI j) then a else b) = a := if_pos (mx_119 H hj)
theorem jx_120 {h : pb_HP} (H : ma_H h) {j : Nat} (hj : j < 3) {α : Type} {a b : α} : (if pb_ar h 120 12 (nI j) then a else b) = a := if_pos (mx_120 H hj)
theorem jx_121 {h : pb_HP} (H : ma_H h) {j : Nat} (hj : j < 600) {α : Type} {a b : α} : (if pb_ar h 121 13 (nI j) then a else b) = a := if_pos (mx_121 H hj)
theorem jx_123 {h : pb_HP} (H : ma_H h) {j : Nat} (hj : j < 2) {α : Type} {a b : α} : (if pb_ar h 123 15 (nI j) then a else b) = a := if_pos (mx_123 H hj)
theorem jx_125 {h : pb_HP} (H : ma_H h) {j : Nat} (hj : j < 6) {α : Type} {a b : α} : (if pb_ar h 125 12 (nI j) then a else b) = a := if_pos (mx_125 H hj)
theorem jx_126 {h : pb_HP} (H : ma_H h) {j : Nat} (hj : j < 6) {α : Type} {a b : α} : (if pb_ar h 126 12 (nI j) then a else b) = a := if_pos (mx_126 H hj)
theorem jx_127 {h : pb_HP} (H : ma_H h) {j : Nat} (hj : j < 6) {α : Type} {a b : α} : (if pb_ar h 127 12 (nI j) then a else b) = a := if_pos (mx_127 H hj)
theorem jx_128 {h : pb_HP} (H : ma_H h) {j : Nat} (hj : j < 6) {α : Type} {a b : α} : (if pb_ar h 128 12 (nI j) then a else b) = a := if_pos (mx_128 H hj)
theorem jx_129 {h : pb_HP} (H : ma_H h) {j : Nat} (hj : j < 6) {α : Type} {a b : α} : (if pb_ar h 129 12 (nI j) then a else b) = a := if_pos (mx_129 H hj)
theorem jx_130 {h : pb_HP} (H : ma_H h) {j : Nat} (hj : j < 36) {α : Type} {a b : α} : (if pb_ar h 130 12 (nI j) then a else b) = a := if_pos (mx_130 H hj)
theorem jx_132 {h : pb_HP} (H : ma_H h) {j : Nat} (hj : j < 6) {α : Type} {a b : α} : (if pb_ar h 132 12 (nI j) then a else b) = a := if_pos (mx_132 H hj)
theorem jx_133 {h : pb_HP} (H : ma_H h) {j : Nat} (hj : j < 6) {α : Type} {a b : α} : (if pb_ar h 133 12 (nI j) then a else b) = a := if_pos (mx_133 H hj)
theorem jx_134 {h : pb_HP} (H : ma_H h) {j : Nat} (hj : j < 6) {α : Type} {a b : α} : (if pb_ar h 134 12 (nI j) then a else b) = a := if_pos (mx_134 H hj)
theorem jx_135 {h : pb_HP} (H : ma_H h) {j : Nat} (hj : j < 6) {α : Type} {a b : α} : (if pb_ar h 135 12 (nI j) then a else b) = a := if_pos (mx_135 H hj)
theorem jx_136 {h : pb_HP} (H : ma_H h) {j : Nat} (hj : j < 6) {α : Type} {a b : α} : (if pb_ar h 136 12 (nI j) then a else b) = a := if_pos (mx_136 H hj)
theorem jx_137 {h : pb_HP} (H : ma_H h) {j : Nat} (hj : j < 36) {α : Type} {a b : α} : (if pb_ar h 137 12 (nI j) then a else b) = a := if_pos (mx_137 H hj)
theorem jx_138 {h : pb_HP} (H : ma_H h) {j : Nat} (hj : j < 2) {α : Type} {a b : α} : (if pb_ar h 138 16 (nI j) then a else b) = a := if_pos (mx_138 H hj)
theorem jx_140 {h : pb_HP} (H : ma_H h) {j : Nat} (hj : j < 40) {α : Type} {a b : α} : (if pb_ar h 140 12 (nI j) then a else b) = a := if_pos (mx_140 H hj)
theorem jx_141 {h : pb_HP} (H : ma_H h) {j : Nat} (hj : j < 40) {α : Type} {a b : α} : (if pb_ar h 141 12 (nI j) then a else b) = a := if_pos (mx_141 H hj)
theorem jx_142 {h : pb_HP} (H : ma_H h) {j : Nat} (hj : j < 40) {α : Type} {a b : α} : (if pb_ar h 142 12 (nI j) then a else b) = a := if_pos (mx_142 H hj)
theorem jx_143 {h : pb_HP} (H : ma_H h) {j : Nat} (hj : j < 40) {α : Type} {a b : α} : (if pb_ar h 143 12 (nI j) then a else b) = a := if_pos (mx_143 H hj)
theorem jx_145 {h : pb_HP} (H : ma_H h) {j : Nat} (hj : j < 40) {α : Type} {a b : α} : (if pb_ar h 145 12 (nI j) then a else b) = a := if_pos (mx_145 H hj)
theorem jx_146 {h : pb_HP} (H : ma_H h) {j : Nat} (hj : j < 40) {α : Type} {a b : α} : (if pb_ar h 146 12 (nI j) then a else b) = a := if_pos (mx_146 H hj)
theorem jx_147 {h : pb_HP} (H : ma_H h) {j : Nat} (hj : j < 40) {α : Type} {a b : α} : (if pb_ar h 147 12 (nI j) then a else b) = a := if_pos (mx_147 H hj)
theorem jx_148 {h : pb_HP} (H : ma_H h) {j : Nat} (hj : j < 40) {α : Type} {a b : α} : (if pb_ar h 148 12 (nI j) then a else b) = a := if_pos (mx_148 H hj)
theorem jx_149 {h : pb_HP} (H : ma_H h) {j : Nat} (hj : j < 2) {α : Type} {a b : α} : (if pb_ar h 149 16 (nI j) then a else b) = a := if_pos (mx_149 H hj)
theorem jx_151 {h : pb_HP} (H : ma_H h) {j : Nat} (hj : j < 8) {α : Type} {a b : α} : (if pb_ar h 151 12 (nI j) then a else b) = a := if_pos (mx_151 H hj)
theorem jx_152 {h : pb_HP} (H : ma_H h) {j : Nat} (hj : j < 8) {α : Type} {a b : α} : (if pb_ar h 152 12 (nI j) then a else b) = a := if_pos (mx_152 H hj)
theorem jx_153 {h : pb_HP} (H : ma_H h) {j : Nat} (hj : j < 8) {α : Type} {a b : α} : (if pb_ar h 153 12 (nI j) then a else b) = a := if_pos (mx_153 H hj)
theorem jx_154 {h : pb_HP} (H : ma_H h) {j : Nat} (hj : j < 8) {α : Type} {a b : α} : (if pb_ar h 154 12 (nI j) then a else b) = a := if_pos (mx_154 H hj)
theorem jx_156 {h : pb_HP} (H : ma_H h) {j : Nat} (hj : j < 8) {α : Type} {a b : α} : (if pb_ar h 156 12 (nI j) then a else b) = a := if_pos (mx_156 H hj)
theorem jx_157 {h : pb_HP} (H : ma_H h) {j : Nat} (hj : j < 8) {α : Type} {a b : α} : (if pb_ar h 157 12 (nI j) then a else b) = a := if_pos (mx_157 H hj)
theorem jx_158 {h : pb_HP} (H : ma_H h) {j : Nat} (hj : j < 8) {α : Type} {a b : α} : (if pb_ar h 158 12 (nI j) then a else b) = a := if_pos (mx_158 H hj)
theorem jx_159 {h : pb_HP} (H : ma_H h) {j : Nat} (hj : j < 8) {α : Type} {a b : α} : (if pb_ar h 159 12 (nI j) then a else b) = a := if_pos (mx_159 H hj)
theorem jx_160 {h : pb_HP} (H : ma_H h) {j : Nat} (hj : j < 3) {α : Type} {a b : α} : (if pb_ar h 160 12 (nI j) then a else b) = a := if_pos (mx_160 H hj)
theorem jx_161 {h : pb_HP} (H : ma_H h) {j : Nat} (hj : j < 600) {α : Type} {a b : α} : (if pb_ar h 161 13 (nI j) then a else b) = a := if_pos (mx_161 H hj)
theorem jx_162 {h : pb_HP} (H : ma_H h) {j : Nat} (hj : j < 3) {α : Type} {a b : α} : (if pb_ar h 162 14 (nI j) then a else b) = a := if_pos (mx_162 H hj)
theorem jx_165 {h : pb_HP} (H : ma_H h) {j : Nat} (hj : j < 6) {α : Type} {a b : α} : (if pb_ar h 165 12 (nI j) then a else b) = a := if_pos (mx_165 H hj)
theorem jx_166 {h : pb_HP} (H : ma_H h) {j : Nat} (hj : j < 6) {α : Type} {a b : α} : (if pb_ar h 166 12 (nI j) then a else b) = a := if_pos (mx_166 H hj)
theorem jx_167 {h : pb_HP} (H : ma_H h) {j : Nat} (hj : j < 6) {α : Type} {a b : α} : (if pb_ar h 167 12 (nI j) then a else b) = a := if_pos (mx_167 H hj)
theorem jx_168 {h : pb_HP} (H : ma_H h) {j : Nat} (hj : j < 6) {α : Type} {a b : α} : (if pb_ar h 168 12 (nI j) then a else b) = a := if_pos (mx_168 H hj)
theorem jx_169 {h : pb_HP} (H : ma_H h) {j : Nat} (hj : j < 6) {α : Type} {a b : α} : (if pb_ar h 169 12 (nI j) then a else b) = a := if_pos (mx_169 H hj)
theorem jx_170 {h : pb_HP} (H : ma_H h) {j : Nat} (hj : j < 36) {α : Type} {a b : α} : (if pb_ar h 170 12 (nI j) then a else b) = a := if_pos (mx_170 H hj)
theorem jx_172 {h : pb_HP} (H : ma_H h) {j : Nat} (hj : j < 40) {α : Type} {a b : α} : (if pb_ar h 172 12 (nI j) then a else b) = a := if_pos (mx_172 H hj)
theorem jx_173 {h : pb_HP} (H : ma_H h) {j : Nat} (hj : j < 40) {α : Type} {a b : α} : (if pb_ar h 173 12 (nI j) then a else b) = a := if_pos (mx_173 H hj)
theorem jx_174 {h : pb_HP} (H : ma_H h) {j : Nat} (hj : j < 40) {α : Type} {a b : α} : (if pb_ar h 174 12 (nI j) then a else b) = a := if_pos (mx_174 H hj)
theorem jx_175 {h : pb_HP} (H : ma_H h) {j : Nat} (hj : j < 40) {α : Type} {a b : α} : (if pb_ar h 175 12 (nI j) then a else b) = a := if_pos (mx_175 H hj)
theorem jx_177 {h : pb_HP} (H : ma_H h) {j : Nat} (hj : j < 8) {α : Type} {a b : α} : (if pb_ar h 177 12 (nI j) then a else b) = a := if_pos (mx_177 H hj)
theorem jx_178 {h : pb_HP} (H : ma_H h) {j : Nat} (hj : j < 8) {α : Type} {a b : α} : (if pb_ar h 178 12 (nI j) then a else b) = a := if_pos (mx_178 H hj)
theorem jx_179 {h : pb_HP} (H : ma_H h) {j : Nat} (hj : j < 8) {α : Type} {a b : α} : (if pb_ar h 179 12 (nI j) then a else b) = a := if_pos (mx_179 H hj)
theorem jx_180 {h : pb_HP} (H : ma_H h) {j : Nat} (hj : j < 8) {α : Type} {a b : α} : (if pb_ar h 180 12 (nI j) then a else b) = a := if_pos (mx_180 H hj)
theorem jx_181 {h : pb_HP} (H : ma_H h) {j : Nat} (hj : j < 3) {α : Type} {a b : α} : (if pb_ar h 181 12 (nI j) then a else b) = a := if_pos (mx_181 H hj)
theorem jx_183 {h : pb_HP} (H : ma_H h) {j : Nat} (hj : j < 6) {α : Type} {a b : α} : (if pb_ar h 183 12 (nI j) then a else b) = a := if_pos (mx_183 H hj)
theorem jx_186 {h : pb_HP} (H : ma_H h) {j : Nat} (hj : j < 6) {α : Type} {a b : α} : (if pb_ar h 186 12 (nI j) then a else b) = a := if_pos (mx_186 H hj)
theorem jx_187 {h : pb_HP} (H : ma_H h) {j : Nat} (hj : j < 6) {α : Type} {a b : α} : (if pb_ar h 187 12 (nI j) then a else b) = a := if_pos (mx_187 H hj)
theorem jx_188 {h : pb_HP} (H : ma_H h) {j : Nat} (hj : j < 6) {α : Type} {a b : α} : (if pb_ar h 188 12 (nI j) then a else b) = a := if_pos (mx_188 H hj)
theorem jx_189 {h : pb_HP} (H : ma_H h) {j : Nat} (hj : j < 6) {α : Type} {a b : α} : (if pb_ar h 189 12 (nI j) then a else b) = a := if_pos (mx_189 H hj)
theorem jx_190 {h : pb_HP} (H : ma_H h) {j : Nat} (hj : j < 6) {α : Type} {a b : α} : (if pb_ar h 190 12 (nI j) then a else b) = a := if_pos (mx_190 H hj)
theorem jx_191 {h : pb_HP} (H : ma_H h) {j : Nat} (hj : j < 36) {α : Type} {a b : α} : (if pb_ar h 191 12 (nI j) then a else b) = a := if_pos (mx_191 H hj)
theorem jx_193 {h : pb_HP} (H : ma_H h) {j : Nat} (hj : j < 6) {α : Type} {a b : α} : (if pb_ar h 193 12 (nI j) then a else b) = a := if_pos (mx_193 H hj)
theorem jx_195 {h : pb_HP} (H : ma_H h) {j : Nat} (hj : j < 6) {α : Type} {a b : α} : (if pb_ar h 195 12 (nI j) then a else b) = a := if_pos (mx_195 H hj)
theorem jx_196 {h : pb_HP} (H : ma_H h) {j : Nat} (hj : j < 36) {α : Type} {a b : α} : (if pb_ar h 196 12 (nI j) then a else b) = a := if_pos (mx_196 H hj)
theorem jx_197 {h : pb_HP} (H : ma_H h) {j : Nat} (hj : j < 6) {α : Type} {a b : α} : (if pb_ar h 197 12 (nI j) then a else b) = a := if_pos (mx_197 H hj)
theorem jx_199 {h : pb_HP} (H : ma_H h) {j : Nat} (hj : j < 6) {α : Type} {a b : α} : (if pb_ar h 199 12 (nI j) then a else b) = a := if_pos (mx_199 H hj)
theorem jx_202 {h : pb_HP} (H : ma_H h) {j : Nat} (hj : j < 6) {α : Type} {a b : α} : (if pb_ar h 202 12 (nI j) then a else b) = a := if_pos (mx_202 H hj)
theorem jx_203 {h : pb_HP} (H : ma_H h) {j : Nat} (hj : j < 6) {α : Type} {a b : α} : (if pb_ar h 203 12 (nI j) then a else b) = a := if_pos (mx_203 H hj)
theorem jx_204 {h : pb_HP} (H : ma_H h) {j : Nat} (hj : j < 6) {α : Type} {a b : α} : (if pb_ar h 204 12 (nI j) then a else b) = a := if_pos (mx_204 H hj)
theorem jx_205 {h : pb_HP} (H : ma_H h) {j : Nat} (hj : j < 6) {α : Type} {a b : α} : (if pb_ar h 205 12 (nI j) then a else b) = a := if_pos (mx_205 H hj)
theorem jx_206 {h : pb_HP} (H : ma_H h) {j : Nat} (hj : j < 6) {α : Type} {a b : α} : (if pb_ar h 206 12 (nI j) then a else b) = a := if_pos (mx_206 H hj)
theorem jx_207 {h : pb_HP} (H : ma_H h) {j : Nat} (hj : j < 36) {α : Type} {a b : α} : (if pb_ar h 207 12 (nI j) then a else b) = a := if_pos (mx_207 H hj)
theorem jx_209 {h : pb_HP} (H : ma_H h) {j : Nat} (hj : j < 6) {α : Type} {a b : α} : (if pb_ar h 209 12 (nI j) then a else b) = a := if_pos (mx_209 H hj)
theorem jx_210 {h : pb_HP} (H : ma_H h) {j : Nat} (hj : j < 6) {α : Type} {a b : α} : (if pb_ar h 210 12 (nI j) then a else b) = a := if_pos (mx_210 H hj)
theorem jx_211 {h : pb_HP} (H : ma_H h) {j : Nat} (hj : j < 6) {α : Type} {a b : α} : (if pb_ar h 211 12 (nI j) then a else b) = a := if_pos (mx_211 H hj)
theorem jx_213 {h : pb_HP} (H : ma_H h) {j : Nat} (hj : j < 729) {α : Type} {a b : α} : (if pb_ar h 213 12 (nI j) then a else b) = a := if_pos (mx_213 H hj)
theorem jx_214 {h : pb_HP} (H : ma_H h) {j : Nat} (hj : j < 729) {α : Type} {a b : α} : (if pb_ar h 214 12 (nI j) then a else b) = a := if_pos (mx_214 H hj)
theorem jx_215 {h : pb_HP} (H : ma_H h) {j : Nat} (hj : j < 6) {α : Type} {a b : α} : (if pb_ar h 215 12 (nI j) then a else b) = a := if_pos (mx_215 H hj)
theorem jx_216 {h : pb_HP} (H : ma_H h) {j : Nat} (hj : j < 36) {α : Type} {a b : α} : (if pb_ar h 216 12 (nI j) then a else b) = a := if_pos (mx_216 H hj)
theorem jx_218 {h : pb_HP} (H : ma_H h) {j : Nat} (hj : j < 2400) {α : Type} {a b : α} : (if pb_ar h 218 13 (nI j) then a else b) = a := if_pos (mx_218 H hj)
theorem jx_219 {h : pb_HP} (H : ma_H h) {j : Nat} (hj : j < 4) {α : Type} {a b : α} : (if pb_ar h 219 12 (nI j) then a else b) = a := if_pos (mx_219 H hj)
theorem jx_220 {h : pb_HP} (H : ma_H h) {j : Nat} (hj : j < 4) {α : Type} {a b : α} : (if pb_ar h 220 12 (nI j) then a else b) = a := if_pos (mx_220 H hj)
theorem jx_221 {h : pb_HP} (H : ma_H h) {j : Nat} (hj : j < 4) {α : Type} {a b : α} : (if pb_ar h 221 12 (nI j) then a else b) = a := if_pos (mx_221 H hj)
theorem jx_222 {h : pb_HP} (H : ma_H h) {j : Nat} (hj : j < 12) {α : Type} {a b : α} : (if pb_ar h 222 12 (nI j) then a else b) = a := if_pos (mx_222 H hj)
theorem jx_223 {h : pb_HP} (H : ma_H h) {j : Nat} (hj : j < 544) {α : Type} {a b : α} : (if pb_ar h 223 12 (nI j) then a else b) = a := if_pos (mx_223 H hj)
theorem jx_224 {h : pb_HP} (H : ma_H h) {j : Nat} (hj : j < 1288) {α : Type} {a b : α} : (if pb_ar h 224 12 (nI j) then a else b) = a := if_pos (mx_224 H hj)
theorem jx_225 {h : pb_HP} (H : ma_H h) {j : Nat} (hj : j < 200) {α : Type} {a b : α} : (if pb_ar h 225 12 (nI j) then a else b) = a := if_pos (mx_225 H hj)
theorem jx_226 {h : pb_HP} (H : ma_H h) {j : Nat} (hj : j < 161) {α : Type} {a b : α} : (if pb_ar h 226 12 (nI j) then a else b) = a := if_pos (mx_226 H hj)
theorem jx_227 {h : pb_HP} (H : ma_H h) {j : Nat} (hj : j < 4) {α : Type} {a b : α} : (if pb_ar h 227 12 (nI j) then a else b) = a := if_pos (mx_227 H hj)
theorem jx_228 {h : pb_HP} (H : ma_H h) {j : Nat} (hj : j < 6) {α : Type} {a b : α} : (if pb_ar h 228 12 (nI j) then a else b) = a := if_pos (mx_228 H hj)
theorem jx_229 {h : pb_HP} (H : ma_H h) {j : Nat} (hj : j < 6) {α : Type} {a b : α} : (if pb_ar h 229 12 (nI j) then a else b) = a := if_pos (mx_229 H hj)
theorem jx_230 {h : pb_HP} (H : ma_H h) {j : Nat} (hj : j < 6) {α : Type} {a b : α} : (if pb_ar h 230 12 (nI j) then a else b) = a := if_pos (mx_230 H hj)
theorem jx_231 {h : pb_HP} (H : ma_H h) {j : Nat} (hj : j < 6) {α : Type} {a b : α} : (if pb_ar h 231 12 (nI j) then a else b) = a := if_pos (mx_231 H hj)
theorem jx_232 {h : pb_HP} (H : ma_H h) {j : Nat} (hj : j < 36) {α : Type} {a b : α} : (if pb_ar h 232 12 (nI j) then a else b) = a := if_pos (mx_232 H hj)
theorem jx_233 {h : pb_HP} (H : ma_H h) {j : Nat} (hj : j < 6) {α : Type} {a b : α} : (if pb_ar h 233 12 (nI j) then a else b) = a := if_pos (mx_233 H hj)
theorem jx_234 {h : pb_HP} (H : ma_H h) {j : Nat} (hj : j < 2401) {α : Type} {a b : α} : (if pb_ar h 234 12 (nI j) then a else b) = a := if_pos (mx_234 H hj)
theorem jx_235 {h : pb_HP} (H : ma_H h) {j : Nat} (hj : j < 729) {α : Type} {a b : α} : (if pb_ar h 235 12 (nI j) then a else b) = a := if_pos (mx_235 H hj)
theorem jx_236 {h : pb_HP} (H : ma_H h) {j : Nat} (hj : j < 6) {α : Type} {a b : α} : (if pb_ar h 236 12 (nI j) then a else b) = a := if_pos (mx_236 H hj)
theorem jx_237 {h : pb_HP} (H : ma_H h) {j : Nat} (hj : j < 6) {α : Type} {a b : α} : (if pb_ar h 237 12 (nI j) then a else b) = a := if_pos (mx_237 H hj)
theorem jx_238 {h : pb_HP} (H : ma_H h) {j : Nat} (hj : j < 6) {α : Type} {a b : α} : (if pb_ar h 238 12 (nI j) then a else b) = a := if_pos (mx_238 H hj)
theorem jx_239 {h : pb_HP} (H : ma_H h) {j : Nat} (hj : j < 6) {α : Type} {a b : α} : (if pb_ar h 239 12 (nI j) then a else b) = a := if_pos (mx_239 H hj)
theorem jx_240 {h : pb_HP} (H : ma_H h) {j : Nat} (hj : j < 3) {α : Type} {a b : α} : (if pb_ar h 240 14 (nI j) then a else b) = a := if_pos (mx_240 H hj)
