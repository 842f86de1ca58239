theorem la_0 : 0 < NC := by decide
theorem ly_0 : lay 0 = (0, 11) := rfl
theorem la_1 : 1 < NC := by decide
theorem ly_1 : lay 1 = (0, 10) := rfl
theorem la_2 : 2 < NC := by decide
theorem ly_2 : lay 2 = (0, 3) := rfl
theorem la_3 : 3 < NC := by decide
theorem ly_3 : lay 3 = (1, 30) := rfl
theorem la_4 : 4 < NC := by decide
theorem ly_4 : lay 4 = (1, 30) := rfl
theorem la_5 : 5 < NC := by decide
theorem ly_5 : lay 5 = (1, 30) := rfl
theorem la_6 : 6 < NC := by decide
theorem ly_6 : lay 6 = (1, 150) := rfl
theorem la_7 : 7 < NC := by decide
theorem ly_7 : lay 7 = (1, 30) := rfl
theorem la_8 : 8 < NC := by decide
theorem ly_8 : lay 8 = (1, 30) := rfl
theorem la_9 : 9 < NC := by decide
theorem ly_9 : lay 9 = (0, 6) := rfl
theorem la_10 : 10 < NC := by decide
theorem ly_10 : lay 10 = (1, 30) := rfl
theorem la_11 : 11 < NC := by decide
theorem ly_11 : lay 11 = (1, 30) := rfl
theorem la_12 : 12 < NC := by decide
theorem ly_12 : lay 12 = (1, 30) := rfl
theorem la_13 : 13 < NC := by decide
theorem ly_13 : lay 13 = (1, 30) := rfl
theorem la_14 : 14 < NC := by decide
theorem ly_14 : lay 14 = (1, 30) := rfl
theorem la_15 : 15 < NC := by decide
theorem ly_15 : lay 15 = (1, 30) := rfl
theorem la_16 : 16 < NC := by decide
theorem ly_16 : lay 16 = (1, 30) := rfl
theorem la_17 : 17 < NC := by decide
theorem ly_17 : lay 17 = (1, 120) := rfl
theorem la_18 : 18 < NC := by decide
theorem ly_18 : lay 18 = (1, 120) := rfl
theorem la_19 : 19 < NC := by decide
theorem ly_19 : lay 19 = (1, 120) := rfl
theorem la_20 : 20 < NC := by decide
theorem ly_20 : lay 20 = (1, 120) := rfl
theorem la_21 : 21 < NC := by decide
theorem ly_21 : lay 21 = (1, 120) := rfl
theorem la_22 : 22 < NC := by decide
theorem ly_22 : lay 22 = (0, 2) := rfl
theorem la_23 : 23 < NC := by decide
theorem ly_23 : lay 23 = (0, 7) := rfl
theorem la_24 : 24 < NC := by decide
theorem ly_24 : lay 24 = (1, 12) := rfl
theorem la_25 : 25 < NC := by decide
theorem ly_25 : lay 25 = (1, 12) := rfl
theorem la_26 : 26 < NC := by decide
theorem ly_26 : lay 26 = (1, 12) := rfl
theorem la_27 : 27 < NC := by decide
theorem ly_27 : lay 27 = (1, 12) := rfl
theorem la_28 : 28 < NC := by decide
theorem ly_28 : lay 28 = (0, 4) := rfl
theorem la_29 : 29 < NC := by decide
theorem ly_29 : lay 29 = (1, 12) := rfl
theorem la_30 : 30 < NC := by decide
theorem ly_30 : lay 30 = (1, 12) := rfl
theorem la_31 : 31 < NC := by decide
theorem ly_31 : lay 31 = (1, 12) := rfl
theorem la_32 : 32 < NC := by decide
theorem ly_32 : lay 32 = (1, 400) := rfl
theorem la_33 : 33 < NC := by decide
theorem ly_33 : lay 33 = (0, 1) := rfl
theorem la_34 : 34 < NC := by decide
theorem ly_34 : lay 34 = (1, 40) := rfl
theorem la_35 : 35 < NC := by decide
theorem ly_35 : lay 35 = (1, 200) := rfl
theorem la_36 : 36 < NC := by decide
theorem ly_36 : lay 36 = (1, 5) := rfl
theorem la_37 : 37 < NC := by decide
theorem ly_37 : lay 37 = (1, 5) := rfl
theorem la_38 : 38 < NC := by decide
theorem ly_38 : lay 38 = (5, 3) := rfl
theorem la_39 : 39 < NC := by decide
theorem ly_39 : lay 39 = (4, 3) := rfl
theorem la_40 : 40 < NC := by decide
theorem ly_40 : lay 40 = (0, 2) := rfl
theorem la_41 : 41 < NC := by decide
theorem ly_41 : lay 41 = (0, 7) := rfl
theorem la_42 : 42 < NC := by decide
theorem ly_42 : lay 42 = (1, 12) := rfl
theorem la_43 : 43 < NC := by decide
theorem ly_43 : lay 43 = (1, 12) := rfl
theorem la_44 : 44 < NC := by decide
theorem ly_44 : lay 44 = (1, 12) := rfl
theorem la_45 : 45 < NC := by decide
theorem ly_45 : lay 45 = (1, 12) := rfl
theorem la_46 : 46 < NC := by decide
theorem ly_46 : lay 46 = (0, 4) := rfl
theorem la_47 : 47 < NC := by decide
theorem ly_47 : lay 47 = (1, 12) := rfl
theorem la_48 : 48 < NC := by decide
theorem ly_48 : lay 48 = (1, 12) := rfl
theorem la_49 : 49 < NC := by decide
theorem ly_49 : lay 49 = (1, 12) := rfl
theorem la_50 : 50 < NC := by decide
theorem ly_50 : lay 50 = (1, 400) := rfl
theorem la_51 : 51 < NC := by decide
theorem ly_51 : lay 51 = (0, 8) := rfl
theorem la_52 : 52 < NC := by decide
theorem ly_52 : lay 52 = (3, 400) := rfl
theorem la_53 : 53 < NC := by decide
theorem ly_53 : lay 53 = (0, 0) := rfl
theorem la_54 : 54 < NC := by decide
theorem ly_54 : lay 54 = (0, 9) := rfl
theorem la_55 : 55 < NC := by decide
theorem ly_55 : lay 55 = (1, 4) := rfl
theorem la_56 : 56 < NC := by decide
theorem ly_56 : lay 56 = (1, 4) := rfl
theorem la_57 : 57 < NC := by decide
theorem ly_57 : lay 57 = (2, 160) := rfl
theorem la_58 : 58 < NC := by decide
theorem ly_58 : lay 58 = (0, 5) := rfl
theorem la_59 : 59 < NC := by decide
theorem ly_59 : lay 59 = (1, 30) := rfl
theorem la_60 : 60 < NC := by decide
theorem ly_60 : lay 60 = (1, 12) := rfl
theorem la_61 : 61 < NC := by decide
theorem ly_61 : lay 61 = (1, 13) := rfl
theorem la_62 : 62 < NC := by decide
theorem ly_62 : lay 62 = (1, 13) := rfl
theorem la_63 : 63 < NC := by decide
theorem ly_63 : lay 63 = (0, 10) := rfl
theorem la_64 : 64 < NC := by decide
theorem ly_64 : lay 64 = (0, 3) := rfl
theorem la_65 : 65 < NC := by decide
theorem ly_65 : lay 65 = (1, 30) := rfl
theorem la_66 : 66 < NC := by decide
theorem ly_66 : lay 66 = (1, 30) := rfl
theorem la_67 : 67 < NC := by decide
theorem ly_67 : lay 67 = (1, 30) := rfl
theorem la_68 : 68 < NC := by decide
theorem ly_68 : lay 68 = (1, 150) := rfl
theorem la_69 : 69 < NC := by decide
theorem ly_69 : lay 69 = (1, 30) := rfl
theorem la_70 : 70 < NC := by decide
theorem ly_70 : lay 70 = (1, 30) := rfl
theorem la_71 : 71 < NC := by decide
theorem ly_71 : lay 71 = (0, 6) := rfl
theorem la_72 : 72 < NC := by decide
theorem ly_72 : lay 72 = (1, 30) := rfl
theorem la_73 : 73 < NC := by decide
theorem ly_73 : lay 73 = (1, 30) := rfl
theorem la_74 : 74 < NC := by decide
theorem ly_74 : lay 74 = (1, 30) := rfl
theorem la_75 : 75 < NC := by decide
theorem ly_75 : lay 75 = (1, 30) := rfl
theorem la_76 : 76 < NC := by decide
theorem ly_76 : lay 76 = (1, 30) := rfl
theorem la_77 : 77 < NC := by decide
theorem ly_77 : lay 77 = (1, 30) := rfl
theorem la_78 : 78 < NC := by decide
theorem ly_78 : lay 78 = (1, 30) := rfl
theorem la_79 : 79 < NC := by decide
theorem ly_79 : lay 79 = (1, 120) := rfl
theorem la_80 : 80 < NC := by decide
theorem ly_80 : lay 80 = (1, 120) := rfl
theorem la_81 : 81 < NC := by decide
theorem ly_81 : lay 81 = (1, 120) := rfl
theorem la_82 : 82 < NC := by decide
theorem ly_82 : lay 82 = (1, 120) := rfl
theorem la_83 : 83 < NC := by decide
theorem ly_83 : lay 83 = (1, 120) := rfl
theorem la_84 : 84 < NC := by decide
theorem ly_84 : lay 84 = (0, 2) := rfl
theorem la_85 : 85 < NC := by decide
theorem ly_85 : lay 85 = (0, 7) := rfl
theorem la_86 : 86 < NC := by decide
theorem ly_86 : lay 86 = (1, 12) := rfl
theorem la_87 : 87 < NC := by decide
theorem ly_87 : lay 87 = (1, 12) := rfl
theorem la_88 : 88 < NC := by decide
theorem ly_88 : lay 88 = (1, 12) := rfl
theorem la_89 : 89 < NC := by decide
theorem ly_89 : lay 89 = (1, 12) := rfl
theorem la_90 : 90 < NC := by decide
theorem ly_90 : lay 90 = (0, 4) := rfl
theorem la_91 : 91 < NC := by decide
theorem ly_91 : lay 91 = (1, 12) := rfl
theorem la_92 : 92 < NC := by decide
theorem ly_92 : lay 92 = (1, 12) := rfl
theorem la_93 : 93 < NC := by decide
theorem ly_93 : lay 93 = (1, 12) := rfl
theorem la_94 : 94 < NC := by decide
theorem ly_94 : lay 94 = (1, 400) := rfl
theorem la_95 : 95 < NC := by decide
theorem ly_95 : lay 95 = (0, 1) := rfl
theorem la_96 : 96 < NC := by decide
theorem ly_96 : lay 96 = (1, 40) := rfl
theorem la_97 : 97 < NC := by decide
theorem ly_97 : lay 97 = (1, 200) := rfl
theorem la_98 : 98 < NC := by decide
theorem ly_98 : lay 98 = (1, 5) := rfl
theorem la_99 : 99 < NC := by decide
theorem ly_99 : lay 99 = (1, 5) := rfl
theorem la_100 : 100 < NC := by decide
theorem ly_100 : lay 100 = (0, 10) := rfl
theorem la_101 : 101 < NC := by decide
theorem ly_101 : lay 101 = (0, 3) := rfl
theorem la_102 : 102 < NC := by decide
theorem ly_102 : lay 102 = (1, 30) := rfl
theorem la_103 : 103 < NC := by decide
theorem ly_103 : lay 103 = (1, 30) := rfl
theorem la_104 : 104 < NC := by decide
theorem ly_104 : lay 104 = (1, 30) := rfl
theorem la_105 : 105 < NC := by decide
theorem ly_105 : lay 105 = (1, 150) := rfl
theorem la_106 : 106 < NC := by decide
theorem ly_106 : lay 106 = (1, 30) := rfl
theorem la_107 : 107 < NC := by decide
theorem ly_107 : lay 107 = (1, 30) := rfl
theorem la_108 : 108 < NC := by decide
theorem ly_108 : lay 108 = (0, 6) := rfl
theorem la_109 : 109 < NC := by decide
theorem ly_109 : lay 109 = (1, 30) := rfl
theorem la_110 : 110 < NC := by decide
theorem ly_110 : lay 110 = (1, 30) := rfl
theorem la_111 : 111 < NC := by decide
theorem ly_111 : lay 111 = (1, 30) := rfl
theorem la_112 : 112 < NC := by decide
theorem ly_112 : lay 112 = (1, 30) := rfl
theorem la_113 : 113 < NC := by decide
theorem ly_113 : lay 113 = (1, 30) := rfl
theorem la_114 : 114 < NC := by decide
theorem ly_114 : lay 114 = (1, 30) := rfl
theorem la_115 : 115 < NC := by decide
theorem ly_115 : lay 115 = (1, 30) := rfl
theorem la_116 : 116 < NC := by decide
theorem ly_116 : lay 116 = (1, 120) := rfl
theorem la_117 : 117 < NC := by decide
theorem ly_117 : lay 117 = (1, 120) := rfl
theorem la_118 : 118 < NC := by decide
theorem ly_118 : lay 118 = (1, 120) := rfl
theorem la_119 : 119 < NC := by decide
theorem ly_119 : lay 119 = (1, 120) := rfl
theorem la_120 : 120 < NC := by decide
theorem ly_120 : lay 120 = (1, 120) := rfl
theorem la_121 : 121 < NC := by decide
theorem ly_121 : lay 121 = (0, 2) := rfl
theorem la_122 : 122 < NC := by decide
theorem ly_122 : lay 122 = (0, 7) := rfl
theorem la_123 : 123 < NC := by decide
theorem ly_123 : lay 123 = (1, 12) := rfl
theorem la_124 : 124 < NC := by decide
theorem ly_124 : lay 124 = (1, 12) := rfl
theorem la_125 : 125 < NC := by decide
theorem ly_125 : lay 125 = (1, 12) := rfl
theorem la_126 : 126 < NC := by decide
theorem ly_126 : lay 126 = (1, 12) := rfl
theorem la_127 : 127 < NC := by decide
theorem ly_127 : lay 127 = (0, 4) := rfl
theorem la_128 : 128 < NC := by decide
theorem ly_128 : lay 128 = (1, 12) := rfl
theorem la_129 : 129 < NC := by decide
theorem ly_129 : lay 129 = (1, 12) := rfl
theorem la_130 : 130 < NC := by decide
theorem ly_130 : lay 130 = (1, 12) := rfl
theorem la_131 : 131 < NC := by decide
theorem ly_131 : lay 131 = (1, 400) := rfl
theorem la_132 : 132 < NC := by decide
theorem ly_132 : lay 132 = (0, 1) := rfl
theorem la_133 : 133 < NC := by decide
theorem ly_133 : lay 133 = (1, 40) := rfl
theorem la_134 : 134 < NC := by decide
theorem ly_134 : lay 134 = (1, 200) := rfl
theorem la_135 : 135 < NC := by decide
theorem ly_135 : lay 135 = (1, 5) := rfl
theorem la_136 : 136 < NC := by decide
theorem ly_136 : lay 136 = (1, 5) := rfl
theorem la_137 : 137 < NC := by decide
theorem ly_137 : lay 137 = (0, 10) := rfl
theorem la_138 : 138 < NC := by decide
theorem ly_138 : lay 138 = (0, 3) := rfl
theorem la_139 : 139 < NC := by decide
theorem ly_139 : lay 139 = (1, 30) := rfl
theorem la_140 : 140 < NC := by decide
theorem ly_140 : lay 140 = (1, 30) := rfl
theorem la_141 : 141 < NC := by decide
theorem ly_141 : lay 141 = (1, 30) := rfl
theorem la_142 : 142 < NC := by decide
theorem ly_142 : lay 142 = (1, 150) := rfl
theorem la_143 : 143 < NC := by decide
theorem ly_143 : lay 143 = (1, 30) := rfl
theorem la_144 : 144 < NC := by decide
theorem ly_144 : lay 144 = (1, 30) := rfl
theorem la_145 : 145 < NC := by decide
theorem ly_145 : lay 145 = (0, 6) := rfl
theorem la_146 : 146 < NC := by decide
theorem ly_146 : lay 146 = (1, 30) := rfl
theorem la_147 : 147 < NC := by decide
theorem ly_147 : lay 147 = (1, 30) := rfl
theorem la_148 : 148 < NC := by decide
theorem ly_148 : lay 148 = (1, 30) := rfl
theorem la_149 : 149 < NC := by decide
theorem ly_149 : lay 149 = (1, 30) := rfl
theorem la_150 : 150 < NC := by decide
theorem ly_150 : lay 150 = (1, 30) := rfl
theorem la_151 : 151 < NC := by decide
theorem ly_151 : lay 151 = (1, 30) := rfl
theorem la_152 : 152 < NC := by decide
theorem ly_152 : lay 152 = (1, 30) := rfl
theorem la_153 : 153 < NC := by decide
theorem ly_153 : lay 153 = (1, 120) := rfl
theorem la_154 : 154 < NC := by decide
theorem ly_154 : lay 154 = (1, 120) := rfl
theorem la_155 : 155 < NC := by decide
theorem ly_155 : lay 155 = (1, 120) := rfl
theorem la_156 : 156 < NC := by decide
theorem ly_156 : lay 156 = (1, 120) := rfl
theorem la_157 : 157 < NC := by decide
theorem ly_157 : lay 157 = (1, 120) := rfl
theorem la_158 : 158 < NC := by decide
theorem ly_158 : lay 158 = (0, 2) := rfl
theorem la_159 : 159 < NC := by decide
theorem ly_159 : lay 159 = (0, 7) := rfl
theorem la_160 : 160 < NC := by decide
theorem ly_160 : lay 160 = (1, 12) := rfl
theorem la_161 : 161 < NC := by decide
theorem ly_161 : lay 161 = (1, 12) := rfl
theorem la_162 : 162 < NC := by decide
theorem ly_162 : lay 162 = (1, 12) := rfl
theorem la_163 : 163 < NC := by decide
theorem ly_163 : lay 163 = (1, 12) := rfl
theorem la_164 : 164 < NC := by decide
theorem ly_164 : lay 164 = (0, 4) := rfl
theorem la_165 : 165 < NC := by decide
theorem ly_165 : lay 165 = (1, 12) := rfl
theorem la_166 : 166 < NC := by decide
theorem ly_166 : lay 166 = (1, 12) := rfl
theorem la_167 : 167 < NC := by decide
theorem ly_167 : lay 167 = (1, 12) := rfl
theorem la_168 : 168 < NC := by decide
theorem ly_168 : lay 168 = (1, 400) := rfl
theorem la_169 : 169 < NC := by decide
theorem ly_169 : lay 169 = (0, 1) := rfl
theorem la_170 : 170 < NC := by decide
theorem ly_170 : lay 170 = (1, 40) := rfl
theorem la_171 : 171 < NC := by decide
theorem ly_171 : lay 171 = (1, 200) := rfl
theorem la_172 : 172 < NC := by decide
theorem ly_172 : lay 172 = (1, 5) := rfl
theorem la_173 : 173 < NC := by decide
theorem ly_173 : lay 173 = (1, 5) := rfl
theorem la_174 : 174 < NC := by decide
theorem ly_174 : lay 174 = (0, 12) := rfl
theorem la_175 : 175 < NC := by decide
theorem ly_175 : lay 175 = (1, 1604) := rfl
theorem la_176 : 176 < NC := by decide
theorem ly_176 : lay 176 = (1, 4812) := rfl
theorem la_177 : 177 < NC := by decide
theorem ly_177 : lay 177 = (4, 3) := rfl
theorem la_178 : 178 < NC := by decide
theorem ly_178 : lay 178 = (1, 400) := rfl
theorem la_179 : 179 < NC := by decide
theorem ly_179 : lay 179 = (1, 7) := rfl
theorem la_180 : 180 < NC := by decide
theorem ly_180 : lay 180 = (1, 48) := rfl
theorem la_181 : 181 < NC := by decide
theorem ly_181 : lay 181 = (1, 460) := rfl
theorem la_182 : 182 < NC := by decide
theorem ly_182 : lay 182 = (4, 900) := rfl
theorem la_183 : 183 < NC := by decide
theorem ly_183 : lay 183 = (4, 30) := rfl
theorem la_184 : 184 < NC := by decide
theorem ly_184 : lay 184 = (2, 4) := rfl
theorem la_185 : 185 < NC := by decide
theorem ly_185 : lay 185 = (2, 4) := rfl
theorem la_186 : 186 < NC := by decide
theorem ly_186 : lay 186 = (4, 401) := rfl
theorem la_187 : 187 < NC := by decide
theorem ly_187 : lay 187 = (1, 12) := rfl
theorem la_188 : 188 < NC := by decide
theorem ly_188 : lay 188 = (4, 30) := rfl
theorem la_189 : 189 < NC := by decide
theorem ly_189 : lay 189 = (4, 460) := rfl
theorem la_190 : 190 < NC := by decide
theorem ly_190 : lay 190 = (1, 30) := rfl
theorem la_191 : 191 < NC := by decide
theorem ly_191 : lay 191 = (1, 4) := rfl
theorem la_192 : 192 < NC := by decide
theorem ly_192 : lay 192 = (1, 4) := rfl
theorem la_193 : 193 < NC := by decide
theorem ly_193 : lay 193 = (2, 160) := rfl
theorem la_194 : 194 < NC := by decide
theorem ly_194 : lay 194 = (2, 1) := rfl
theorem uw_X0 : ∀ w ∈ u_ws RX0 TX0 2, w ∈ WG := by
  show ∀ w ∈ [u_lay RX0 TX0 0, u_lay RX0 TX0 1], w ∈ WG
  exact List.forall_mem_cons.mpr ⟨(wg2 122 rfl rfl), List.forall_mem_cons.mpr ⟨(wg2 124 rfl rfl), fun _ h => nomatch h⟩⟩
theorem uw_X1 : ∀ w ∈ u_ws RX1 TX1 5, w ∈ WG := by
  show ∀ w ∈ [u_lay RX1 TX1 0, u_lay RX1 TX1 1, u_lay RX1 TX1 2, u_lay RX1 TX1 3, u_lay RX1 TX1 4], w ∈ WG
  exact List.forall_mem_cons.mpr ⟨(wg2 27 rfl rfl), List.forall_mem_cons.mpr ⟨(wg2 29 rfl rfl), List.forall_mem_cons.mpr ⟨(wg2 31 rfl rfl), List.forall_mem_cons.mpr ⟨(wg2 33 rfl rfl), List.forall_mem_cons.mpr ⟨(wg2 35 rfl rfl), fun _ h => nomatch h⟩⟩⟩⟩⟩
theorem uw_X10 : ∀ w ∈ u_ws RX10 TX10 6, w ∈ WG := by
  show ∀ w ∈ [u_lay RX10 TX10 0, u_lay RX10 TX10 1, u_lay RX10 TX10 2, u_lay RX10 TX10 3, u_lay RX10 TX10 4, u_lay RX10 TX10 5], w ∈ WG
  exact List.forall_mem_cons.mpr ⟨(wg2 53 rfl rfl), List.forall_mem_cons.mpr ⟨(wg2 55 rfl rfl), List.forall_mem_cons.mpr ⟨(wg2 57 rfl rfl), List.forall_mem_cons.mpr ⟨(wg2 59 rfl rfl), List.forall_mem_cons.mpr ⟨(wg2 61 rfl rfl), List.forall_mem_cons.mpr ⟨(wg2 63 rfl rfl), fun _ h => nomatch h⟩⟩⟩⟩⟩⟩
theorem uw_X11 : ∀ w ∈ u_ws RX11 TX11 10, w ∈ WG := by
  show ∀ w ∈ [u_lay RX11 TX11 0, u_lay RX11 TX11 1, u_lay RX11 TX11 2, u_lay RX11 TX11 3, u_lay RX11 TX11 4, u_lay RX11 TX11 5, u_lay RX11 TX11 6, u_lay RX11 TX11 7, u_lay RX11 TX11 8, u_lay RX11 TX11 9], w ∈ WG
  exact List.forall_mem_cons.mpr ⟨(wg2 204 rfl rfl), List.forall_mem_cons.mpr ⟨(wg2 206 rfl rfl), List.forall_mem_cons.mpr ⟨(wg2 208 rfl rfl), List.forall_mem_cons.mpr ⟨(wg2 210 rfl rfl), List.forall_mem_cons.mpr ⟨(wg2 212 rfl rfl), List.forall_mem_cons.mpr ⟨(wg2 214 rfl rfl), List.forall_mem_cons.mpr ⟨(wg2 216 rfl rfl), List.forall_mem_cons.mpr ⟨(wg2 218 rfl rfl), List.forall_mem_cons.mpr ⟨(wg2 220 rfl rfl), List.forall_mem_cons.mpr ⟨(wg2 222 rfl rfl), fun _ h => nomatch h⟩⟩⟩⟩⟩⟩⟩⟩⟩⟩
theorem uw_X12 : ∀ w ∈ u_ws RX12 TX12 39, w ∈ WG := by
  show ∀ w ∈ [u_lay RX12 TX12 0, u_lay RX12 TX12 1, u_lay RX12 TX12 2, u_lay RX12 TX12 3, u_lay RX12 TX12 4, u_lay RX12 TX12 5, u_lay RX12 TX12 6, u_lay RX12 TX12 7, u_lay RX12 TX12 8, u_lay RX12 TX12 9, u_lay RX12 TX12 10, u_lay RX12 TX12 11, u_lay RX12 TX12 12, u_lay RX12 TX12 13, u_lay RX12 TX12 14, u_lay RX12 TX12 15, u_lay RX12 TX12 16, u_lay RX12 TX12 17, u_lay RX12 TX12 18, u_lay RX12 TX12 19, u_lay RX12 TX12 20, u_lay RX12 TX12 21, u_lay RX12 TX12 22, u_lay RX12 TX12 23, u_lay RX12 TX12 24, u_lay RX12 TX12 25, u_lay RX12 TX12 26, u_lay RX12 TX12 27, u_lay RX12 TX12 28, u_lay RX12 TX12 29, u_lay RX12 TX12 30, u_lay RX12 TX12 31, u_lay RX12 TX12 32, u_lay RX12 TX12 33, u_lay RX12 TX12 34, u_lay RX12 TX12 35, u_lay RX12 TX12 36, u_lay RX12 TX12 37, u_lay RX12 TX12 38], w ∈ WG
  exact List.forall_mem_cons.mpr ⟨(wg7 160 rfl rfl), List.forall_mem_cons.mpr ⟨(wg7 162 rfl rfl), List.forall_mem_cons.mpr ⟨(wg7 164 rfl rfl), List.forall_mem_cons.mpr ⟨(wg7 166 rfl rfl), List.forall_mem_cons.mpr ⟨(wg7 168 rfl rfl), List.forall_mem_cons.mpr ⟨(wg7 170 rfl rfl), List.forall_mem_cons.mpr ⟨(wg7 172 rfl rfl), List.forall_mem_cons.mpr ⟨(wg7 174 rfl rfl), List.forall_mem_cons.mpr ⟨(wg7 176 rfl rfl), List.forall_mem_cons.mpr ⟨(wg7 178 rfl rfl), List.forall_mem_cons.mpr ⟨(wg7 180 rfl rfl), List.forall_mem_cons.mpr ⟨(wg7 182 rfl rfl), List.forall_mem_cons.mpr ⟨(wg7 184 rfl rfl), List.forall_mem_cons.mpr ⟨(wg7 186 rfl rfl), List.forall_mem_cons.mpr ⟨(wg7 188 rfl rfl), List.forall_mem_cons.mpr ⟨(wg7 190 rfl rfl), List.forall_mem_cons.mpr ⟨(wg7 192 rfl rfl), List.forall_mem_cons.mpr ⟨(wg7 194 rfl rfl), List.forall_mem_cons.mpr ⟨(wg7 196 rfl rfl), List.forall_mem_cons.mpr ⟨(wg7 198 rfl rfl), List.forall_mem_cons.mpr ⟨(wg7 200 rfl rfl), List.forall_mem_cons.mpr ⟨(wg7 202 rfl rfl), List.forall_mem_cons.mpr ⟨(wg7 204 rfl rfl), List.forall_mem_cons.mpr ⟨(wg7 206 rfl rfl), List.forall_mem_cons.mpr ⟨(wg7 208 rfl rfl), List.forall_mem_cons.mpr ⟨(wg7 210 rfl rfl), List.forall_mem_cons.mpr ⟨(wg7 212 rfl rfl), List.forall_mem_cons.mpr ⟨(wg7 214 rfl rfl), List.forall_mem_cons.mpr ⟨(wg7 216 rfl rfl), List.forall_mem_cons.mpr ⟨(wg7 218 rfl rfl), List.forall_mem_cons.mpr ⟨(wg7 220 rfl rfl), List.forall_mem_cons.mpr ⟨(wg7 222 rfl rfl), List.forall_mem_cons.mpr ⟨(wg7 224 rfl rfl), List.forall_mem_cons.mpr ⟨(wg7 226 rfl rfl), List.forall_mem_cons.mpr ⟨(wg7 228 rfl rfl), List.forall_mem_cons.mpr ⟨(wg7 230 rfl rfl), List.forall_mem_cons.mpr ⟨(wg7 232 rfl rfl), List.forall_mem_cons.mpr ⟨(wg7 234 rfl rfl), List.forall_mem_cons.mpr ⟨(wg7 236 rfl rfl), fun _ h => nomatch h⟩⟩⟩⟩⟩⟩⟩⟩⟩⟩⟩⟩⟩⟩⟩⟩⟩⟩⟩⟩⟩⟩⟩⟩⟩⟩⟩⟩⟩⟩⟩⟩⟩⟩⟩⟩⟩⟩⟩
theorem uw_X2 : ∀ w ∈ u_ws RX2 TX2 8, w ∈ WG := by
  show ∀ w ∈ [u_lay RX2 TX2 0, u_lay RX2 TX2 1, u_lay RX2 TX2 2, u_lay RX2 TX2 3, u_lay RX2 TX2 4, u_lay RX2 TX2 5, u_lay RX2 TX2 6, u_lay RX2 TX2 7], w ∈ WG
  exact List.forall_mem_cons.mpr ⟨(wg1 175 rfl rfl), List.forall_mem_cons.mpr ⟨(wg1 177 rfl rfl), List.forall_mem_cons.mpr ⟨(wg1 179 rfl rfl), List.forall_mem_cons.mpr ⟨(wg1 181 rfl rfl), List.forall_mem_cons.mpr ⟨(wg1 183 rfl rfl), List.forall_mem_cons.mpr ⟨(wg1 185 rfl rfl), List.forall_mem_cons.mpr ⟨(wg1 187 rfl rfl), List.forall_mem_cons.mpr ⟨(wg1 189 rfl rfl), fun _ h => nomatch h⟩⟩⟩⟩⟩⟩⟩⟩
theorem uw_X3 : ∀ w ∈ u_ws RX3 TX3 8, w ∈ WG := by
  show ∀ w ∈ [u_lay RX3 TX3 0, u_lay RX3 TX3 1, u_lay RX3 TX3 2, u_lay RX3 TX3 3, u_lay RX3 TX3 4, u_lay RX3 TX3 5, u_lay RX3 TX3 6, u_lay RX3 TX3 7], w ∈ WG
  exact List.forall_mem_cons.mpr ⟨(wg1 69 rfl rfl), List.forall_mem_cons.mpr ⟨(wg1 71 rfl rfl), List.forall_mem_cons.mpr ⟨(wg1 73 rfl rfl), List.forall_mem_cons.mpr ⟨(wg1 75 rfl rfl), List.forall_mem_cons.mpr ⟨(wg1 77 rfl rfl), List.forall_mem_cons.mpr ⟨(wg1 79 rfl rfl), List.forall_mem_cons.mpr ⟨(wg1 81 rfl rfl), List.forall_mem_cons.mpr ⟨(wg1 83 rfl rfl), fun _ h => nomatch h⟩⟩⟩⟩⟩⟩⟩⟩
theorem uw_X4 : ∀ w ∈ u_ws RX4 TX4 6, w ∈ WG := by
  show ∀ w ∈ [u_lay RX4 TX4 0, u_lay RX4 TX4 1, u_lay RX4 TX4 2, u_lay RX4 TX4 3, u_lay RX4 TX4 4, u_lay RX4 TX4 5], w ∈ WG
  exact List.forall_mem_cons.mpr ⟨(wg1 233 rfl rfl), List.forall_mem_cons.mpr ⟨(wg1 235 rfl rfl), List.forall_mem_cons.mpr ⟨(wg1 237 rfl rfl), List.forall_mem_cons.mpr ⟨(wg1 239 rfl rfl), List.forall_mem_cons.mpr ⟨(wg2 1 rfl rfl), List.forall_mem_cons.mpr ⟨(wg2 3 rfl rfl), fun _ h => nomatch h⟩⟩⟩⟩⟩⟩
theorem uw_X5 : ∀ w ∈ u_ws RX5 TX5 12, w ∈ WG := by
  show ∀ w ∈ [u_lay RX5 TX5 0, u_lay RX5 TX5 1, u_lay RX5 TX5 2, u_lay RX5 TX5 3, u_lay RX5 TX5 4, u_lay RX5 TX5 5, u_lay RX5 TX5 6, u_lay RX5 TX5 7, u_lay RX5 TX5 8, u_lay RX5 TX5 9, u_lay RX5 TX5 10, u_lay RX5 TX5 11], w ∈ WG
  exact List.forall_mem_cons.mpr ⟨(wg2 169 rfl rfl), List.forall_mem_cons.mpr ⟨(wg2 171 rfl rfl), List.forall_mem_cons.mpr ⟨(wg2 173 rfl rfl), List.forall_mem_cons.mpr ⟨(wg2 175 rfl rfl), List.forall_mem_cons.mpr ⟨(wg2 177 rfl rfl), List.forall_mem_cons.mpr ⟨(wg2 179 rfl rfl), List.forall_mem_cons.mpr ⟨(wg2 181 rfl rfl), List.forall_mem_cons.mpr ⟨(wg2 183 rfl rfl), List.forall_mem_cons.mpr ⟨(wg2 185 rfl rfl), List.forall_mem_cons.mpr ⟨(wg2 187 rfl rfl), List.forall_mem_cons.mpr ⟨(wg2 189 rfl rfl), List.forall_mem_cons.mpr ⟨(wg2 191 rfl rfl), fun _ h => nomatch h⟩⟩⟩⟩⟩⟩⟩⟩⟩⟩⟩⟩
theorem uw_X6 : ∀ w ∈ u_ws RX6 TX6 13, w ∈ WG := by
  show ∀ w ∈ [u_lay RX6 TX6 0, u_lay RX6 TX6 1, u_lay RX6 TX6 2, u_lay RX6 TX6 3, u_lay RX6 TX6 4, u_lay RX6 TX6 5, u_lay RX6 TX6 6, u_lay RX6 TX6 7, u_lay RX6 TX6 8, u_lay RX6 TX6 9, u_lay RX6 TX6 10, u_lay RX6 TX6 11, u_lay RX6 TX6 12], w ∈ WG
  exact List.forall_mem_cons.mpr ⟨(wg1 120 rfl rfl), List.forall_mem_cons.mpr ⟨(wg1 122 rfl rfl), List.forall_mem_cons.mpr ⟨(wg1 124 rfl rfl), List.forall_mem_cons.mpr ⟨(wg1 126 rfl rfl), List.forall_mem_cons.mpr ⟨(wg1 128 rfl rfl), List.forall_mem_cons.mpr ⟨(wg1 130 rfl rfl), List.forall_mem_cons.mpr ⟨(wg1 132 rfl rfl), List.forall_mem_cons.mpr ⟨(wg1 134 rfl rfl), List.forall_mem_cons.mpr ⟨(wg1 136 rfl rfl), List.forall_mem_cons.mpr ⟨(wg1 138 rfl rfl), List.forall_mem_cons.mpr ⟨(wg1 140 rfl rfl), List.forall_mem_cons.mpr ⟨(wg1 142 rfl rfl), List.forall_mem_cons.mpr ⟨(wg1 144 rfl rfl), fun _ h => nomatch h⟩⟩⟩⟩⟩⟩⟩⟩⟩⟩⟩⟩⟩
theorem uw_X7 : ∀ w ∈ u_ws RX7 TX7 5, w ∈ WG := by
  show ∀ w ∈ [u_lay RX7 TX7 0, u_lay RX7 TX7 1, u_lay RX7 TX7 2, u_lay RX7 TX7 3, u_lay RX7 TX7 4], w ∈ WG
  exact List.forall_mem_cons.mpr ⟨(wg1 204 rfl rfl), List.forall_mem_cons.mpr ⟨(wg1 206 rfl rfl), List.forall_mem_cons.mpr ⟨(wg1 208 rfl rfl), List.forall_mem_cons.mpr ⟨(wg1 210 rfl rfl), List.forall_mem_cons.mpr ⟨(wg1 212 rfl rfl), fun _ h => nomatch h⟩⟩⟩⟩⟩
theorem uw_X8 : ∀ w ∈ u_ws RX8 TX8 9, w ∈ WG := by
  show ∀ w ∈ [u_lay RX8 TX8 0, u_lay RX8 TX8 1, u_lay RX8 TX8 2, u_lay RX8 TX8 3, u_lay RX8 TX8 4, u_lay RX8 TX8 5, u_lay RX8 TX8 6, u_lay RX8 TX8 7, u_lay RX8 TX8 8], w ∈ WG
  exact List.forall_mem_cons.mpr ⟨(wg2 91 rfl rfl), List.forall_mem_cons.mpr ⟨(wg2 93 rfl rfl), List.forall_mem_cons.mpr ⟨(wg2 95 rfl rfl), List.forall_mem_cons.mpr ⟨(wg2 97 rfl rfl), List.forall_mem_cons.mpr ⟨(wg2 99 rfl rfl), List.forall_mem_cons.mpr ⟨(wg2 101 rfl rfl), List.forall_mem_cons.mpr ⟨(wg2 103 rfl rfl), List.forall_mem_cons.mpr ⟨(wg2 105 rfl rfl), List.forall_mem_cons.mpr ⟨(wg2 107 rfl rfl), fun _ h => nomatch h⟩⟩⟩⟩⟩⟩⟩⟩⟩
theorem uw_X9 : ∀ w ∈ u_ws RX9 TX9 3, w ∈ WG := by
  show ∀ w ∈ [u_lay RX9 TX9 0, u_lay RX9 TX9 1, u_lay RX9 TX9 2], w ∈ WG
  exact List.forall_mem_cons.mpr ⟨(wg2 137 rfl rfl), List.forall_mem_cons.mpr ⟨(wg2 139 rfl rfl), List.forall_mem_cons.mpr ⟨(wg2 141 rfl rfl), fun _ h => nomatch h⟩⟩⟩
theorem fl_X11_10 : FL RX11 10 11 0 := ⟨RX11, TX11, 10, rfl, uw_X11, by decide, (wg2 194 rfl rfl)⟩
theorem fl_X11_16 : FL RX11 16 11 1 := ⟨RX11, TX11, 10, rfl, uw_X11, by decide, (wg2 195 rfl rfl)⟩
theorem fl_X11_20 : FL RX11 20 11 2 := ⟨RX11, TX11, 10, rfl, uw_X11, by decide, (wg2 196 rfl rfl)⟩
theorem fl_X11_27 : FL RX11 27 11 3 := ⟨RX11, TX11, 10, rfl, uw_X11, by decide, (wg2 197 rfl rfl)⟩
theorem fl_X11_34 : FL RX11 34 11 4 := ⟨RX11, TX11, 10, rfl, uw_X11, by decide, (wg2 198 rfl rfl)⟩
theorem fl_X11_41 : FL RX11 41 11 5 := ⟨RX11, TX11, 10, rfl, uw_X11, by decide, (wg2 199 rfl rfl)⟩
theorem fl_X11_48 : FL RX11 48 11 6 := ⟨RX11, TX11, 10, rfl, uw_X11, by decide, (wg2 200 rfl rfl)⟩
theorem fl_X11_55 : FL RX11 55 11 7 := ⟨RX11, TX11, 10, rfl, uw_X11, by decide, (wg2 201 rfl rfl)⟩
theorem fl_X11_62 : FL RX11 62 11 8 := ⟨RX11, TX11, 10, rfl, uw_X11, by decide, (wg2 202 rfl rfl)⟩
theorem fl_X11_69 : FL RX11 69 11 9 := ⟨RX11, TX11, 10, rfl, uw_X11, by decide, (wg2 203 rfl rfl)⟩
theorem fl_X11_77 : FL RX11 77 10 0 := ⟨RX10, TX10, 6, rfl, uw_X10, by decide, (wg2 39 rfl rfl)⟩
theorem fl_X11_95 : FL RX11 95 3 5 := ⟨RX3, TX3, 8, rfl, uw_X3, by decide, (wg1 63 rfl rfl)⟩
theorem fl_X11_106 : FL RX11 106 3 3 := ⟨RX3, TX3, 8, rfl, uw_X3, by decide, (wg1 58 rfl rfl)⟩
theorem fl_X11_122 : FL RX11 122 10 1 := ⟨RX10, TX10, 6, rfl, uw_X10, by decide, (wg2 42 rfl rfl)⟩
theorem fl_X11_134 : FL RX11 134 6 5 := ⟨RX6, TX6, 13, rfl, uw_X6, by decide, (wg1 107 rfl rfl)⟩
theorem fl_X11_137 : FL RX11 137 10 2 := ⟨RX10, TX10, 6, rfl, uw_X10, by decide, (wg2 45 rfl rfl)⟩
theorem fl_X11_144 : FL RX11 144 3 2 := ⟨RX3, TX3, 8, rfl, uw_X3, by decide, (wg1 54 rfl rfl)⟩
theorem fl_X11_147 : FL RX11 147 3 4 := ⟨RX3, TX3, 8, rfl, uw_X3, by decide, (wg1 60 rfl rfl)⟩
theorem fl_X11_150 : FL RX11 150 3 6 := ⟨RX3, TX3, 8, rfl, uw_X3, by decide, (wg1 67 rfl rfl)⟩
theorem fl_X11_159 : FL RX11 159 8 1 := ⟨RX8, TX8, 9, rfl, uw_X8, by decide, (wg2 81 rfl rfl)⟩
theorem fl_X11_177 : FL RX11 177 8 2 := ⟨RX8, TX8, 9, rfl, uw_X8, by decide, (wg2 83 rfl rfl)⟩
theorem fl_X11_191 : FL RX11 191 2 0 := ⟨RX2, TX2, 8, rfl, uw_X2, by decide, (wg1 158 rfl rfl)⟩
theorem fl_X11_195 : FL RX11 195 10 3 := ⟨RX10, TX10, 6, rfl, uw_X10, by decide, (wg2 47 rfl rfl)⟩
theorem fl_X11_201 : FL RX11 201 7 0 := ⟨RX7, TX7, 5, rfl, uw_X7, by decide, (wg1 199 rfl rfl)⟩
theorem fl_X11_203 : FL RX11 203 10 4 := ⟨RX10, TX10, 6, rfl, uw_X10, by decide, (wg2 50 rfl rfl)⟩
theorem fl_X11_209 : FL RX11 209 4 0 := ⟨RX4, TX4, 6, rfl, uw_X4, by decide, (wg1 223 rfl rfl)⟩
theorem fl_X11_212 : FL RX11 212 8 3 := ⟨RX8, TX8, 9, rfl, uw_X8, by decide, (wg2 85 rfl rfl)⟩
theorem fl_X11_223 : FL RX11 223 6 12 := ⟨RX6, TX6, 13, rfl, uw_X6, by decide, (wg1 119 rfl rfl)⟩
theorem fl_X11_226 : FL RX11 226 6 11 := ⟨RX6, TX6, 13, rfl, uw_X6, by decide, (wg1 117 rfl rfl)⟩
theorem fl_X11_229 : FL RX11 229 6 6 := ⟨RX6, TX6, 13, rfl, uw_X6, by decide, (wg1 110 rfl rfl)⟩
theorem fl_X11_232 : FL RX11 232 6 7 := ⟨RX6, TX6, 13, rfl, uw_X6, by decide, (wg1 112 rfl rfl)⟩
theorem fl_X11_263 : FL RX11 263 2 3 := ⟨RX2, TX2, 8, rfl, uw_X2, by decide, (wg1 164 rfl rfl)⟩
theorem fl_X11_266 : FL RX11 266 2 2 := ⟨RX2, TX2, 8, rfl, uw_X2, by decide, (wg1 162 rfl rfl)⟩
theorem fl_X11_278 : FL RX11 278 3 0 := ⟨RX3, TX3, 8, rfl, uw_X3, by decide, (wg1 50 rfl rfl)⟩
theorem fl_X11_301 : FL RX11 301 2 6 := ⟨RX2, TX2, 8, rfl, uw_X2, by decide, (wg1 171 rfl rfl)⟩
theorem fl_X11_306 : FL RX11 306 0 0 := ⟨RX0, TX0, 2, rfl, uw_X0, by decide, (wg2 119 rfl rfl)⟩
theorem fl_X11_310 : FL RX11 310 0 1 := ⟨RX0, TX0, 2, rfl, uw_X0, by decide, (wg2 121 rfl rfl)⟩
theorem fl_X11_313 : FL RX11 313 10 5 := ⟨RX10, TX10, 6, rfl, uw_X10, by decide, (wg2 52 rfl rfl)⟩
theorem fl_X11_317 : FL RX11 317 1 0 := ⟨RX1, TX1, 5, rfl, uw_X1, by decide, (wg2 14 rfl rfl)⟩
theorem fp_X11_317 : FP RX11 317 1 0 .int := ⟨RX1, TX1, 5, tyX1, rfl, uw_X1, by decide, (wg2 14 rfl rfl), tyX1_ok, nmX1, rfl, by decide +kernel⟩
theorem fl_X11_320 : FL RX11 320 1 1 := ⟨RX1, TX1, 5, rfl, uw_X1, by decide, (wg2 17 rfl rfl)⟩
theorem fl_X11_321 : FL RX11 321 1 2 := ⟨RX1, TX1, 5, rfl, uw_X1, by decide, (wg2 20 rfl rfl)⟩
theorem fl_X11_345 : FL RX11 345 9 1 := ⟨RX9, TX9, 3, rfl, uw_X9, by decide, (wg2 135 rfl rfl)⟩
theorem fl_X11_354 : FL RX11 354 1 4 := ⟨RX1, TX1, 5, rfl, uw_X1, by decide, (wg2 26 rfl rfl)⟩
theorem fl_X11_357 : FL RX11 357 1 3 := ⟨RX1, TX1, 5, rfl, uw_X1, by decide, (wg2 23 rfl rfl)⟩
theorem fl_X11_379 : FL RX11 379 5 0 := ⟨RX5, TX5, 12, rfl, uw_X5, by decide, (wg2 152 rfl rfl)⟩
theorem fl_X11_382 : FL RX11 382 5 1 := ⟨RX5, TX5, 12, rfl, uw_X5, by decide, (wg2 154 rfl rfl)⟩
theorem fl_X11_385 : FL RX11 385 5 2 := ⟨RX5, TX5, 12, rfl, uw_X5, by decide, (wg2 156 rfl rfl)⟩
theorem fl_X11_392 : FL RX11 392 5 3 := ⟨RX5, TX5, 12, rfl, uw_X5, by decide, (wg2 158 rfl rfl)⟩
theorem fl_X11_395 : FL RX11 395 5 5 := ⟨RX5, TX5, 12, rfl, uw_X5, by decide, (wg2 162 rfl rfl)⟩
theorem fl_X11_398 : FL RX11 398 5 4 := ⟨RX5, TX5, 12, rfl, uw_X5, by decide, (wg2 160 rfl rfl)⟩
theorem fl_X11_435 : FL RX11 435 6 0 := ⟨RX6, TX6, 13, rfl, uw_X6, by decide, (wg1 96 rfl rfl)⟩
theorem fl_X11_436 : FL RX11 436 3 1 := ⟨RX3, TX3, 8, rfl, uw_X3, by decide, (wg1 52 rfl rfl)⟩
theorem fl_X11_439 : FL RX11 439 2 1 := ⟨RX2, TX2, 8, rfl, uw_X2, by decide, (wg1 160 rfl rfl)⟩
theorem fl_X11_442 : FL RX11 442 2 4 := ⟨RX2, TX2, 8, rfl, uw_X2, by decide, (wg1 166 rfl rfl)⟩
theorem fl_X11_445 : FL RX11 445 2 5 := ⟨RX2, TX2, 8, rfl, uw_X2, by decide, (wg1 168 rfl rfl)⟩
theorem fl_X11_448 : FL RX11 448 2 7 := ⟨RX2, TX2, 8, rfl, uw_X2, by decide, (wg1 174 rfl rfl)⟩
theorem fl_X0_17 : FL RX0 17 0 0 := ⟨RX0, TX0, 2, rfl, uw_X0, by decide, (wg2 118 rfl rfl)⟩
theorem fp_X0_17 : FP RX0 17 0 0 .long := ⟨RX0, TX0, 2, tyX0, rfl, uw_X0, by decide, (wg2 118 rfl rfl), tyX0_ok, nmX0, rfl, by decide +kernel⟩
theorem fl_X0_21 : FL RX0 21 0 1 := ⟨RX0, TX0, 2, rfl, uw_X0, by decide, (wg2 120 rfl rfl)⟩
theorem fp_X0_21 : FP RX0 21 0 1 .long := ⟨RX0, TX0, 2, tyX0, rfl, uw_X0, by decide, (wg2 120 rfl rfl), tyX0_ok, nmX0, rfl, by decide +kernel⟩
theorem fl_X1_9 : FL RX1 9 1 1 := ⟨RX1, TX1, 5, rfl, uw_X1, by decide, (wg2 15 rfl rfl)⟩
theorem fl_X1_15 : FL RX1 15 1 2 := ⟨RX1, TX1, 5, rfl, uw_X1, by decide, (wg2 18 rfl rfl)⟩
theorem fl_X1_18 : FL RX1 18 1 3 := ⟨RX1, TX1, 5, rfl, uw_X1, by decide, (wg2 21 rfl rfl)⟩
theorem fl_X1_21 : FL RX1 21 1 4 := ⟨RX1, TX1, 5, rfl, uw_X1, by decide, (wg2 24 rfl rfl)⟩
theorem fl_X1_24 : FL RX1 24 1 0 := ⟨RX1, TX1, 5, rfl, uw_X1, by decide, (wg2 12 rfl rfl)⟩
theorem fp_X1_24 : FP RX1 24 1 0 .int := ⟨RX1, TX1, 5, tyX1, rfl, uw_X1, by decide, (wg2 12 rfl rfl), tyX1_ok, nmX1, rfl, by decide +kernel⟩
theorem fl_X2_14 : FL RX2 14 2 0 := ⟨RX2, TX2, 8, rfl, uw_X2, by decide, (wg1 157 rfl rfl)⟩
theorem fp_X2_14 : FP RX2 14 2 0 .int := ⟨RX2, TX2, 8, tyX2, rfl, uw_X2, by decide, (wg1 157 rfl rfl), tyX2_ok, nmX2, rfl, by decide +kernel⟩
theorem fl_X2_18 : FL RX2 18 2 1 := ⟨RX2, TX2, 8, rfl, uw_X2, by decide, (wg1 159 rfl rfl)⟩
theorem fp_X2_18 : FP RX2 18 2 1 .int := ⟨RX2, TX2, 8, tyX2, rfl, uw_X2, by decide, (wg1 159 rfl rfl), tyX2_ok, nmX2, rfl, by decide +kernel⟩
theorem fl_X2_21 : FL RX2 21 2 2 := ⟨RX2, TX2, 8, rfl, uw_X2, by decide, (wg1 161 rfl rfl)⟩
theorem fp_X2_21 : FP RX2 21 2 2 .int := ⟨RX2, TX2, 8, tyX2, rfl, uw_X2, by decide, (wg1 161 rfl rfl), tyX2_ok, nmX2, rfl, by decide +kernel⟩
theorem fl_X2_24 : FL RX2 24 2 3 := ⟨RX2, TX2, 8, rfl, uw_X2, by decide, (wg1 163 rfl rfl)⟩
theorem fp_X2_24 : FP RX2 24 2 3 .int := ⟨RX2, TX2, 8, tyX2, rfl, uw_X2, by decide, (wg1 163 rfl rfl), tyX2_ok, nmX2, rfl, by decide +kernel⟩
theorem fl_X2_27 : FL RX2 27 2 4 := ⟨RX2, TX2, 8, rfl, uw_X2, by decide, (wg1 165 rfl rfl)⟩
theorem fp_X2_27 : FP RX2 27 2 4 .int := ⟨RX2, TX2, 8, tyX2, rfl, uw_X2, by decide, (wg1 165 rfl rfl), tyX2_ok, nmX2, rfl, by decide +kernel⟩
theorem fl_X2_30 : FL RX2 30 2 5 := ⟨RX2, TX2, 8, rfl, uw_X2, by decide, (wg1 167 rfl rfl)⟩
theorem fp_X2_30 : FP RX2 30 2 5 .int := ⟨RX2, TX2, 8, tyX2, rfl, uw_X2, by decide, (wg1 167 rfl rfl), tyX2_ok, nmX2, rfl, by decide +kernel⟩
theorem fl_X2_33 : FL RX2 33 2 6 := ⟨RX2, TX2, 8, rfl, uw_X2, by decide, (wg1 169 rfl rfl)⟩
theorem fp_X2_33 : FP RX2 33 2 6 .int := ⟨RX2, TX2, 8, tyX2, rfl, uw_X2, by decide, (wg1 169 rfl rfl), tyX2_ok, nmX2, rfl, by decide +kernel⟩
theorem fl_X2_36 : FL RX2 36 2 7 := ⟨RX2, TX2, 8, rfl, uw_X2, by decide, (wg1 172 rfl rfl)⟩
theorem fp_X2_36 : FP RX2 36 2 7 .int := ⟨RX2, TX2, 8, tyX2, rfl, uw_X2, by decide, (wg1 172 rfl rfl), tyX2_ok, nmX2, rfl, by decide +kernel⟩
theorem fl_X3_9 : FL RX3 9 3 2 := ⟨RX3, TX3, 8, rfl, uw_X3, by decide, (wg1 53 rfl rfl)⟩
theorem fl_X3_15 : FL RX3 15 3 3 := ⟨RX3, TX3, 8, rfl, uw_X3, by decide, (wg1 57 rfl rfl)⟩
theorem fl_X3_18 : FL RX3 18 3 4 := ⟨RX3, TX3, 8, rfl, uw_X3, by decide, (wg1 59 rfl rfl)⟩
theorem fl_X3_21 : FL RX3 21 3 5 := ⟨RX3, TX3, 8, rfl, uw_X3, by decide, (wg1 62 rfl rfl)⟩
theorem fl_X3_24 : FL RX3 24 3 6 := ⟨RX3, TX3, 8, rfl, uw_X3, by decide, (wg1 65 rfl rfl)⟩
theorem fl_X3_27 : FL RX3 27 3 7 := ⟨RX3, TX3, 8, rfl, uw_X3, by decide, (wg1 68 rfl rfl)⟩
theorem fl_X3_30 : FL RX3 30 3 0 := ⟨RX3, TX3, 8, rfl, uw_X3, by decide, (wg1 48 rfl rfl)⟩
theorem fp_X3_30 : FP RX3 30 3 0 .int := ⟨RX3, TX3, 8, tyX3, rfl, uw_X3, by decide, (wg1 48 rfl rfl), tyX3_ok, nmX3, rfl, by decide +kernel⟩
theorem fl_X3_34 : FL RX3 34 3 1 := ⟨RX3, TX3, 8, rfl, uw_X3, by decide, (wg1 51 rfl rfl)⟩
theorem fp_X3_34 : FP RX3 34 3 1 .int := ⟨RX3, TX3, 8, tyX3, rfl, uw_X3, by decide, (wg1 51 rfl rfl), tyX3_ok, nmX3, rfl, by decide +kernel⟩
theorem fl_X4_9 : FL RX4 9 4 2 := ⟨RX4, TX4, 6, rfl, uw_X4, by decide, (wg1 225 rfl rfl)⟩
theorem fl_X4_15 : FL RX4 15 4 3 := ⟨RX4, TX4, 6, rfl, uw_X4, by decide, (wg1 227 rfl rfl)⟩
theorem fl_X4_18 : FL RX4 18 4 4 := ⟨RX4, TX4, 6, rfl, uw_X4, by decide, (wg1 229 rfl rfl)⟩
theorem fl_X4_21 : FL RX4 21 4 5 := ⟨RX4, TX4, 6, rfl, uw_X4, by decide, (wg1 231 rfl rfl)⟩
theorem fl_X4_24 : FL RX4 24 4 0 := ⟨RX4, TX4, 6, rfl, uw_X4, by decide, (wg1 221 rfl rfl)⟩
theorem fp_X4_24 : FP RX4 24 4 0 .int := ⟨RX4, TX4, 6, tyX4, rfl, uw_X4, by decide, (wg1 221 rfl rfl), tyX4_ok, nmX4, rfl, by decide +kernel⟩
theorem fl_X4_28 : FL RX4 28 4 1 := ⟨RX4, TX4, 6, rfl, uw_X4, by decide, (wg1 224 rfl rfl)⟩
theorem fp_X4_28 : FP RX4 28 4 1 .int := ⟨RX4, TX4, 6, tyX4, rfl, uw_X4, by decide, (wg1 224 rfl rfl), tyX4_ok, nmX4, rfl, by decide +kernel⟩
theorem fl_X5_9 : FL RX5 9 5 5 := ⟨RX5, TX5, 12, rfl, uw_X5, by decide, (wg2 161 rfl rfl)⟩
theorem fl_X5_15 : FL RX5 15 5 9 := ⟨RX5, TX5, 12, rfl, uw_X5, by decide, (wg2 166 rfl rfl)⟩
theorem fl_X5_18 : FL RX5 18 5 10 := ⟨RX5, TX5, 12, rfl, uw_X5, by decide, (wg2 167 rfl rfl)⟩
theorem fl_X5_21 : FL RX5 21 5 11 := ⟨RX5, TX5, 12, rfl, uw_X5, by decide, (wg2 168 rfl rfl)⟩
theorem fl_X5_34 : FL RX5 34 5 2 := ⟨RX5, TX5, 12, rfl, uw_X5, by decide, (wg2 155 rfl rfl)⟩
theorem fp_X5_34 : FP RX5 34 5 2 .int := ⟨RX5, TX5, 12, tyX5, rfl, uw_X5, by decide, (wg2 155 rfl rfl), tyX5_ok, nmX5, rfl, by decide +kernel⟩
theorem fl_X5_44 : FL RX5 44 5 1 := ⟨RX5, TX5, 12, rfl, uw_X5, by decide, (wg2 153 rfl rfl)⟩
theorem fp_X5_44 : FP RX5 44 5 1 .int := ⟨RX5, TX5, 12, tyX5, rfl, uw_X5, by decide, (wg2 153 rfl rfl), tyX5_ok, nmX5, rfl, by decide +kernel⟩
theorem fl_X5_55 : FL RX5 55 5 0 := ⟨RX5, TX5, 12, rfl, uw_X5, by decide, (wg2 151 rfl rfl)⟩
theorem fp_X5_55 : FP RX5 55 5 0 .int := ⟨RX5, TX5, 12, tyX5, rfl, uw_X5, by decide, (wg2 151 rfl rfl), tyX5_ok, nmX5, rfl, by decide +kernel⟩
theorem fl_X5_58 : FL RX5 58 6 0 := ⟨RX6, TX6, 13, rfl, uw_X6, by decide, (wg1 94 rfl rfl)⟩
theorem fl_X5_61 : FL RX5 61 6 5 := ⟨RX6, TX6, 13, rfl, uw_X6, by decide, (wg1 106 rfl rfl)⟩
theorem fl_X5_68 : FL RX5 68 6 4 := ⟨RX6, TX6, 13, rfl, uw_X6, by decide, (wg1 104 rfl rfl)⟩
theorem fl_X5_71 : FL RX5 71 6 3 := ⟨RX6, TX6, 13, rfl, uw_X6, by decide, (wg1 102 rfl rfl)⟩
theorem fl_X5_78 : FL RX5 78 5 3 := ⟨RX5, TX5, 12, rfl, uw_X5, by decide, (wg2 157 rfl rfl)⟩
theorem fp_X5_78 : FP RX5 78 5 3 .int := ⟨RX5, TX5, 12, tyX5, rfl, uw_X5, by decide, (wg2 157 rfl rfl), tyX5_ok, nmX5, rfl, by decide +kernel⟩
theorem fl_X5_81 : FL RX5 81 5 6 := ⟨RX5, TX5, 12, rfl, uw_X5, by decide, (wg2 163 rfl rfl)⟩
theorem fp_X5_81 : FP RX5 81 5 6 .int := ⟨RX5, TX5, 12, tyX5, rfl, uw_X5, by decide, (wg2 163 rfl rfl), tyX5_ok, nmX5, rfl, by decide +kernel⟩
theorem fl_X5_84 : FL RX5 84 5 7 := ⟨RX5, TX5, 12, rfl, uw_X5, by decide, (wg2 164 rfl rfl)⟩
theorem fp_X5_84 : FP RX5 84 5 7 .int := ⟨RX5, TX5, 12, tyX5, rfl, uw_X5, by decide, (wg2 164 rfl rfl), tyX5_ok, nmX5, rfl, by decide +kernel⟩
theorem fl_X5_87 : FL RX5 87 10 1 := ⟨RX10, TX10, 6, rfl, uw_X10, by decide, (wg2 43 rfl rfl)⟩
theorem fl_X5_93 : FL RX5 93 5 4 := ⟨RX5, TX5, 12, rfl, uw_X5, by decide, (wg2 159 rfl rfl)⟩
theorem fp_X5_93 : FP RX5 93 5 4 .int := ⟨RX5, TX5, 12, tyX5, rfl, uw_X5, by decide, (wg2 159 rfl rfl), tyX5_ok, nmX5, rfl, by decide +kernel⟩
theorem fl_X5_96 : FL RX5 96 5 8 := ⟨RX5, TX5, 12, rfl, uw_X5, by decide, (wg2 165 rfl rfl)⟩
theorem fp_X5_96 : FP RX5 96 5 8 .int := ⟨RX5, TX5, 12, tyX5, rfl, uw_X5, by decide, (wg2 165 rfl rfl), tyX5_ok, nmX5, rfl, by decide +kernel⟩
theorem fl_X5_99 : FL RX5 99 10 0 := ⟨RX10, TX10, 6, rfl, uw_X10, by decide, (wg2 40 rfl rfl)⟩
theorem fl_X5_103 : FL RX5 103 3 0 := ⟨RX3, TX3, 8, rfl, uw_X3, by decide, (wg1 49 rfl rfl)⟩
theorem fl_X5_117 : FL RX5 117 10 4 := ⟨RX10, TX10, 6, rfl, uw_X10, by decide, (wg2 49 rfl rfl)⟩
theorem fl_X5_121 : FL RX5 121 4 0 := ⟨RX4, TX4, 6, rfl, uw_X4, by decide, (wg1 222 rfl rfl)⟩
theorem fl_X5_130 : FL RX5 130 6 2 := ⟨RX6, TX6, 13, rfl, uw_X6, by decide, (wg1 100 rfl rfl)⟩
theorem fl_X5_133 : FL RX5 133 4 2 := ⟨RX4, TX4, 6, rfl, uw_X4, by decide, (wg1 226 rfl rfl)⟩
theorem fl_X5_138 : FL RX5 138 4 3 := ⟨RX4, TX4, 6, rfl, uw_X4, by decide, (wg1 228 rfl rfl)⟩
theorem fl_X5_141 : FL RX5 141 4 4 := ⟨RX4, TX4, 6, rfl, uw_X4, by decide, (wg1 230 rfl rfl)⟩
theorem fl_X5_144 : FL RX5 144 4 5 := ⟨RX4, TX4, 6, rfl, uw_X4, by decide, (wg1 232 rfl rfl)⟩
theorem fl_X5_151 : FL RX5 151 3 2 := ⟨RX3, TX3, 8, rfl, uw_X3, by decide, (wg1 55 rfl rfl)⟩
theorem fl_X5_154 : FL RX5 154 6 1 := ⟨RX6, TX6, 13, rfl, uw_X6, by decide, (wg1 98 rfl rfl)⟩
theorem fl_X6_9 : FL RX6 9 6 1 := ⟨RX6, TX6, 13, rfl, uw_X6, by decide, (wg1 97 rfl rfl)⟩
theorem fl_X6_15 : FL RX6 15 6 2 := ⟨RX6, TX6, 13, rfl, uw_X6, by decide, (wg1 99 rfl rfl)⟩
theorem fl_X6_18 : FL RX6 18 6 3 := ⟨RX6, TX6, 13, rfl, uw_X6, by decide, (wg1 101 rfl rfl)⟩
theorem fl_X6_21 : FL RX6 21 6 4 := ⟨RX6, TX6, 13, rfl, uw_X6, by decide, (wg1 103 rfl rfl)⟩
theorem fl_X6_24 : FL RX6 24 6 5 := ⟨RX6, TX6, 13, rfl, uw_X6, by decide, (wg1 105 rfl rfl)⟩
theorem fl_X6_27 : FL RX6 27 6 6 := ⟨RX6, TX6, 13, rfl, uw_X6, by decide, (wg1 108 rfl rfl)⟩
theorem fl_X6_30 : FL RX6 30 6 7 := ⟨RX6, TX6, 13, rfl, uw_X6, by decide, (wg1 111 rfl rfl)⟩
theorem fl_X6_33 : FL RX6 33 6 8 := ⟨RX6, TX6, 13, rfl, uw_X6, by decide, (wg1 113 rfl rfl)⟩
theorem fl_X6_36 : FL RX6 36 6 9 := ⟨RX6, TX6, 13, rfl, uw_X6, by decide, (wg1 114 rfl rfl)⟩
theorem fl_X6_39 : FL RX6 39 6 10 := ⟨RX6, TX6, 13, rfl, uw_X6, by decide, (wg1 115 rfl rfl)⟩
theorem fl_X6_42 : FL RX6 42 6 11 := ⟨RX6, TX6, 13, rfl, uw_X6, by decide, (wg1 116 rfl rfl)⟩
theorem fl_X6_45 : FL RX6 45 6 12 := ⟨RX6, TX6, 13, rfl, uw_X6, by decide, (wg1 118 rfl rfl)⟩
theorem fl_X6_48 : FL RX6 48 6 0 := ⟨RX6, TX6, 13, rfl, uw_X6, by decide, (wg1 93 rfl rfl)⟩
theorem fp_X6_48 : FP RX6 48 6 0 .int := ⟨RX6, TX6, 13, tyX6, rfl, uw_X6, by decide, (wg1 93 rfl rfl), tyX6_ok, nmX6, rfl, by decide +kernel⟩
theorem fl_X7_9 : FL RX7 9 7 1 := ⟨RX7, TX7, 5, rfl, uw_X7, by decide, (wg1 200 rfl rfl)⟩
theorem fl_X7_15 : FL RX7 15 7 2 := ⟨RX7, TX7, 5, rfl, uw_X7, by decide, (wg1 201 rfl rfl)⟩
theorem fl_X7_18 : FL RX7 18 7 3 := ⟨RX7, TX7, 5, rfl, uw_X7, by decide, (wg1 202 rfl rfl)⟩
theorem fl_X7_21 : FL RX7 21 7 4 := ⟨RX7, TX7, 5, rfl, uw_X7, by decide, (wg1 203 rfl rfl)⟩
theorem fl_X7_24 : FL RX7 24 7 0 := ⟨RX7, TX7, 5, rfl, uw_X7, by decide, (wg1 198 rfl rfl)⟩
theorem fp_X7_24 : FP RX7 24 7 0 .int := ⟨RX7, TX7, 5, tyX7, rfl, uw_X7, by decide, (wg1 198 rfl rfl), tyX7_ok, nmX7, rfl, by decide +kernel⟩
theorem fl_X8_9 : FL RX8 9 8 0 := ⟨RX8, TX8, 9, rfl, uw_X8, by decide, (wg2 79 rfl rfl)⟩
theorem fl_X8_15 : FL RX8 15 8 3 := ⟨RX8, TX8, 9, rfl, uw_X8, by decide, (wg2 84 rfl rfl)⟩
theorem fp_X8_15 : FP RX8 15 8 3 .int := ⟨RX8, TX8, 9, tyX8, rfl, uw_X8, by decide, (wg2 84 rfl rfl), tyX8_ok, nmX8, rfl, by decide +kernel⟩
theorem fl_X8_19 : FL RX8 19 8 1 := ⟨RX8, TX8, 9, rfl, uw_X8, by decide, (wg2 80 rfl rfl)⟩
theorem fp_X8_19 : FP RX8 19 8 1 .int := ⟨RX8, TX8, 9, tyX8, rfl, uw_X8, by decide, (wg2 80 rfl rfl), tyX8_ok, nmX8, rfl, by decide +kernel⟩
theorem fl_X8_28 : FL RX8 28 8 4 := ⟨RX8, TX8, 9, rfl, uw_X8, by decide, (wg2 86 rfl rfl)⟩
theorem fp_X8_28 : FP RX8 28 8 4 .int := ⟨RX8, TX8, 9, tyX8, rfl, uw_X8, by decide, (wg2 86 rfl rfl), tyX8_ok, nmX8, rfl, by decide +kernel⟩
theorem fl_X8_31 : FL RX8 31 8 5 := ⟨RX8, TX8, 9, rfl, uw_X8, by decide, (wg2 87 rfl rfl)⟩
theorem fp_X8_31 : FP RX8 31 8 5 .int := ⟨RX8, TX8, 9, tyX8, rfl, uw_X8, by decide, (wg2 87 rfl rfl), tyX8_ok, nmX8, rfl, by decide +kernel⟩
theorem fl_X8_34 : FL RX8 34 8 2 := ⟨RX8, TX8, 9, rfl, uw_X8, by decide, (wg2 82 rfl rfl)⟩
theorem fp_X8_34 : FP RX8 34 8 2 .int := ⟨RX8, TX8, 9, tyX8, rfl, uw_X8, by decide, (wg2 82 rfl rfl), tyX8_ok, nmX8, rfl, by decide +kernel⟩
theorem fl_X8_40 : FL RX8 40 8 7 := ⟨RX8, TX8, 9, rfl, uw_X8, by decide, (wg2 89 rfl rfl)⟩
theorem fp_X8_40 : FP RX8 40 8 7 .int := ⟨RX8, TX8, 9, tyX8, rfl, uw_X8, by decide, (wg2 89 rfl rfl), tyX8_ok, nmX8, rfl, by decide +kernel⟩
theorem fl_X8_43 : FL RX8 43 8 6 := ⟨RX8, TX8, 9, rfl, uw_X8, by decide, (wg2 88 rfl rfl)⟩
theorem fp_X8_43 : FP RX8 43 8 6 .int := ⟨RX8, TX8, 9, tyX8, rfl, uw_X8, by decide, (wg2 88 rfl rfl), tyX8_ok, nmX8, rfl, by decide +kernel⟩
theorem fl_X8_54 : FL RX8 54 8 8 := ⟨RX8, TX8, 9, rfl, uw_X8, by decide, (wg2 90 rfl rfl)⟩
theorem fp_X8_54 : FP RX8 54 8 8 .int := ⟨RX8, TX8, 9, tyX8, rfl, uw_X8, by decide, (wg2 90 rfl rfl), tyX8_ok, nmX8, rfl, by decide +kernel⟩
theorem fl_X9_11 : FL RX9 11 9 0 := ⟨RX9, TX9, 3, rfl, uw_X9, by decide, (wg2 133 rfl rfl)⟩
theorem fl_X9_15 : FL RX9 15 9 1 := ⟨RX9, TX9, 3, rfl, uw_X9, by decide, (wg2 134 rfl rfl)⟩
theorem fl_X9_18 : FL RX9 18 9 2 := ⟨RX9, TX9, 3, rfl, uw_X9, by decide, (wg2 136 rfl rfl)⟩
theorem fl_X10_12 : FL RX10 12 10 0 := ⟨RX10, TX10, 6, rfl, uw_X10, by decide, (wg2 38 rfl rfl)⟩
theorem fl_X10_21 : FL RX10 21 10 1 := ⟨RX10, TX10, 6, rfl, uw_X10, by decide, (wg2 41 rfl rfl)⟩
theorem fl_X10_28 : FL RX10 28 10 2 := ⟨RX10, TX10, 6, rfl, uw_X10, by decide, (wg2 44 rfl rfl)⟩
theorem fl_X10_35 : FL RX10 35 10 3 := ⟨RX10, TX10, 6, rfl, uw_X10, by decide, (wg2 46 rfl rfl)⟩
theorem fl_X10_42 : FL RX10 42 10 4 := ⟨RX10, TX10, 6, rfl, uw_X10, by decide, (wg2 48 rfl rfl)⟩
theorem fl_X10_49 : FL RX10 49 10 5 := ⟨RX10, TX10, 6, rfl, uw_X10, by decide, (wg2 51 rfl rfl)⟩
theorem fl_X10_92 : FL RX10 92 3 6 := ⟨RX3, TX3, 8, rfl, uw_X3, by decide, (wg1 66 rfl rfl)⟩
theorem fl_X10_104 : FL RX10 104 6 0 := ⟨RX6, TX6, 13, rfl, uw_X6, by decide, (wg1 95 rfl rfl)⟩
theorem fl_X10_108 : FL RX10 108 6 6 := ⟨RX6, TX6, 13, rfl, uw_X6, by decide, (wg1 109 rfl rfl)⟩
theorem fl_X10_111 : FL RX10 111 2 6 := ⟨RX2, TX2, 8, rfl, uw_X2, by decide, (wg1 170 rfl rfl)⟩
theorem fl_X10_133 : FL RX10 133 1 0 := ⟨RX1, TX1, 5, rfl, uw_X1, by decide, (wg2 13 rfl rfl)⟩
theorem fl_X10_134 : FL RX10 134 1 1 := ⟨RX1, TX1, 5, rfl, uw_X1, by decide, (wg2 16 rfl rfl)⟩
theorem fl_X10_139 : FL RX10 139 3 5 := ⟨RX3, TX3, 8, rfl, uw_X3, by decide, (wg1 64 rfl rfl)⟩
theorem fl_X10_142 : FL RX10 142 1 2 := ⟨RX1, TX1, 5, rfl, uw_X1, by decide, (wg2 19 rfl rfl)⟩
theorem fl_X10_148 : FL RX10 148 2 7 := ⟨RX2, TX2, 8, rfl, uw_X2, by decide, (wg1 173 rfl rfl)⟩
theorem fl_X10_178 : FL RX10 178 1 3 := ⟨RX1, TX1, 5, rfl, uw_X1, by decide, (wg2 22 rfl rfl)⟩
theorem fl_X10_181 : FL RX10 181 1 4 := ⟨RX1, TX1, 5, rfl, uw_X1, by decide, (wg2 25 rfl rfl)⟩
theorem fl_X10_184 : FL RX10 184 3 2 := ⟨RX3, TX3, 8, rfl, uw_X3, by decide, (wg1 56 rfl rfl)⟩
theorem fl_X10_187 : FL RX10 187 3 4 := ⟨RX3, TX3, 8, rfl, uw_X3, by decide, (wg1 61 rfl rfl)⟩
theorem fl_X12_9 : FL RX12 9 12 0 := ⟨RX12, TX12, 39, rfl, uw_X12, by decide, (wg7 121 rfl rfl)⟩
theorem fl_X12_13 : FL RX12 13 12 1 := ⟨RX12, TX12, 39, rfl, uw_X12, by decide, (wg7 122 rfl rfl)⟩
theorem fl_X12_16 : FL RX12 16 12 2 := ⟨RX12, TX12, 39, rfl, uw_X12, by decide, (wg7 123 rfl rfl)⟩
theorem fl_X12_20 : FL RX12 20 12 4 := ⟨RX12, TX12, 39, rfl, uw_X12, by decide, (wg7 125 rfl rfl)⟩
theorem fl_X12_23 : FL RX12 23 12 5 := ⟨RX12, TX12, 39, rfl, uw_X12, by decide, (wg7 126 rfl rfl)⟩
theorem fl_X12_26 : FL RX12 26 12 6 := ⟨RX12, TX12, 39, rfl, uw_X12, by decide, (wg7 127 rfl rfl)⟩
theorem fl_X12_29 : FL RX12 29 12 16 := ⟨RX12, TX12, 39, rfl, uw_X12, by decide, (wg7 137 rfl rfl)⟩
theorem fp_X12_29 : FP RX12 29 12 16 .int := ⟨RX12, TX12, 39, tyX12, rfl, uw_X12, by decide, (wg7 137 rfl rfl), tyX12_ok, nmX12, rfl, by decide +kernel⟩
theorem fl_X12_33 : FL RX12 33 12 17 := ⟨RX12, TX12, 39, rfl, uw_X12, by decide, (wg7 138 rfl rfl)⟩
theorem fl_X12_36 : FL RX12 36 12 25 := ⟨RX12, TX12, 39, rfl, uw_X12, by decide, (wg7 146 rfl rfl)⟩
theorem fl_X12_39 : FL RX12 39 12 26 := ⟨RX12, TX12, 39, rfl, uw_X12, by decide, (wg7 147 rfl rfl)⟩
theorem fl_X12_42 : FL RX12 42 12 27 := ⟨RX12, TX12, 39, rfl, uw_X12, by decide, (wg7 148 rfl rfl)⟩
theorem fl_X12_46 : FL RX12 46 12 28 := ⟨RX12, TX12, 39, rfl, uw_X12, by decide, (wg7 149 rfl rfl)⟩
theorem fl_X12_49 : FL RX12 49 12 29 := ⟨RX12, TX12, 39, rfl, uw_X12, by decide, (wg7 150 rfl rfl)⟩
theorem fl_X12_52 : FL RX12 52 12 30 := ⟨RX12, TX12, 39, rfl, uw_X12, by decide, (wg7 151 rfl rfl)⟩
theorem fl_X12_55 : FL RX12 55 12 32 := ⟨RX12, TX12, 39, rfl, uw_X12, by decide, (wg7 153 rfl rfl)⟩
theorem fl_X12_58 : FL RX12 58 12 33 := ⟨RX12, TX12, 39, rfl, uw_X12, by decide, (wg7 154 rfl rfl)⟩
theorem fl_X12_61 : FL RX12 61 12 34 := ⟨RX12, TX12, 39, rfl, uw_X12, by decide, (wg7 155 rfl rfl)⟩
theorem fl_X12_64 : FL RX12 64 12 36 := ⟨RX12, TX12, 39, rfl, uw_X12, by decide, (wg7 157 rfl rfl)⟩
theorem fl_X12_67 : FL RX12 67 12 37 := ⟨RX12, TX12, 39, rfl, uw_X12, by decide, (wg7 158 rfl rfl)⟩
theorem fl_X12_70 : FL RX12 70 12 38 := ⟨RX12, TX12, 39, rfl, uw_X12, by decide, (wg7 159 rfl rfl)⟩
theorem fl_X12_76 : FL RX12 76 12 3 := ⟨RX12, TX12, 39, rfl, uw_X12, by decide, (wg7 124 rfl rfl)⟩
theorem fp_X12_76 : FP RX12 76 12 3 .int := ⟨RX12, TX12, 39, tyX12, rfl, uw_X12, by decide, (wg7 124 rfl rfl), tyX12_ok, nmX12, rfl, by decide +kernel⟩
theorem fl_X12_133 : FL RX12 133 12 7 := ⟨RX12, TX12, 39, rfl, uw_X12, by decide, (wg7 128 rfl rfl)⟩
theorem fp_X12_133 : FP RX12 133 12 7 .int := ⟨RX12, TX12, 39, tyX12, rfl, uw_X12, by decide, (wg7 128 rfl rfl), tyX12_ok, nmX12, rfl, by decide +kernel⟩
theorem fl_X12_136 : FL RX12 136 12 8 := ⟨RX12, TX12, 39, rfl, uw_X12, by decide, (wg7 129 rfl rfl)⟩
theorem fp_X12_136 : FP RX12 136 12 8 .int := ⟨RX12, TX12, 39, tyX12, rfl, uw_X12, by decide, (wg7 129 rfl rfl), tyX12_ok, nmX12, rfl, by decide +kernel⟩
theorem fl_X12_139 : FL RX12 139 12 9 := ⟨RX12, TX12, 39, rfl, uw_X12, by decide, (wg7 130 rfl rfl)⟩
theorem fp_X12_139 : FP RX12 139 12 9 .int := ⟨RX12, TX12, 39, tyX12, rfl, uw_X12, by decide, (wg7 130 rfl rfl), tyX12_ok, nmX12, rfl, by decide +kernel⟩
theorem fl_X12_142 : FL RX12 142 12 10 := ⟨RX12, TX12, 39, rfl, uw_X12, by decide, (wg7 131 rfl rfl)⟩
theorem fp_X12_142 : FP RX12 142 12 10 .int := ⟨RX12, TX12, 39, tyX12, rfl, uw_X12, by decide, (wg7 131 rfl rfl), tyX12_ok, nmX12, rfl, by decide +kernel⟩
theorem fl_X12_145 : FL RX12 145 12 11 := ⟨RX12, TX12, 39, rfl, uw_X12, by decide, (wg7 132 rfl rfl)⟩
theorem fp_X12_145 : FP RX12 145 12 11 .int := ⟨RX12, TX12, 39, tyX12, rfl, uw_X12, by decide, (wg7 132 rfl rfl), tyX12_ok, nmX12, rfl, by decide +kernel⟩
theorem fl_X12_157 : FL RX12 157 12 12 := ⟨RX12, TX12, 39, rfl, uw_X12, by decide, (wg7 133 rfl rfl)⟩
theorem fp_X12_157 : FP RX12 157 12 12 .int := ⟨RX12, TX12, 39, tyX12, rfl, uw_X12, by decide, (wg7 133 rfl rfl), tyX12_ok, nmX12, rfl, by decide +kernel⟩
theorem fl_X12_160 : FL RX12 160 12 13 := ⟨RX12, TX12, 39, rfl, uw_X12, by decide, (wg7 134 rfl rfl)⟩
theorem fp_X12_160 : FP RX12 160 12 13 .int := ⟨RX12, TX12, 39, tyX12, rfl, uw_X12, by decide, (wg7 134 rfl rfl), tyX12_ok, nmX12, rfl, by decide +kernel⟩
theorem fl_X12_163 : FL RX12 163 12 14 := ⟨RX12, TX12, 39, rfl, uw_X12, by decide, (wg7 135 rfl rfl)⟩
theorem fp_X12_163 : FP RX12 163 12 14 .int := ⟨RX12, TX12, 39, tyX12, rfl, uw_X12, by decide, (wg7 135 rfl rfl), tyX12_ok, nmX12, rfl, by decide +kernel⟩
theorem fl_X12_187 : FL RX12 187 12 15 := ⟨RX12, TX12, 39, rfl, uw_X12, by decide, (wg7 136 rfl rfl)⟩
theorem fp_X12_187 : FP RX12 187 12 15 .int := ⟨RX12, TX12, 39, tyX12, rfl, uw_X12, by decide, (wg7 136 rfl rfl), tyX12_ok, nmX12, rfl, by decide +kernel⟩
theorem fl_X12_232 : FL RX12 232 12 18 := ⟨RX12, TX12, 39, rfl, uw_X12, by decide, (wg7 139 rfl rfl)⟩
theorem fp_X12_232 : FP RX12 232 12 18 .int := ⟨RX12, TX12, 39, tyX12, rfl, uw_X12, by decide, (wg7 139 rfl rfl), tyX12_ok, nmX12, rfl, by decide +kernel⟩
theorem fl_X12_235 : FL RX12 235 12 19 := ⟨RX12, TX12, 39, rfl, uw_X12, by decide, (wg7 140 rfl rfl)⟩
theorem fp_X12_235 : FP RX12 235 12 19 .int := ⟨RX12, TX12, 39, tyX12, rfl, uw_X12, by decide, (wg7 140 rfl rfl), tyX12_ok, nmX12, rfl, by decide +kernel⟩
theorem fl_X12_337 : FL RX12 337 12 20 := ⟨RX12, TX12, 39, rfl, uw_X12, by decide, (wg7 141 rfl rfl)⟩
theorem fp_X12_337 : FP RX12 337 12 20 .long := ⟨RX12, TX12, 39, tyX12, rfl, uw_X12, by decide, (wg7 141 rfl rfl), tyX12_ok, nmX12, rfl, by decide +kernel⟩
theorem fl_X12_341 : FL RX12 341 12 21 := ⟨RX12, TX12, 39, rfl, uw_X12, by decide, (wg7 142 rfl rfl)⟩
theorem fp_X12_341 : FP RX12 341 12 21 .long := ⟨RX12, TX12, 39, tyX12, rfl, uw_X12, by decide, (wg7 142 rfl rfl), tyX12_ok, nmX12, rfl, by decide +kernel⟩
theorem fl_X12_344 : FL RX12 344 12 22 := ⟨RX12, TX12, 39, rfl, uw_X12, by decide, (wg7 143 rfl rfl)⟩
theorem fp_X12_344 : FP RX12 344 12 22 .long := ⟨RX12, TX12, 39, tyX12, rfl, uw_X12, by decide, (wg7 143 rfl rfl), tyX12_ok, nmX12, rfl, by decide +kernel⟩
theorem fl_X12_349 : FL RX12 349 12 23 := ⟨RX12, TX12, 39, rfl, uw_X12, by decide, (wg7 144 rfl rfl)⟩
theorem fp_X12_349 : FP RX12 349 12 23 .long := ⟨RX12, TX12, 39, tyX12, rfl, uw_X12, by decide, (wg7 144 rfl rfl), tyX12_ok, nmX12, rfl, by decide +kernel⟩
theorem fl_X12_360 : FL RX12 360 12 24 := ⟨RX12, TX12, 39, rfl, uw_X12, by decide, (wg7 145 rfl rfl)⟩
theorem fp_X12_360 : FP RX12 360 12 24 .int := ⟨RX12, TX12, 39, tyX12, rfl, uw_X12, by decide, (wg7 145 rfl rfl), tyX12_ok, nmX12, rfl, by decide +kernel⟩
theorem fl_X12_453 : FL RX12 453 12 31 := ⟨RX12, TX12, 39, rfl, uw_X12, by decide, (wg7 152 rfl rfl)⟩
theorem fp_X12_453 : FP RX12 453 12 31 .int := ⟨RX12, TX12, 39, tyX12, rfl, uw_X12, by decide, (wg7 152 rfl rfl), tyX12_ok, nmX12, rfl, by decide +kernel⟩
theorem fl_X12_476 : FL RX12 476 12 35 := ⟨RX12, TX12, 39, rfl, uw_X12, by decide, (wg7 156 rfl rfl)⟩
theorem fp_X12_476 : FP RX12 476 12 35 .int := ⟨RX12, TX12, 39, tyX12, rfl, uw_X12, by decide, (wg7 156 rfl rfl), tyX12_ok, nmX12, rfl, by decide +kernel⟩
theorem mw_X11_73 : MW RX11 73 yX11_askWithin cX11_askWithin 3 (none) 3 := ⟨(wg3 72 rfl rfl), (wg3 74 rfl rfl), (wg1 1 rfl rfl), by decide, by decide, by decide +kernel⟩
theorem mw_X11_81 : MW RX11 81 yX3_add cX3_add 4 (some .int) 3 := ⟨(wg3 144 rfl rfl), (wg3 147 rfl rfl), (wg1 3 rfl rfl), by decide, by decide, by decide +kernel⟩
theorem mw_X11_87 : MW RX11 87 yX11_askHand cX11_askHand 2 (none) 1 := ⟨(wg3 157 rfl rfl), (wg3 160 rfl rfl), (wg1 1 rfl rfl), by decide, by decide, by decide +kernel⟩
theorem mw_X11_91 : MW RX11 91 yX11_askLengths cX11_askLengths 6 (none) 6 := ⟨(wg3 197 rfl rfl), (wg3 199 rfl rfl), (wg1 1 rfl rfl), by decide, by decide, by decide +kernel⟩
theorem mw_X11_99 : MW RX11 99 yX11_putFive cX11_putFive 7 (none) 7 := ⟨(wg3 200 rfl rfl), (wg3 202 rfl rfl), (wg1 1 rfl rfl), by decide, by decide, by decide +kernel⟩
theorem mw_X11_103 : MW RX11 103 yX11_askPaint cX11_askPaint 2 (none) 1 := ⟨(wg3 161 rfl rfl), (wg3 164 rfl rfl), (wg1 1 rfl rfl), by decide, by decide, by decide +kernel⟩
theorem mw_X11_116 : MW RX11 116 yX3_layOver cX3_layOver 3 (some .boolean) 2 := ⟨(wg3 211 rfl rfl), (wg3 214 rfl rfl), (wg1 3 rfl rfl), by decide, by decide, by decide +kernel⟩
theorem mw_X11_126 : MW RX11 126 yX6_add cX6_add 5 (some .int) 4 := ⟨(wg3 224 rfl rfl), (wg3 227 rfl rfl), (wg1 4 rfl rfl), by decide, by decide, by decide +kernel⟩
theorem mw_X11_131 : MW RX11 131 yX11_askSkin cX11_askSkin 2 (none) 1 := ⟨(wg3 235 rfl rfl), (wg3 238 rfl rfl), (wg1 1 rfl rfl), by decide, by decide, by decide +kernel⟩
theorem mw_X11_140 : MW RX11 140 yX6_addLayer cX6_addLayer 8 (some .int) 5 := ⟨(wg4 0 rfl rfl), (wg4 3 rfl rfl), (wg1 4 rfl rfl), by decide, by decide, by decide +kernel⟩
theorem mw_X11_153 : MW RX11 153 yJ6_bitCount_0f7a4 cJ6_bitCount_0f7a4 1 (some .int) 1 := ⟨(wg4 68 rfl rfl), (wg3 19 rfl rfl), (wg1 21 rfl rfl), by decide, by decide, by decide +kernel⟩
theorem mw_X11_163 : MW RX11 163 yX8_append cX8_append 3 (none) 1 := ⟨(wg2 229 rfl rfl), (wg2 232 rfl rfl), (wg1 9 rfl rfl), by decide, by decide, by decide +kernel⟩
theorem mw_X11_166 : MW RX11 166 yX8_begin cX8_begin 2 (none) 1 := ⟨(wg4 76 rfl rfl), (wg4 79 rfl rfl), (wg1 9 rfl rfl), by decide, by decide, by decide +kernel⟩
theorem mw_X11_169 : MW RX11 169 yX2_readFrom cX2_readFrom 3 (none) 1 := ⟨(wg4 148 rfl rfl), (wg4 151 rfl rfl), (wg1 5 rfl rfl), by decide, by decide, by decide +kernel⟩
theorem mw_X11_173 : MW RX11 173 yX8_failed cX8_failed 1 (some .boolean) 0 := ⟨(wg4 200 rfl rfl), (wg4 203 rfl rfl), (wg1 9 rfl rfl), by decide, by decide, by decide +kernel⟩
theorem mw_X11_180 : MW RX11 180 yX2_clocksLike cX2_clocksLike 2 (some .boolean) 1 := ⟨(wg4 204 rfl rfl), (wg4 207 rfl rfl), (wg1 5 rfl rfl), by decide, by decide, by decide +kernel⟩
theorem mw_X11_184 : MW RX11 184 yX2_copyFrom cX2_copyFrom 2 (none) 1 := ⟨(wg4 208 rfl rfl), (wg4 211 rfl rfl), (wg1 5 rfl rfl), by decide, by decide, by decide +kernel⟩
theorem mw_X11_188 : MW RX11 188 yX6_clockAll cX6_clockAll 4 (none) 1 := ⟨(wg4 212 rfl rfl), (wg4 215 rfl rfl), (wg1 4 rfl rfl), by decide, by decide, by decide +kernel⟩
theorem mw_X11_194 : MW RX11 194 yX7_readFrom cX7_readFrom 4 (none) 1 := ⟨(wg4 223 rfl rfl), (wg4 226 rfl rfl), (wg1 6 rfl rfl), by decide, by decide, by decide +kernel⟩
theorem mw_X11_198 : MW RX11 198 yX7_copyFrom cX7_copyFrom 2 (none) 1 := ⟨(wg4 236 rfl rfl), (wg4 239 rfl rfl), (wg1 6 rfl rfl), by decide, by decide, by decide +kernel⟩
theorem mw_X11_202 : MW RX11 202 yX4_readFrom cX4_readFrom 4 (none) 1 := ⟨(wg5 14 rfl rfl), (wg5 17 rfl rfl), (wg1 7 rfl rfl), by decide, by decide, by decide +kernel⟩
theorem mw_X11_206 : MW RX11 206 yX4_copyFrom cX4_copyFrom 2 (none) 1 := ⟨(wg5 48 rfl rfl), (wg5 51 rfl rfl), (wg1 7 rfl rfl), by decide, by decide, by decide +kernel⟩
theorem mw_X11_215 : MW RX11 215 yX2_ageFor cX2_ageFor 5 (some .int) 4 := ⟨(wg5 60 rfl rfl), (wg5 63 rfl rfl), (wg1 5 rfl rfl), by decide, by decide, by decide +kernel⟩
theorem mw_X11_235 : MW RX11 235 yX10_leakUpper cX10_leakUpper 2 (some .int) 1 := ⟨(wg5 93 rfl rfl), (wg5 96 rfl rfl), (wg1 2 rfl rfl), by decide, by decide, by decide +kernel⟩
theorem mw_X11_238 : MW RX11 238 yX10_leakLower cX10_leakLower 2 (some .int) 1 := ⟨(wg5 97 rfl rfl), (wg5 100 rfl rfl), (wg1 2 rfl rfl), by decide, by decide, by decide +kernel⟩
theorem mw_X11_241 : MW RX11 241 yX0_put cX0_put 7 (some .boolean) 2 := ⟨(wg5 105 rfl rfl), (wg5 108 rfl rfl), (wg1 10 rfl rfl), by decide, by decide, by decide +kernel⟩
theorem mw_X11_245 : MW RX11 245 yX11_askDrip cX11_askDrip 4 (none) 4 := ⟨(wg5 123 rfl rfl), (wg5 125 rfl rfl), (wg1 1 rfl rfl), by decide, by decide, by decide +kernel⟩
theorem mw_X11_249 : MW RX11 249 yX2_grownBy cX2_grownBy 8 (some .int) 4 := ⟨(wg5 126 rfl rfl), (wg5 129 rfl rfl), (wg1 5 rfl rfl), by decide, by decide, by decide +kernel⟩
theorem mw_X11_252 : MW RX11 252 yX2_drawn cX2_drawn 7 (some .int) 2 := ⟨(wg5 130 rfl rfl), (wg5 133 rfl rfl), (wg1 5 rfl rfl), by decide, by decide, by decide +kernel⟩
theorem mw_X11_256 : MW RX11 256 yX2_isThin cX2_isThin 2 (some .boolean) 1 := ⟨(wg5 143 rfl rfl), (wg4 11 rfl rfl), (wg1 5 rfl rfl), by decide, by decide, by decide +kernel⟩
theorem mw_X11_260 : MW RX11 260 yX2_goalAbove cX2_goalAbove 2 (some .int) 1 := ⟨(wg5 144 rfl rfl), (wg4 36 rfl rfl), (wg1 5 rfl rfl), by decide, by decide, by decide +kernel⟩
theorem mw_X11_269 : MW RX11 269 yX2_goalBelow cX2_goalBelow 2 (some .int) 1 := ⟨(wg5 145 rfl rfl), (wg4 19 rfl rfl), (wg1 5 rfl rfl), by decide, by decide, by decide +kernel⟩
theorem mw_X11_272 : MW RX11 272 yX10_mostOf cX10_mostOf 2 (some .int) 1 := ⟨(wg5 153 rfl rfl), (wg3 40 rfl rfl), (wg1 2 rfl rfl), by decide, by decide, by decide +kernel⟩
theorem mw_X11_275 : MW RX11 275 yX10_leastOf cX10_leastOf 2 (some .int) 1 := ⟨(wg5 154 rfl rfl), (wg3 8 rfl rfl), (wg1 2 rfl rfl), by decide, by decide, by decide +kernel⟩
theorem mw_X11_281 : MW RX11 281 yX10_isClash cX10_isClash 2 (some .boolean) 1 := ⟨(wg3 1 rfl rfl), (wg3 4 rfl rfl), (wg1 2 rfl rfl), by decide, by decide, by decide +kernel⟩
theorem mw_X11_284 : MW RX11 284 yX10_isRing cX10_isRing 2 (some .boolean) 1 := ⟨(wg5 162 rfl rfl), (wg5 165 rfl rfl), (wg1 2 rfl rfl), by decide, by decide, by decide +kernel⟩
theorem mw_X11_287 : MW RX11 287 yX3_reach cX3_reach 8 (some .int) 2 := ⟨(wg5 175 rfl rfl), (wg3 16 rfl rfl), (wg1 3 rfl rfl), by decide, by decide, by decide +kernel⟩
theorem mw_X11_291 : MW RX11 291 yX11_isIn cX11_isIn 2 (some .boolean) 2 := ⟨(wg5 176 rfl rfl), (wg3 33 rfl rfl), (wg1 1 rfl rfl), by decide, by decide, by decide +kernel⟩
theorem mw_X11_294 : MW RX11 294 yX10_restsOf cX10_restsOf 8 (some .int) 1 := ⟨(wg5 184 rfl rfl), (wg5 187 rfl rfl), (wg1 2 rfl rfl), by decide, by decide, by decide +kernel⟩
theorem mw_X11_297 : MW RX11 297 yX10_olderInto cX10_olderInto 12 (none) 3 := ⟨(wg5 195 rfl rfl), (wg5 198 rfl rfl), (wg1 2 rfl rfl), by decide, by decide, by decide +kernel⟩
theorem mw_X11_322 : MW RX11 322 yX10_likesOf cX10_likesOf 6 (some .int) 3 := ⟨(wg5 228 rfl rfl), (wg5 231 rfl rfl), (wg1 2 rfl rfl), by decide, by decide, by decide +kernel⟩
theorem mw_X11_325 : MW RX11 325 yX10_whoseInto cX10_whoseInto 13 (some .boolean) 3 := ⟨(wg6 6 rfl rfl), (wg6 9 rfl rfl), (wg1 2 rfl rfl), by decide, by decide, by decide +kernel⟩
theorem mw_X11_329 : MW RX11 329 yX10_ringedInto cX10_ringedInto 9 (some .boolean) 3 := ⟨(wg6 24 rfl rfl), (wg6 27 rfl rfl), (wg1 2 rfl rfl), by decide, by decide, by decide +kernel⟩
theorem mw_X11_332 : MW RX11 332 yX10_dueOf cX10_dueOf 6 (some .int) 2 := ⟨(wg6 43 rfl rfl), (wg6 46 rfl rfl), (wg1 2 rfl rfl), by decide, by decide, by decide +kernel⟩
theorem mw_X11_335 : MW RX11 335 yX10_isStump cX10_isStump 4 (some .boolean) 3 := ⟨(wg6 54 rfl rfl), (wg6 57 rfl rfl), (wg1 2 rfl rfl), by decide, by decide, by decide +kernel⟩
theorem mw_X11_339 : MW RX11 339 yX10_bentInto cX10_bentInto 7 (some .boolean) 3 := ⟨(wg6 65 rfl rfl), (wg6 68 rfl rfl), (wg1 2 rfl rfl), by decide, by decide, by decide +kernel⟩
theorem mw_X11_342 : MW RX11 342 yX11_askFilledTray cX11_askFilledTray 2 (none) 1 := ⟨(wg6 78 rfl rfl), (wg6 81 rfl rfl), (wg1 1 rfl rfl), by decide, by decide, by decide +kernel⟩
theorem mw_X11_350 : MW RX11 350 yX9_allWithin cX9_allWithin 9 (some .boolean) 3 := ⟨(wg6 88 rfl rfl), (wg6 91 rfl rfl), (wg1 11 rfl rfl), by decide, by decide, by decide +kernel⟩
theorem mw_X11_360 : MW RX11 360 yX9_numberAt cX9_numberAt 3 (some .int) 2 := ⟨(wg6 92 rfl rfl), (wg6 95 rfl rfl), (wg1 11 rfl rfl), by decide, by decide, by decide +kernel⟩
theorem mw_X11_363 : MW RX11 363 yX10_timesOf cX10_timesOf 8 (some .int) 2 := ⟨(wg6 103 rfl rfl), (wg6 106 rfl rfl), (wg1 2 rfl rfl), by decide, by decide, by decide +kernel⟩
theorem mw_X11_366 : MW RX11 366 yX10_whoInto cX10_whoInto 9 (some .boolean) 3 := ⟨(wg6 126 rfl rfl), (wg6 129 rfl rfl), (wg1 2 rfl rfl), by decide, by decide, by decide +kernel⟩
theorem mw_X11_369 : MW RX11 369 yX10_aloneOf cX10_aloneOf 6 (some .int) 2 := ⟨(wg6 142 rfl rfl), (wg6 145 rfl rfl), (wg1 2 rfl rfl), by decide, by decide, by decide +kernel⟩
theorem mw_X11_372 : MW RX11 372 yX3_isSign cX3_isSign 3 (some .boolean) 2 := ⟨(wg6 153 rfl rfl), (wg6 156 rfl rfl), (wg1 3 rfl rfl), by decide, by decide, by decide +kernel⟩
theorem mw_X11_375 : MW RX11 375 yX5_makePlan cX5_makePlan 8 (none) 2 := ⟨(wg6 171 rfl rfl), (wg6 174 rfl rfl), (wg1 12 rfl rfl), by decide, by decide, by decide +kernel⟩
theorem mw_X11_388 : MW RX11 388 yX5_makeRow cX5_makeRow 5 (none) 2 := ⟨(wg6 205 rfl rfl), (wg6 208 rfl rfl), (wg1 12 rfl rfl), by decide, by decide, by decide +kernel⟩
theorem mw_X11_401 : MW RX11 401 yX10_sayOf cX10_sayOf 5 (some .int) 1 := ⟨(wg7 7 rfl rfl), (wg7 10 rfl rfl), (wg1 2 rfl rfl), by decide, by decide, by decide +kernel⟩
theorem mw_X11_404 : MW RX11 404 yX11_askTray cX11_askTray 1 (none) 1 := ⟨(wg6 82 rfl rfl), (wg6 84 rfl rfl), (wg1 1 rfl rfl), by decide, by decide, by decide +kernel⟩
theorem mw_X11_407 : MW RX11 407 yX9_clear cX9_clear 5 (none) 3 := ⟨(wg7 28 rfl rfl), (wg7 31 rfl rfl), (wg1 11 rfl rfl), by decide, by decide, by decide +kernel⟩
theorem mw_X11_415 : MW RX11 415 yX9_put cX9_put 7 (some .long) 3 := ⟨(wg7 56 rfl rfl), (wg7 59 rfl rfl), (wg1 11 rfl rfl), by decide, by decide, by decide +kernel⟩
theorem mw_X11_424 : MW RX11 424 yX11_askImage cX11_askImage 1 (none) 1 := ⟨(wg7 77 rfl rfl), (wg7 79 rfl rfl), (wg1 1 rfl rfl), by decide, by decide, by decide +kernel⟩
theorem mw_X11_427 : MW RX11 427 yX10_copyFrom cX10_copyFrom 2 (none) 1 := ⟨(wg7 81 rfl rfl), (wg7 84 rfl rfl), (wg1 2 rfl rfl), by decide, by decide, by decide +kernel⟩
theorem mw_X0_7 : MW RX0 7 yX0_drop cX0_drop 1 (some .boolean) 0 := ⟨(wg5 109 rfl rfl), (wg5 112 rfl rfl), (wg1 10 rfl rfl), by decide, by decide, by decide +kernel⟩
theorem mw_X0_13 : MW RX0 13 yX0_commonOf cX0_commonOf 11 (some .long) 2 := ⟨(wg5 113 rfl rfl), (wg5 115 rfl rfl), (wg1 10 rfl rfl), by decide, by decide, by decide +kernel⟩
theorem mn_X1_28 : MN RX1 28 yX11_copyRow cX11_copyRow 2 (none) 2 := ⟨by decide, (wg5 2 rfl rfl), (wg1 1 rfl rfl), by decide, by decide, by decide +kernel⟩
theorem mw_X1_32 : MW RX1 32 yJ6_compare_7cf53 cJ6_compare_7cf53 2 (some .int) 2 := ⟨(wg6 35 rfl rfl), (wg6 30 rfl rfl), (wg1 21 rfl rfl), by decide, by decide, by decide +kernel⟩
theorem mw_X2_9 : MW RX2 9 yX2_reset cX2_reset 1 (none) 0 := ⟨(wg1 153 rfl rfl), (wg1 156 rfl rfl), (wg1 5 rfl rfl), by decide, by decide, by decide +kernel⟩
theorem mw_X2_39 : MW RX2 39 yX8_goesOn cX8_goesOn 1 (some .boolean) 0 := ⟨(wg4 152 rfl rfl), (wg4 155 rfl rfl), (wg1 9 rfl rfl), by decide, by decide, by decide +kernel⟩
theorem mw_X2_45 : MW RX2 45 yX8_firstWord cX8_firstWord 5 (some .int) 3 := ⟨(wg4 156 rfl rfl), (wg4 159 rfl rfl), (wg1 9 rfl rfl), by decide, by decide, by decide +kernel⟩
theorem mw_X2_49 : MW RX2 49 yX2_readLine cX2_readLine 3 (none) 2 := ⟨(wg4 172 rfl rfl), (wg4 175 rfl rfl), (wg1 5 rfl rfl), by decide, by decide, by decide +kernel⟩
theorem mw_X2_53 : MW RX2 53 yX8_needSign cX8_needSign 2 (none) 1 := ⟨(wg4 192 rfl rfl), (wg4 195 rfl rfl), (wg1 9 rfl rfl), by decide, by decide, by decide +kernel⟩
theorem mw_X2_57 : MW RX2 57 yX8_number cX8_number 4 (some .int) 2 := ⟨(wg4 176 rfl rfl), (wg4 179 rfl rfl), (wg1 9 rfl rfl), by decide, by decide, by decide +kernel⟩
theorem mw_X2_61 : MW RX2 61 yX8_needWord cX8_needWord 2 (none) 1 := ⟨(wg4 180 rfl rfl), (wg4 183 rfl rfl), (wg1 9 rfl rfl), by decide, by decide, by decide +kernel⟩
theorem mw_X2_70 : MW RX2 70 yX2_ageAt cX2_ageAt 8 (some .int) 4 := ⟨(wg4 20 rfl rfl), (wg4 23 rfl rfl), (wg1 5 rfl rfl), by decide, by decide, by decide +kernel⟩
theorem mw_X2_74 : MW RX2 74 yX2_growth cX2_growth 3 (some .int) 2 := ⟨(wg4 24 rfl rfl), (wg4 27 rfl rfl), (wg1 5 rfl rfl), by decide, by decide, by decide +kernel⟩
theorem mw_X2_77 : MW RX2 77 yX2_goalBelow cX2_goalBelow 2 (some .int) 1 := ⟨(wg4 16 rfl rfl), (wg4 19 rfl rfl), (wg1 5 rfl rfl), by decide, by decide, by decide +kernel⟩
theorem mw_X2_81 : MW RX2 81 yX2_goalAbove cX2_goalAbove 2 (some .int) 1 := ⟨(wg4 33 rfl rfl), (wg4 36 rfl rfl), (wg1 5 rfl rfl), by decide, by decide, by decide +kernel⟩
theorem mn_X3_37 : MN RX3 37 yX11_copyRow cX11_copyRow 2 (none) 2 := ⟨by decide, (wg5 2 rfl rfl), (wg1 1 rfl rfl), by decide, by decide, by decide +kernel⟩
theorem mn_X3_41 : MN RX3 41 yX11_isIn cX11_isIn 2 (some .boolean) 2 := ⟨by decide, (wg3 33 rfl rfl), (wg1 1 rfl rfl), by decide, by decide, by decide +kernel⟩
theorem mw_X3_45 : MW RX3 45 yJ6_bitCount_0f7a4 cJ6_bitCount_0f7a4 1 (some .int) 1 := ⟨(wg3 17 rfl rfl), (wg3 19 rfl rfl), (wg1 21 rfl rfl), by decide, by decide, by decide +kernel⟩
theorem mw_X3_51 : MW RX3 51 yX3_reach cX3_reach 8 (some .int) 2 := ⟨(wg3 13 rfl rfl), (wg3 16 rfl rfl), (wg1 3 rfl rfl), by decide, by decide, by decide +kernel⟩
theorem mn_X4_31 : MN RX4 31 yX11_copyRow cX11_copyRow 2 (none) 2 := ⟨by decide, (wg5 2 rfl rfl), (wg1 1 rfl rfl), by decide, by decide, by decide +kernel⟩
theorem mw_X4_35 : MW RX4 35 yX8_goesOn cX8_goesOn 1 (some .boolean) 0 := ⟨(wg5 18 rfl rfl), (wg4 155 rfl rfl), (wg1 9 rfl rfl), by decide, by decide, by decide +kernel⟩
theorem mw_X4_41 : MW RX4 41 yX8_firstWord cX8_firstWord 5 (some .int) 3 := ⟨(wg5 19 rfl rfl), (wg4 159 rfl rfl), (wg1 9 rfl rfl), by decide, by decide, by decide +kernel⟩
theorem mw_X4_45 : MW RX4 45 yX4_readRule cX4_readRule 3 (none) 2 := ⟨(wg5 20 rfl rfl), (wg5 23 rfl rfl), (wg1 7 rfl rfl), by decide, by decide, by decide +kernel⟩
theorem mw_X4_49 : MW RX4 49 yX8_wordAmong cX8_wordAmong 4 (some .int) 2 := ⟨(wg5 24 rfl rfl), (wg4 167 rfl rfl), (wg1 9 rfl rfl), by decide, by decide, by decide +kernel⟩
theorem mw_X4_53 : MW RX4 53 yX8_takeWord cX8_takeWord 3 (some .boolean) 1 := ⟨(wg5 25 rfl rfl), (wg4 187 rfl rfl), (wg1 9 rfl rfl), by decide, by decide, by decide +kernel⟩
theorem mw_X4_57 : MW RX4 57 yX4_readTest cX4_readTest 4 (none) 2 := ⟨(wg5 26 rfl rfl), (wg5 29 rfl rfl), (wg1 7 rfl rfl), by decide, by decide, by decide +kernel⟩
theorem mw_X4_60 : MW RX4 60 yX8_needSign cX8_needSign 2 (none) 1 := ⟨(wg5 46 rfl rfl), (wg4 195 rfl rfl), (wg1 9 rfl rfl), by decide, by decide, by decide +kernel⟩
theorem mw_X4_64 : MW RX4 64 yX4_readPart cX4_readPart 4 (none) 2 := ⟨(wg5 30 rfl rfl), (wg5 33 rfl rfl), (wg1 7 rfl rfl), by decide, by decide, by decide +kernel⟩
theorem mw_X4_67 : MW RX4 67 yX4_keepStep cX4_keepStep 3 (none) 2 := ⟨(wg5 42 rfl rfl), (wg5 45 rfl rfl), (wg1 7 rfl rfl), by decide, by decide, by decide +kernel⟩
theorem mw_X4_71 : MW RX4 71 yX4_readFact cX4_readFact 7 (none) 2 := ⟨(wg5 34 rfl rfl), (wg5 37 rfl rfl), (wg1 7 rfl rfl), by decide, by decide, by decide +kernel⟩
theorem mw_X4_74 : MW RX4 74 yX8_isWord cX8_isWord 2 (some .boolean) 1 := ⟨(wg5 38 rfl rfl), (wg4 191 rfl rfl), (wg1 9 rfl rfl), by decide, by decide, by decide +kernel⟩
theorem mw_X4_77 : MW RX4 77 yX8_isSign cX8_isSign 2 (some .boolean) 1 := ⟨(wg5 39 rfl rfl), (wg4 199 rfl rfl), (wg1 9 rfl rfl), by decide, by decide, by decide +kernel⟩
theorem mw_X4_81 : MW RX4 81 yX8_fail cX8_fail 2 (none) 1 := ⟨(wg5 40 rfl rfl), (wg4 163 rfl rfl), (wg1 9 rfl rfl), by decide, by decide, by decide +kernel⟩
theorem mw_X4_85 : MW RX4 85 yX8_advance cX8_advance 2 (none) 0 := ⟨(wg5 41 rfl rfl), (wg4 84 rfl rfl), (wg1 9 rfl rfl), by decide, by decide, by decide +kernel⟩
theorem mw_X4_88 : MW RX4 88 yX8_number cX8_number 4 (some .int) 2 := ⟨(wg5 47 rfl rfl), (wg4 179 rfl rfl), (wg1 9 rfl rfl), by decide, by decide, by decide +kernel⟩
theorem mw_X5_24 : MW RX5 24 yX5_findChoices cX5_findChoices 4 (some .int) 1 := ⟨(wg6 175 rfl rfl), (wg6 178 rfl rfl), (wg1 12 rfl rfl), by decide, by decide, by decide +kernel⟩
theorem mw_X5_28 : MW RX5 28 yX6_datedPaints cX6_datedPaints 3 (some .int) 0 := ⟨(wg6 183 rfl rfl), (wg6 186 rfl rfl), (wg1 4 rfl rfl), by decide, by decide, by decide +kernel⟩
theorem mw_X5_38 : MW RX5 38 yJ6_bitCount_0f7a4 cJ6_bitCount_0f7a4 1 (some .int) 1 := ⟨(wg6 188 rfl rfl), (wg3 19 rfl rfl), (wg1 21 rfl rfl), by decide, by decide, by decide +kernel⟩
theorem mw_X5_47 : MW RX5 47 yX5_lookAt cX5_lookAt 8 (none) 2 := ⟨(wg6 189 rfl rfl), (wg6 192 rfl rfl), (wg1 12 rfl rfl), by decide, by decide, by decide +kernel⟩
theorem mw_X5_51 : MW RX5 51 yX5_skinsOf cX5_skinsOf 5 (some .int) 2 := ⟨(wg6 193 rfl rfl), (wg6 196 rfl rfl), (wg1 12 rfl rfl), by decide, by decide, by decide +kernel⟩
theorem mw_X5_64 : MW RX5 64 yX6_touches cX6_touches 2 (some .boolean) 1 := ⟨(wg6 179 rfl rfl), (wg6 182 rfl rfl), (wg1 4 rfl rfl), by decide, by decide, by decide +kernel⟩
theorem mn_X5_74 : MN RX5 74 yX11_isIn cX11_isIn 2 (some .boolean) 2 := ⟨by decide, (wg3 33 rfl rfl), (wg1 1 rfl rfl), by decide, by decide, by decide +kernel⟩
theorem mw_X5_106 : MW RX5 106 yX10_isOpen cX10_isOpen 2 (some .boolean) 1 := ⟨(wg6 209 rfl rfl), (wg6 212 rfl rfl), (wg1 2 rfl rfl), by decide, by decide, by decide +kernel⟩
theorem mw_X5_109 : MW RX5 109 yX5_nextByRules cX5_nextByRules 4 (some .int) 1 := ⟨(wg6 213 rfl rfl), (wg6 216 rfl rfl), (wg1 12 rfl rfl), by decide, by decide, by decide +kernel⟩
theorem mw_X5_113 : MW RX5 113 yX5_take cX5_take 3 (none) 2 := ⟨(wg6 229 rfl rfl), (wg6 232 rfl rfl), (wg1 12 rfl rfl), by decide, by decide, by decide +kernel⟩
theorem mw_X5_126 : MW RX5 126 yX5_nextByRule cX5_nextByRule 8 (some .int) 2 := ⟨(wg6 217 rfl rfl), (wg6 220 rfl rfl), (wg1 12 rfl rfl), by decide, by decide, by decide +kernel⟩
theorem mw_X5_134 : MW RX5 134 yX5_holds cX5_holds 9 (some .boolean) 3 := ⟨(wg6 221 rfl rfl), (wg6 224 rfl rfl), (wg1 12 rfl rfl), by decide, by decide, by decide +kernel⟩
theorem mw_X5_147 : MW RX5 147 yX5_isFact cX5_isFact 9 (some .boolean) 4 := ⟨(wg6 225 rfl rfl), (wg6 228 rfl rfl), (wg1 12 rfl rfl), by decide, by decide, by decide +kernel⟩
theorem mn_X6_52 : MN RX6 52 yX11_copyRow cX11_copyRow 2 (none) 2 := ⟨by decide, (wg5 2 rfl rfl), (wg1 1 rfl rfl), by decide, by decide, by decide +kernel⟩
theorem mw_X6_56 : MW RX6 56 yX6_clockCell cX6_clockCell 4 (none) 2 := ⟨(wg4 4 rfl rfl), (wg4 7 rfl rfl), (wg1 4 rfl rfl), by decide, by decide, by decide +kernel⟩
theorem mw_X6_60 : MW RX6 60 yX6_judge cX6_judge 2 (none) 1 := ⟨(wg4 37 rfl rfl), (wg4 40 rfl rfl), (wg1 4 rfl rfl), by decide, by decide, by decide +kernel⟩
theorem mw_X6_64 : MW RX6 64 yX2_isThin cX2_isThin 2 (some .boolean) 1 := ⟨(wg4 8 rfl rfl), (wg4 11 rfl rfl), (wg1 5 rfl rfl), by decide, by decide, by decide +kernel⟩
theorem mw_X6_70 : MW RX6 70 yX2_leastFor cX2_leastFor 4 (some .int) 3 := ⟨(wg4 12 rfl rfl), (wg4 15 rfl rfl), (wg1 5 rfl rfl), by decide, by decide, by decide +kernel⟩
theorem mw_X6_74 : MW RX6 74 yX2_greatestFor cX2_greatestFor 4 (some .int) 3 := ⟨(wg4 29 rfl rfl), (wg4 32 rfl rfl), (wg1 5 rfl rfl), by decide, by decide, by decide +kernel⟩
theorem mw_X6_77 : MW RX6 77 yX6_sortOf cX6_sortOf 2 (some .int) 1 := ⟨(wg4 41 rfl rfl), (wg4 44 rfl rfl), (wg1 4 rfl rfl), by decide, by decide, by decide +kernel⟩
theorem mw_X6_81 : MW RX6 81 yX6_innermost cX6_innermost 4 (some .int) 1 := ⟨(wg4 53 rfl rfl), (wg4 56 rfl rfl), (wg1 4 rfl rfl), by decide, by decide, by decide +kernel⟩
theorem mw_X6_84 : MW RX6 84 yX6_outermost cX6_outermost 4 (some .int) 1 := ⟨(wg4 57 rfl rfl), (wg4 60 rfl rfl), (wg1 4 rfl rfl), by decide, by decide, by decide +kernel⟩
theorem mw_X6_87 : MW RX6 87 yX6_thick cX6_thick 4 (some .int) 1 := ⟨(wg4 45 rfl rfl), (wg4 48 rfl rfl), (wg1 4 rfl rfl), by decide, by decide, by decide +kernel⟩
theorem mw_X6_90 : MW RX6 90 yX6_isTurned cX6_isTurned 6 (some .boolean) 1 := ⟨(wg4 49 rfl rfl), (wg4 52 rfl rfl), (wg1 4 rfl rfl), by decide, by decide, by decide +kernel⟩
theorem mn_X6_93 : MN RX6 93 yX11_isIn cX11_isIn 2 (some .boolean) 2 := ⟨by decide, (wg3 33 rfl rfl), (wg1 1 rfl rfl), by decide, by decide, by decide +kernel⟩
theorem mw_X6_97 : MW RX6 97 yX6_speaks cX6_speaks 4 (some .boolean) 3 := ⟨(wg3 27 rfl rfl), (wg3 30 rfl rfl), (wg1 4 rfl rfl), by decide, by decide, by decide +kernel⟩
theorem mw_X6_110 : MW RX6 110 yX6_touches cX6_touches 2 (some .boolean) 1 := ⟨(wg6 187 rfl rfl), (wg6 182 rfl rfl), (wg1 4 rfl rfl), by decide, by decide, by decide +kernel⟩
theorem mn_X7_28 : MN RX7 28 yX11_copyRow cX11_copyRow 2 (none) 2 := ⟨by decide, (wg5 2 rfl rfl), (wg1 1 rfl rfl), by decide, by decide, by decide +kernel⟩
theorem mw_X7_32 : MW RX7 32 yX8_goesOn cX8_goesOn 1 (some .boolean) 0 := ⟨(wg4 227 rfl rfl), (wg4 155 rfl rfl), (wg1 9 rfl rfl), by decide, by decide, by decide +kernel⟩
theorem mw_X7_38 : MW RX7 38 yX8_firstWord cX8_firstWord 5 (some .int) 3 := ⟨(wg4 228 rfl rfl), (wg4 159 rfl rfl), (wg1 9 rfl rfl), by decide, by decide, by decide +kernel⟩
theorem mw_X7_42 : MW RX7 42 yX7_readLine cX7_readLine 4 (none) 3 := ⟨(wg4 229 rfl rfl), (wg4 232 rfl rfl), (wg1 6 rfl rfl), by decide, by decide, by decide +kernel⟩
theorem mw_X7_46 : MW RX7 46 yX8_number cX8_number 4 (some .int) 2 := ⟨(wg4 233 rfl rfl), (wg4 179 rfl rfl), (wg1 9 rfl rfl), by decide, by decide, by decide +kernel⟩
theorem mw_X7_49 : MW RX7 49 yX8_needWord cX8_needWord 2 (none) 1 := ⟨(wg4 234 rfl rfl), (wg4 183 rfl rfl), (wg1 9 rfl rfl), by decide, by decide, by decide +kernel⟩
theorem mw_X7_53 : MW RX7 53 yX8_needSign cX8_needSign 2 (none) 1 := ⟨(wg4 235 rfl rfl), (wg4 195 rfl rfl), (wg1 9 rfl rfl), by decide, by decide, by decide +kernel⟩
theorem mw_X7_57 : MW RX7 57 yX7_spans cX7_spans 3 (some .boolean) 2 := ⟨(wg6 115 rfl rfl), (wg6 118 rfl rfl), (wg1 6 rfl rfl), by decide, by decide, by decide +kernel⟩
theorem mw_X8_37 : MW RX8 37 yX8_advance cX8_advance 2 (none) 0 := ⟨(wg4 81 rfl rfl), (wg4 84 rfl rfl), (wg1 9 rfl rfl), by decide, by decide, by decide +kernel⟩
theorem mw_X8_46 : MW RX8 46 yX8_isLetter cX8_isLetter 1 (some .boolean) 1 := ⟨(wg4 85 rfl rfl), (wg4 87 rfl rfl), (wg1 9 rfl rfl), by decide, by decide, by decide +kernel⟩
theorem mw_X8_50 : MW RX8 50 yX8_wordNumber cX8_wordNumber 5 (some .int) 0 := ⟨(wg4 88 rfl rfl), (wg4 91 rfl rfl), (wg1 9 rfl rfl), by decide, by decide, by decide +kernel⟩
theorem mw_X8_57 : MW RX8 57 yX8_isDigit cX8_isDigit 1 (some .boolean) 1 := ⟨(wg4 141 rfl rfl), (wg4 143 rfl rfl), (wg1 9 rfl rfl), by decide, by decide, by decide +kernel⟩
theorem mw_X8_60 : MW RX8 60 yX8_decimal cX8_decimal 3 (some .int) 0 := ⟨(wg4 144 rfl rfl), (wg4 147 rfl rfl), (wg1 9 rfl rfl), by decide, by decide, by decide +kernel⟩
theorem mw_X8_74 : MW RX8 74 yX8_fail cX8_fail 2 (none) 1 := ⟨(wg4 160 rfl rfl), (wg4 163 rfl rfl), (wg1 9 rfl rfl), by decide, by decide, by decide +kernel⟩
theorem mw_X8_78 : MW RX8 78 yX8_isWord cX8_isWord 2 (some .boolean) 1 := ⟨(wg4 188 rfl rfl), (wg4 191 rfl rfl), (wg1 9 rfl rfl), by decide, by decide, by decide +kernel⟩
theorem mw_X8_82 : MW RX8 82 yX8_takeWord cX8_takeWord 3 (some .boolean) 1 := ⟨(wg4 184 rfl rfl), (wg4 187 rfl rfl), (wg1 9 rfl rfl), by decide, by decide, by decide +kernel⟩
theorem mw_X8_85 : MW RX8 85 yX8_refuse cX8_refuse 1 (none) 0 := ⟨(wg4 168 rfl rfl), (wg4 171 rfl rfl), (wg1 9 rfl rfl), by decide, by decide, by decide +kernel⟩
theorem mw_X8_88 : MW RX8 88 yX8_isSign cX8_isSign 2 (some .boolean) 1 := ⟨(wg4 196 rfl rfl), (wg4 199 rfl rfl), (wg1 9 rfl rfl), by decide, by decide, by decide +kernel⟩
theorem mw_X8_91 : MW RX8 91 yX8_wordAmong cX8_wordAmong 4 (some .int) 2 := ⟨(wg4 164 rfl rfl), (wg4 167 rfl rfl), (wg1 9 rfl rfl), by decide, by decide, by decide +kernel⟩
theorem mw_X10_53 : MW RX10 53 yX3_copyFrom cX3_copyFrom 2 (none) 1 := ⟨(wg7 85 rfl rfl), (wg7 88 rfl rfl), (wg1 3 rfl rfl), by decide, by decide, by decide +kernel⟩
theorem mw_X10_57 : MW RX10 57 yX6_copyFrom cX6_copyFrom 2 (none) 1 := ⟨(wg7 90 rfl rfl), (wg7 93 rfl rfl), (wg1 4 rfl rfl), by decide, by decide, by decide +kernel⟩
theorem mw_X10_60 : MW RX10 60 yX2_copyFrom cX2_copyFrom 2 (none) 1 := ⟨(wg7 95 rfl rfl), (wg4 211 rfl rfl), (wg1 5 rfl rfl), by decide, by decide, by decide +kernel⟩
theorem mw_X10_63 : MW RX10 63 yX7_copyFrom cX7_copyFrom 2 (none) 1 := ⟨(wg7 96 rfl rfl), (wg4 239 rfl rfl), (wg1 6 rfl rfl), by decide, by decide, by decide +kernel⟩
theorem mw_X10_66 : MW RX10 66 yX4_copyFrom cX4_copyFrom 2 (none) 1 := ⟨(wg7 97 rfl rfl), (wg5 51 rfl rfl), (wg1 7 rfl rfl), by decide, by decide, by decide +kernel⟩
theorem mw_X10_69 : MW RX10 69 yX1_copyFrom cX1_copyFrom 2 (none) 1 := ⟨(wg7 98 rfl rfl), (wg7 101 rfl rfl), (wg1 8 rfl rfl), by decide, by decide, by decide +kernel⟩
theorem mw_X10_72 : MW RX10 72 yX3_withAbove cX3_withAbove 2 (some .int) 1 := ⟨(wg3 9 rfl rfl), (wg3 12 rfl rfl), (wg1 3 rfl rfl), by decide, by decide, by decide +kernel⟩
theorem mw_X10_76 : MW RX10 76 yX6_leastSaid cX6_leastSaid 5 (some .int) 2 := ⟨(wg3 23 rfl rfl), (wg3 26 rfl rfl), (wg1 4 rfl rfl), by decide, by decide, by decide +kernel⟩
theorem mw_X10_80 : MW RX10 80 yX3_withBelow cX3_withBelow 2 (some .int) 1 := ⟨(wg3 41 rfl rfl), (wg3 44 rfl rfl), (wg1 3 rfl rfl), by decide, by decide, by decide +kernel⟩
theorem mw_X10_83 : MW RX10 83 yX6_mostSaid cX6_mostSaid 5 (some .int) 2 := ⟨(wg3 45 rfl rfl), (wg3 48 rfl rfl), (wg1 4 rfl rfl), by decide, by decide, by decide +kernel⟩
theorem mw_X10_86 : MW RX10 86 yX10_leastOf cX10_leastOf 2 (some .int) 1 := ⟨(wg3 5 rfl rfl), (wg3 8 rfl rfl), (wg1 2 rfl rfl), by decide, by decide, by decide +kernel⟩
theorem mw_X10_89 : MW RX10 89 yX10_mostOf cX10_mostOf 2 (some .int) 1 := ⟨(wg3 37 rfl rfl), (wg3 40 rfl rfl), (wg1 2 rfl rfl), by decide, by decide, by decide +kernel⟩
theorem mw_X10_96 : MW RX10 96 yX3_reach cX3_reach 8 (some .int) 2 := ⟨(wg5 166 rfl rfl), (wg3 16 rfl rfl), (wg1 3 rfl rfl), by decide, by decide, by decide +kernel⟩
theorem mn_X10_100 : MN RX10 100 yX11_isIn cX11_isIn 2 (some .boolean) 2 := ⟨by decide, (wg3 33 rfl rfl), (wg1 1 rfl rfl), by decide, by decide, by decide +kernel⟩
theorem mw_X10_114 : MW RX10 114 yX6_waysToLie cX6_waysToLie 5 (some .int) 1 := ⟨(wg5 101 rfl rfl), (wg5 104 rfl rfl), (wg1 4 rfl rfl), by decide, by decide, by decide +kernel⟩
theorem mw_X10_117 : MW RX10 117 yX6_nextOldest cX6_nextOldest 6 (some .int) 3 := ⟨(wg5 199 rfl rfl), (wg5 202 rfl rfl), (wg1 4 rfl rfl), by decide, by decide, by decide +kernel⟩
theorem mw_X10_121 : MW RX10 121 yX10_leakUpper cX10_leakUpper 2 (some .int) 1 := ⟨(wg5 203 rfl rfl), (wg5 96 rfl rfl), (wg1 2 rfl rfl), by decide, by decide, by decide +kernel⟩
theorem mw_X10_124 : MW RX10 124 yX10_leakLower cX10_leakLower 2 (some .int) 1 := ⟨(wg5 204 rfl rfl), (wg5 100 rfl rfl), (wg1 2 rfl rfl), by decide, by decide, by decide +kernel⟩
theorem mw_X10_127 : MW RX10 127 yX0_put cX0_put 7 (some .boolean) 2 := ⟨(wg5 205 rfl rfl), (wg5 108 rfl rfl), (wg1 10 rfl rfl), by decide, by decide, by decide +kernel⟩
theorem mw_X10_135 : MW RX10 135 yX10_isLike cX10_isLike 7 (some .boolean) 3 := ⟨(wg5 232 rfl rfl), (wg5 235 rfl rfl), (wg1 2 rfl rfl), by decide, by decide, by decide +kernel⟩
theorem mw_X10_151 : MW RX10 151 yX1_ofSort cX1_ofSort 4 (some .int) 1 := ⟨(wg6 10 rfl rfl), (wg6 13 rfl rfl), (wg1 8 rfl rfl), by decide, by decide, by decide +kernel⟩
theorem mw_X10_154 : MW RX10 154 yX0_drop cX0_drop 1 (some .boolean) 0 := ⟨(wg6 14 rfl rfl), (wg5 112 rfl rfl), (wg1 10 rfl rfl), by decide, by decide, by decide +kernel⟩
theorem mw_X10_161 : MW RX10 161 yX10_likesOf cX10_likesOf 6 (some .int) 3 := ⟨(wg6 16 rfl rfl), (wg5 231 rfl rfl), (wg1 2 rfl rfl), by decide, by decide, by decide +kernel⟩
theorem mw_X10_164 : MW RX10 164 yJ6_compare_7cf53 cJ6_compare_7cf53 2 (some .int) 2 := ⟨(wg6 28 rfl rfl), (wg6 30 rfl rfl), (wg1 21 rfl rfl), by decide, by decide, by decide +kernel⟩
theorem mw_X10_169 : MW RX10 169 yX1_ringStands cX1_ringStands 2 (some .int) 1 := ⟨(wg6 31 rfl rfl), (wg6 34 rfl rfl), (wg1 8 rfl rfl), by decide, by decide, by decide +kernel⟩
theorem mw_X10_172 : MW RX10 172 yX10_dueOf cX10_dueOf 6 (some .int) 2 := ⟨(wg6 69 rfl rfl), (wg6 46 rfl rfl), (wg1 2 rfl rfl), by decide, by decide, by decide +kernel⟩
theorem mw_X10_175 : MW RX10 175 yX10_isStump cX10_isStump 4 (some .boolean) 3 := ⟨(wg6 70 rfl rfl), (wg6 57 rfl rfl), (wg1 2 rfl rfl), by decide, by decide, by decide +kernel⟩
theorem mw_X10_190 : MW RX10 190 yX7_tellsBeast cX7_tellsBeast 4 (some .boolean) 2 := ⟨(wg6 111 rfl rfl), (wg6 114 rfl rfl), (wg1 6 rfl rfl), by decide, by decide, by decide +kernel⟩
theorem mw_X10_193 : MW RX10 193 yX10_livesAt cX10_livesAt 3 (some .boolean) 2 := ⟨(wg6 107 rfl rfl), (wg6 110 rfl rfl), (wg1 2 rfl rfl), by decide, by decide, by decide +kernel⟩
theorem mw_X10_196 : MW RX10 196 yX7_peoplesAt cX7_peoplesAt 4 (some .int) 1 := ⟨(wg6 130 rfl rfl), (wg6 133 rfl rfl), (wg1 6 rfl rfl), by decide, by decide, by decide +kernel⟩
theorem mw_X10_199 : MW RX10 199 yJ6_bitCount_0f7a4 cJ6_bitCount_0f7a4 1 (some .int) 1 := ⟨(wg6 134 rfl rfl), (wg3 19 rfl rfl), (wg1 21 rfl rfl), by decide, by decide, by decide +kernel⟩
theorem mw_X10_202 : MW RX10 202 yX10_isRing cX10_isRing 2 (some .boolean) 1 := ⟨(wg7 11 rfl rfl), (wg5 165 rfl rfl), (wg1 2 rfl rfl), by decide, by decide, by decide +kernel⟩
theorem mw_X10_206 : MW RX10 206 yX7_oldestPeople cX7_oldestPeople 3 (some .int) 0 := ⟨(wg7 12 rfl rfl), (wg7 15 rfl rfl), (wg1 6 rfl rfl), by decide, by decide, by decide +kernel⟩
theorem mw_X10_210 : MW RX10 210 yX10_isOfOnePeople cX10_isOfOnePeople 6 (some .boolean) 1 := ⟨(wg7 17 rfl rfl), (wg7 20 rfl rfl), (wg1 2 rfl rfl), by decide, by decide, by decide +kernel⟩
theorem mw_X12_73 : MW RX12 73 yX12_plainLaw cX12_plainLaw 1 (none) 0 := ⟨(wg7 117 rfl rfl), (wg7 120 rfl rfl), (wg1 13 rfl rfl), by decide, by decide, by decide +kernel⟩
theorem mw_X12_79 : MW RX12 79 yX12_within cX12_within 6 (some .boolean) 3 := ⟨(wg8 8 rfl rfl), (wg8 10 rfl rfl), (wg1 13 rfl rfl), by decide, by decide, by decide +kernel⟩
theorem mw_X12_89 : MW RX12 89 yX12_fails cX12_fails 2 (some .int) 1 := ⟨(wg8 13 rfl rfl), (wg8 16 rfl rfl), (wg1 13 rfl rfl), by decide, by decide, by decide +kernel⟩
theorem mw_X12_95 : MW RX12 95 yX12_isPaint cX12_isPaint 2 (some .boolean) 1 := ⟨(wg8 25 rfl rfl), (wg8 28 rfl rfl), (wg1 13 rfl rfl), by decide, by decide, by decide +kernel⟩
theorem mw_X12_99 : MW RX12 99 yX12_ofPaint cX12_ofPaint 3 (some .int) 2 := ⟨(wg8 29 rfl rfl), (wg8 32 rfl rfl), (wg1 13 rfl rfl), by decide, by decide, by decide +kernel⟩
theorem mw_X12_103 : MW RX12 103 yX12_handFault cX12_handFault 2 (some .int) 1 := ⟨(wg8 21 rfl rfl), (wg8 24 rfl rfl), (wg1 13 rfl rfl), by decide, by decide, by decide +kernel⟩
theorem mw_X12_106 : MW RX12 106 yX12_areLengths cX12_areLengths 6 (some .boolean) 6 := ⟨(wg8 33 rfl rfl), (wg8 35 rfl rfl), (wg1 13 rfl rfl), by decide, by decide, by decide +kernel⟩
theorem mw_X12_110 : MW RX12 110 yX12_isOrdered cX12_isOrdered 4 (some .boolean) 2 := ⟨(wg8 41 rfl rfl), (wg8 44 rfl rfl), (wg1 13 rfl rfl), by decide, by decide, by decide +kernel⟩
theorem mw_X12_118 : MW RX12 118 yX12_isSkin cX12_isSkin 2 (some .boolean) 1 := ⟨(wg8 54 rfl rfl), (wg8 57 rfl rfl), (wg1 13 rfl rfl), by decide, by decide, by decide +kernel⟩
theorem mw_X12_121 : MW RX12 121 yX12_areCounts cX12_areCounts 6 (some .boolean) 3 := ⟨(wg8 58 rfl rfl), (wg8 60 rfl rfl), (wg1 13 rfl rfl), by decide, by decide, by decide +kernel⟩
theorem mw_X12_124 : MW RX12 124 yX12_ofSkin cX12_ofSkin 3 (some .int) 2 := ⟨(wg8 62 rfl rfl), (wg8 65 rfl rfl), (wg1 13 rfl rfl), by decide, by decide, by decide +kernel⟩
theorem mw_X12_127 : MW RX12 127 yX12_addLayer cX12_addLayer 7 (none) 4 := ⟨(wg8 66 rfl rfl), (wg8 69 rfl rfl), (wg1 13 rfl rfl), by decide, by decide, by decide +kernel⟩
theorem mw_X12_148 : MW RX12 148 yX12_isLetter cX12_isLetter 1 (some .boolean) 1 := ⟨(wg8 91 rfl rfl), (wg8 93 rfl rfl), (wg1 13 rfl rfl), by decide, by decide, by decide +kernel⟩
theorem mw_X12_151 : MW RX12 151 yX12_see cX12_see 2 (some .int) 1 := ⟨(wg8 94 rfl rfl), (wg8 97 rfl rfl), (wg1 13 rfl rfl), by decide, by decide, by decide +kernel⟩
theorem mw_X12_154 : MW RX12 154 yX12_isDigit cX12_isDigit 1 (some .boolean) 1 := ⟨(wg8 98 rfl rfl), (wg8 100 rfl rfl), (wg1 13 rfl rfl), by decide, by decide, by decide +kernel⟩
theorem mw_X12_176 : MW RX12 176 yX12_blames cX12_blames 2 (none) 1 := ⟨(wg8 117 rfl rfl), (wg8 120 rfl rfl), (wg1 13 rfl rfl), by decide, by decide, by decide +kernel⟩
theorem mw_X12_180 : MW RX12 180 yX12_next cX12_next 2 (none) 0 := ⟨(wg8 87 rfl rfl), (wg8 90 rfl rfl), (wg1 13 rfl rfl), by decide, by decide, by decide +kernel⟩
theorem mw_X12_183 : MW RX12 183 yX12_isWord cX12_isWord 4 (some .boolean) 1 := ⟨(wg8 106 rfl rfl), (wg8 109 rfl rfl), (wg1 13 rfl rfl), by decide, by decide, by decide +kernel⟩
theorem mw_X12_202 : MW RX12 202 yX12_number cX12_number 4 (some .int) 2 := ⟨(wg8 121 rfl rfl), (wg8 124 rfl rfl), (wg1 13 rfl rfl), by decide, by decide, by decide +kernel⟩
theorem mw_X12_207 : MW RX12 207 yX12_word cX12_word 2 (none) 1 := ⟨(wg8 126 rfl rfl), (wg8 129 rfl rfl), (wg1 13 rfl rfl), by decide, by decide, by decide +kernel⟩
theorem mw_X12_211 : MW RX12 211 yX12_stop cX12_stop 1 (none) 0 := ⟨(wg8 130 rfl rfl), (wg8 133 rfl rfl), (wg1 13 rfl rfl), by decide, by decide, by decide +kernel⟩
theorem mw_X12_214 : MW RX12 214 yX12_starts cX12_starts 2 (none) 1 := ⟨(wg8 83 rfl rfl), (wg8 86 rfl rfl), (wg1 13 rfl rfl), by decide, by decide, by decide +kernel⟩
theorem mw_X12_217 : MW RX12 217 yX12_lawLine cX12_lawLine 4 (none) 1 := ⟨(wg8 101 rfl rfl), (wg8 104 rfl rfl), (wg1 13 rfl rfl), by decide, by decide, by decide +kernel⟩
theorem mw_X12_220 : MW RX12 220 yX12_ends cX12_ends 2 (some .int) 1 := ⟨(wg8 134 rfl rfl), (wg8 137 rfl rfl), (wg1 13 rfl rfl), by decide, by decide, by decide +kernel⟩
theorem mw_X12_229 : MW RX12 229 yX12_storyLine cX12_storyLine 6 (none) 1 := ⟨(wg8 142 rfl rfl), (wg8 145 rfl rfl), (wg1 13 rfl rfl), by decide, by decide, by decide +kernel⟩
theorem mw_X12_240 : MW RX12 240 yX12_deeper cX12_deeper 1 (none) 0 := ⟨(wg8 179 rfl rfl), (wg8 182 rfl rfl), (wg1 13 rfl rfl), by decide, by decide, by decide +kernel⟩
theorem mw_X12_243 : MW RX12 243 yX12_readFact cX12_readFact 2 (none) 0 := ⟨(wg8 174 rfl rfl), (wg8 177 rfl rfl), (wg1 13 rfl rfl), by decide, by decide, by decide +kernel⟩
theorem mw_X12_246 : MW RX12 246 yX12_puts cX12_puts 2 (none) 1 := ⟨(wg8 161 rfl rfl), (wg8 164 rfl rfl), (wg1 13 rfl rfl), by decide, by decide, by decide +kernel⟩
theorem mw_X12_249 : MW RX12 249 yX12_readTest cX12_readTest 1 (none) 0 := ⟨(wg8 166 rfl rfl), (wg8 169 rfl rfl), (wg1 13 rfl rfl), by decide, by decide, by decide +kernel⟩
theorem mw_X12_268 : MW RX12 268 yX12_readPart cX12_readPart 1 (none) 0 := ⟨(wg8 170 rfl rfl), (wg8 173 rfl rfl), (wg1 13 rfl rfl), by decide, by decide, by decide +kernel⟩
theorem mw_X12_283 : MW RX12 283 yX12_readRule cX12_readRule 3 (none) 0 := ⟨(wg8 153 rfl rfl), (wg8 156 rfl rfl), (wg1 13 rfl rfl), by decide, by decide, by decide +kernel⟩
theorem mw_X12_296 : MW RX12 296 yX12_growth cX12_growth 4 (some .long) 2 := ⟨(wg8 209 rfl rfl), (wg8 212 rfl rfl), (wg1 13 rfl rfl), by decide, by decide, by decide +kernel⟩
theorem mw_X12_300 : MW RX12 300 yX12_isShare cX12_isShare 1 (some .boolean) 1 := ⟨(wg8 200 rfl rfl), (wg8 202 rfl rfl), (wg1 13 rfl rfl), by decide, by decide, by decide +kernel⟩
theorem mw_X12_303 : MW RX12 303 yX12_clock cX12_clock 8 (some .int) 4 := ⟨(wg8 203 rfl rfl), (wg8 206 rfl rfl), (wg1 13 rfl rfl), by decide, by decide, by decide +kernel⟩
theorem mw_X12_307 : MW RX12 307 yX12_counted cX12_counted 4 (some .int) 3 := ⟨(wg8 224 rfl rfl), (wg8 227 rfl rfl), (wg1 13 rfl rfl), by decide, by decide, by decide +kernel⟩
theorem mw_X12_311 : MW RX12 311 yX12_isThin cX12_isThin 2 (some .boolean) 1 := ⟨(wg8 228 rfl rfl), (wg8 231 rfl rfl), (wg1 13 rfl rfl), by decide, by decide, by decide +kernel⟩
theorem mw_X12_314 : MW RX12 314 yX12_spanOf cX12_spanOf 5 (some .int) 4 := ⟨(wg8 236 rfl rfl), (wg8 239 rfl rfl), (wg1 13 rfl rfl), by decide, by decide, by decide +kernel⟩
theorem mw_X12_318 : MW RX12 318 yX12_isThinAt cX12_isThinAt 3 (some .boolean) 2 := ⟨(wg8 220 rfl rfl), (wg8 223 rfl rfl), (wg1 13 rfl rfl), by decide, by decide, by decide +kernel⟩
theorem mw_X12_321 : MW RX12 321 yX12_spanAt cX12_spanAt 4 (some .int) 3 := ⟨(wg8 232 rfl rfl), (wg8 235 rfl rfl), (wg1 13 rfl rfl), by decide, by decide, by decide +kernel⟩
theorem mw_X12_325 : MW RX12 325 yX12_thick cX12_thick 4 (some .int) 1 := ⟨(wg9 8 rfl rfl), (wg9 11 rfl rfl), (wg1 13 rfl rfl), by decide, by decide, by decide +kernel⟩
theorem mw_X12_328 : MW RX12 328 yX12_isTurned cX12_isTurned 4 (some .boolean) 1 := ⟨(wg9 12 rfl rfl), (wg9 15 rfl rfl), (wg1 13 rfl rfl), by decide, by decide, by decide +kernel⟩
theorem mw_X12_331 : MW RX12 331 yX12_sortOf cX12_sortOf 2 (some .int) 1 := ⟨(wg9 4 rfl rfl), (wg9 7 rfl rfl), (wg1 13 rfl rfl), by decide, by decide, by decide +kernel⟩
theorem mw_X12_334 : MW RX12 334 yX12_saysOf cX12_saysOf 5 (some .int) 1 := ⟨(wg9 20 rfl rfl), (wg9 23 rfl rfl), (wg1 13 rfl rfl), by decide, by decide, by decide +kernel⟩
theorem mw_X12_352 : MW RX12 352 yX12_layLeaked cX12_layLeaked 6 (none) 1 := ⟨(wg9 36 rfl rfl), (wg9 39 rfl rfl), (wg1 13 rfl rfl), by decide, by decide, by decide +kernel⟩
theorem mw_X12_355 : MW RX12 355 yX12_fraction cX12_fraction 11 (some .boolean) 2 := ⟨(wg9 41 rfl rfl), (wg9 44 rfl rfl), (wg1 13 rfl rfl), by decide, by decide, by decide +kernel⟩
theorem mw_X12_370 : MW RX12 370 yX12_isDrip cX12_isDrip 4 (some .boolean) 4 := ⟨(wg9 49 rfl rfl), (wg9 51 rfl rfl), (wg1 13 rfl rfl), by decide, by decide, by decide +kernel⟩
theorem mw_X12_374 : MW RX12 374 yX12_dripped cX12_dripped 10 (some .int) 5 := ⟨(wg9 53 rfl rfl), (wg9 56 rfl rfl), (wg1 13 rfl rfl), by decide, by decide, by decide +kernel⟩
theorem mw_X12_378 : MW RX12 378 yX12_isAbove cX12_isAbove 3 (some .boolean) 2 := ⟨(wg9 76 rfl rfl), (wg9 79 rfl rfl), (wg1 13 rfl rfl), by decide, by decide, by decide +kernel⟩
theorem mw_X12_381 : MW RX12 381 yX12_layReach cX12_layReach 5 (none) 0 := ⟨(wg9 68 rfl rfl), (wg9 71 rfl rfl), (wg1 13 rfl rfl), by decide, by decide, by decide +kernel⟩
theorem mw_X12_384 : MW RX12 384 yX12_boundOf cX12_boundOf 8 (some .int) 3 := ⟨(wg9 72 rfl rfl), (wg9 75 rfl rfl), (wg1 13 rfl rfl), by decide, by decide, by decide +kernel⟩
theorem mw_X12_388 : MW RX12 388 yX12_isClash cX12_isClash 2 (some .boolean) 1 := ⟨(wg9 84 rfl rfl), (wg9 87 rfl rfl), (wg1 13 rfl rfl), by decide, by decide, by decide +kernel⟩
theorem mw_X12_391 : MW RX12 391 yX12_sayingMost cX12_sayingMost 5 (some .int) 2 := ⟨(wg9 104 rfl rfl), (wg9 107 rfl rfl), (wg1 13 rfl rfl), by decide, by decide, by decide +kernel⟩
theorem mw_X12_394 : MW RX12 394 yX12_finger cX12_finger 3 (some .int) 2 := ⟨(wg9 129 rfl rfl), (wg9 132 rfl rfl), (wg1 13 rfl rfl), by decide, by decide, by decide +kernel⟩
theorem mw_X12_397 : MW RX12 397 yX12_ofHand cX12_ofHand 3 (some .int) 2 := ⟨(wg9 133 rfl rfl), (wg9 136 rfl rfl), (wg1 13 rfl rfl), by decide, by decide, by decide +kernel⟩
theorem mw_X12_405 : MW RX12 405 yX12_fingerFault cX12_fingerFault 4 (some .int) 3 := ⟨(wg9 120 rfl rfl), (wg9 123 rfl rfl), (wg1 13 rfl rfl), by decide, by decide, by decide +kernel⟩
theorem mw_X12_408 : MW RX12 408 yX12_isLike cX12_isLike 6 (some .boolean) 3 := ⟨(wg9 125 rfl rfl), (wg9 128 rfl rfl), (wg1 13 rfl rfl), by decide, by decide, by decide +kernel⟩
theorem mw_X12_412 : MW RX12 412 yX12_sortFault cX12_sortFault 3 (some .int) 2 := ⟨(wg9 142 rfl rfl), (wg9 145 rfl rfl), (wg1 13 rfl rfl), by decide, by decide, by decide +kernel⟩
theorem mw_X12_415 : MW RX12 415 yX12_nothing cX12_nothing 1 (some .boolean) 0 := ⟨(wg9 146 rfl rfl), (wg9 149 rfl rfl), (wg1 13 rfl rfl), by decide, by decide, by decide +kernel⟩
theorem mw_X12_419 : MW RX12 419 yX12_sign cX12_sign 1 (some .int) 1 := ⟨(wg9 154 rfl rfl), (wg9 156 rfl rfl), (wg1 13 rfl rfl), by decide, by decide, by decide +kernel⟩
theorem mw_X12_421 : MW RX12 421 yX12_dueOf cX12_dueOf 6 (some .int) 2 := ⟨(wg9 161 rfl rfl), (wg9 164 rfl rfl), (wg1 13 rfl rfl), by decide, by decide, by decide +kernel⟩
theorem mw_X12_424 : MW RX12 424 yX12_isStump cX12_isStump 3 (some .boolean) 2 := ⟨(wg9 169 rfl rfl), (wg9 172 rfl rfl), (wg1 13 rfl rfl), by decide, by decide, by decide +kernel⟩
theorem mw_X12_427 : MW RX12 427 yX12_isTray cX12_isTray 1 (some .boolean) 1 := ⟨(wg9 181 rfl rfl), (wg9 183 rfl rfl), (wg1 13 rfl rfl), by decide, by decide, by decide +kernel⟩
theorem mw_X12_430 : MW RX12 430 yX12_wasThere cX12_wasThere 5 (some .boolean) 3 := ⟨(wg9 192 rfl rfl), (wg9 195 rfl rfl), (wg1 13 rfl rfl), by decide, by decide, by decide +kernel⟩
theorem mw_X12_433 : MW RX12 433 yX12_layTimes cX12_layTimes 6 (some .int) 1 := ⟨(wg9 188 rfl rfl), (wg9 191 rfl rfl), (wg1 13 rfl rfl), by decide, by decide, by decide +kernel⟩
theorem mw_X12_436 : MW RX12 436 yX12_peopleFault cX12_peopleFault 3 (some .int) 2 := ⟨(wg9 200 rfl rfl), (wg9 203 rfl rfl), (wg1 13 rfl rfl), by decide, by decide, by decide +kernel⟩
theorem mw_X12_439 : MW RX12 439 yX12_isOnly cX12_isOnly 4 (some .boolean) 2 := ⟨(wg9 212 rfl rfl), (wg9 215 rfl rfl), (wg1 13 rfl rfl), by decide, by decide, by decide +kernel⟩
theorem mw_X12_442 : MW RX12 442 yX12_aloneIn cX12_aloneIn 4 (some .int) 1 := ⟨(wg9 208 rfl rfl), (wg9 211 rfl rfl), (wg1 13 rfl rfl), by decide, by decide, by decide +kernel⟩
theorem mw_X12_445 : MW RX12 445 yX12_isSign cX12_isSign 3 (some .boolean) 2 := ⟨(wg9 220 rfl rfl), (wg9 223 rfl rfl), (wg1 13 rfl rfl), by decide, by decide, by decide +kernel⟩
theorem mw_X12_448 : MW RX12 448 yJ6_bitCount_0f7a4 cJ6_bitCount_0f7a4 1 (some .int) 1 := ⟨(wg9 224 rfl rfl), (wg3 19 rfl rfl), (wg1 21 rfl rfl), by decide, by decide, by decide +kernel⟩
theorem mw_X12_458 : MW RX12 458 yX12_layCandidates cX12_layCandidates 2 (none) 0 := ⟨(wg9 234 rfl rfl), (wg9 237 rfl rfl), (wg1 13 rfl rfl), by decide, by decide, by decide +kernel⟩
theorem mw_X12_461 : MW RX12 461 yX12_grainsOf cX12_grainsOf 4 (some .int) 1 := ⟨(wg9 238 rfl rfl), (wg10 1 rfl rfl), (wg1 13 rfl rfl), by decide, by decide, by decide +kernel⟩
theorem mw_X12_464 : MW RX12 464 yX12_coveredBy cX12_coveredBy 4 (some .int) 1 := ⟨(wg10 2 rfl rfl), (wg10 5 rfl rfl), (wg1 13 rfl rfl), by decide, by decide, by decide +kernel⟩
theorem mw_X12_467 : MW RX12 467 yX12_isBare cX12_isBare 3 (some .boolean) 1 := ⟨(wg10 26 rfl rfl), (wg10 29 rfl rfl), (wg1 13 rfl rfl), by decide, by decide, by decide +kernel⟩
theorem mw_X12_470 : MW RX12 470 yX12_isFact cX12_isFact 4 (some .boolean) 2 := ⟨(wg10 22 rfl rfl), (wg10 25 rfl rfl), (wg1 13 rfl rfl), by decide, by decide, by decide +kernel⟩
theorem mw_X12_473 : MW RX12 473 yX12_isSo cX12_isSo 7 (some .boolean) 3 := ⟨(wg10 18 rfl rfl), (wg10 21 rfl rfl), (wg1 13 rfl rfl), by decide, by decide, by decide +kernel⟩
theorem mw_X12_479 : MW RX12 479 yX12_nextBy cX12_nextBy 6 (some .int) 1 := ⟨(wg10 14 rfl rfl), (wg10 17 rfl rfl), (wg1 13 rfl rfl), by decide, by decide, by decide +kernel⟩
theorem mw_X12_482 : MW RX12 482 yX12_layFollowed cX12_layFollowed 4 (none) 1 := ⟨(wg10 10 rfl rfl), (wg10 13 rfl rfl), (wg1 13 rfl rfl), by decide, by decide, by decide +kernel⟩
theorem mw_X12_485 : MW RX12 485 yX12_plan cX12_plan 7 (some .int) 2 := ⟨(wg10 34 rfl rfl), (wg9 232 rfl rfl), (wg1 13 rfl rfl), by decide, by decide, by decide +kernel⟩
theorem mw_X12_488 : MW RX12 488 yX12_latest cX12_latest 3 (some .int) 0 := ⟨(wg10 39 rfl rfl), (wg10 42 rfl rfl), (wg1 13 rfl rfl), by decide, by decide, by decide +kernel⟩
theorem ms_J6_bitCount_0f7a4 : Cond.static yJ6_bitCount_0f7a4 ∈ WG := (wg3 18 rfl rfl)
theorem ms_J6_compare_7cf53 : Cond.static yJ6_compare_7cf53 ∈ WG := (wg6 29 rfl rfl)
theorem ms_X0_commonOf : Cond.static yX0_commonOf ∈ WG := (wg5 114 rfl rfl)
theorem mv_X0_drop : Cond.instanceMethod yX0_drop ∈ WG ∧ Cond.selects yX0_drop.cls yX0_drop yX0_drop ∈ WG := ⟨(wg5 110 rfl rfl), (wg5 111 rfl rfl)⟩
theorem mv_X0_put : Cond.instanceMethod yX0_put ∈ WG ∧ Cond.selects yX0_put.cls yX0_put yX0_put ∈ WG := ⟨(wg5 106 rfl rfl), (wg5 107 rfl rfl)⟩
theorem mv_X10_aloneOf : Cond.instanceMethod yX10_aloneOf ∈ WG ∧ Cond.selects yX10_aloneOf.cls yX10_aloneOf yX10_aloneOf ∈ WG := ⟨(wg6 143 rfl rfl), (wg6 144 rfl rfl)⟩
theorem mv_X10_bentInto : Cond.instanceMethod yX10_bentInto ∈ WG ∧ Cond.selects yX10_bentInto.cls yX10_bentInto yX10_bentInto ∈ WG := ⟨(wg6 66 rfl rfl), (wg6 67 rfl rfl)⟩
theorem mv_X10_copyFrom : Cond.instanceMethod yX10_copyFrom ∈ WG ∧ Cond.selects yX10_copyFrom.cls yX10_copyFrom yX10_copyFrom ∈ WG := ⟨(wg7 82 rfl rfl), (wg7 83 rfl rfl)⟩
theorem mv_X10_dueOf : Cond.instanceMethod yX10_dueOf ∈ WG ∧ Cond.selects yX10_dueOf.cls yX10_dueOf yX10_dueOf ∈ WG := ⟨(wg6 44 rfl rfl), (wg6 45 rfl rfl)⟩
theorem mv_X10_isClash : Cond.instanceMethod yX10_isClash ∈ WG ∧ Cond.selects yX10_isClash.cls yX10_isClash yX10_isClash ∈ WG := ⟨(wg3 2 rfl rfl), (wg3 3 rfl rfl)⟩
theorem mv_X10_isLike : Cond.instanceMethod yX10_isLike ∈ WG ∧ Cond.selects yX10_isLike.cls yX10_isLike yX10_isLike ∈ WG := ⟨(wg5 234 rfl rfl), (wgs (q := (yX10_isLike, 6)) 25 rfl rfl)⟩
theorem mv_X10_isOfOnePeople : Cond.instanceMethod yX10_isOfOnePeople ∈ WG ∧ Cond.selects yX10_isOfOnePeople.cls yX10_isOfOnePeople yX10_isOfOnePeople ∈ WG := ⟨(wg7 19 rfl rfl), (wgs (q := (yX10_isOfOnePeople, 6)) 37 rfl rfl)⟩
theorem mv_X10_isOpen : Cond.instanceMethod yX10_isOpen ∈ WG ∧ Cond.selects yX10_isOpen.cls yX10_isOpen yX10_isOpen ∈ WG := ⟨(wg6 210 rfl rfl), (wg6 211 rfl rfl)⟩
theorem mv_X10_isRing : Cond.instanceMethod yX10_isRing ∈ WG ∧ Cond.selects yX10_isRing.cls yX10_isRing yX10_isRing ∈ WG := ⟨(wg5 163 rfl rfl), (wg5 164 rfl rfl)⟩
theorem mv_X10_isStump : Cond.instanceMethod yX10_isStump ∈ WG ∧ Cond.selects yX10_isStump.cls yX10_isStump yX10_isStump ∈ WG := ⟨(wg6 55 rfl rfl), (wg6 56 rfl rfl)⟩
theorem mv_X10_leakLower : Cond.instanceMethod yX10_leakLower ∈ WG ∧ Cond.selects yX10_leakLower.cls yX10_leakLower yX10_leakLower ∈ WG := ⟨(wg5 98 rfl rfl), (wg5 99 rfl rfl)⟩
theorem mv_X10_leakUpper : Cond.instanceMethod yX10_leakUpper ∈ WG ∧ Cond.selects yX10_leakUpper.cls yX10_leakUpper yX10_leakUpper ∈ WG := ⟨(wg5 94 rfl rfl), (wg5 95 rfl rfl)⟩
theorem mv_X10_leastOf : Cond.instanceMethod yX10_leastOf ∈ WG ∧ Cond.selects yX10_leastOf.cls yX10_leastOf yX10_leastOf ∈ WG := ⟨(wg3 6 rfl rfl), (wg3 7 rfl rfl)⟩
theorem mv_X10_likesOf : Cond.instanceMethod yX10_likesOf ∈ WG ∧ Cond.selects yX10_likesOf.cls yX10_likesOf yX10_likesOf ∈ WG := ⟨(wg5 229 rfl rfl), (wg5 230 rfl rfl)⟩
theorem mv_X10_livesAt : Cond.instanceMethod yX10_livesAt ∈ WG ∧ Cond.selects yX10_livesAt.cls yX10_livesAt yX10_livesAt ∈ WG := ⟨(wg6 109 rfl rfl), (wgs (q := (yX10_livesAt, 6)) 27 rfl rfl)⟩
theorem mv_X10_mostOf : Cond.instanceMethod yX10_mostOf ∈ WG ∧ Cond.selects yX10_mostOf.cls yX10_mostOf yX10_mostOf ∈ WG := ⟨(wg3 38 rfl rfl), (wg3 39 rfl rfl)⟩
theorem mv_X10_olderInto : Cond.instanceMethod yX10_olderInto ∈ WG ∧ Cond.selects yX10_olderInto.cls yX10_olderInto yX10_olderInto ∈ WG := ⟨(wg5 196 rfl rfl), (wg5 197 rfl rfl)⟩
theorem mv_X10_restsOf : Cond.instanceMethod yX10_restsOf ∈ WG ∧ Cond.selects yX10_restsOf.cls yX10_restsOf yX10_restsOf ∈ WG := ⟨(wg5 185 rfl rfl), (wg5 186 rfl rfl)⟩
theorem mv_X10_ringedInto : Cond.instanceMethod yX10_ringedInto ∈ WG ∧ Cond.selects yX10_ringedInto.cls yX10_ringedInto yX10_ringedInto ∈ WG := ⟨(wg6 25 rfl rfl), (wg6 26 rfl rfl)⟩
theorem mv_X10_sayOf : Cond.instanceMethod yX10_sayOf ∈ WG ∧ Cond.selects yX10_sayOf.cls yX10_sayOf yX10_sayOf ∈ WG := ⟨(wg7 8 rfl rfl), (wg7 9 rfl rfl)⟩
theorem mv_X10_timesOf : Cond.instanceMethod yX10_timesOf ∈ WG ∧ Cond.selects yX10_timesOf.cls yX10_timesOf yX10_timesOf ∈ WG := ⟨(wg6 104 rfl rfl), (wg6 105 rfl rfl)⟩
theorem mv_X10_whoInto : Cond.instanceMethod yX10_whoInto ∈ WG ∧ Cond.selects yX10_whoInto.cls yX10_whoInto yX10_whoInto ∈ WG := ⟨(wg6 127 rfl rfl), (wg6 128 rfl rfl)⟩
theorem mv_X10_whoseInto : Cond.instanceMethod yX10_whoseInto ∈ WG ∧ Cond.selects yX10_whoseInto.cls yX10_whoseInto yX10_whoseInto ∈ WG := ⟨(wg6 7 rfl rfl), (wg6 8 rfl rfl)⟩
theorem ms_X11_askDrip : Cond.static yX11_askDrip ∈ WG := (wg5 124 rfl rfl)
theorem mv_X11_askFilledTray : Cond.instanceMethod yX11_askFilledTray ∈ WG ∧ Cond.selects yX11_askFilledTray.cls yX11_askFilledTray yX11_askFilledTray ∈ WG := ⟨(wg6 80 rfl rfl), (wgs (q := (yX11_askFilledTray, 10)) 26 rfl rfl)⟩
theorem mv_X11_askHand : Cond.instanceMethod yX11_askHand ∈ WG ∧ Cond.selects yX11_askHand.cls yX11_askHand yX11_askHand ∈ WG := ⟨(wg3 159 rfl rfl), (wgs (q := (yX11_askHand, 10)) 3 rfl rfl)⟩
theorem ms_X11_askImage : Cond.static yX11_askImage ∈ WG := (wg7 78 rfl rfl)
theorem ms_X11_askLengths : Cond.static yX11_askLengths ∈ WG := (wg3 198 rfl rfl)
theorem mv_X11_askPaint : Cond.instanceMethod yX11_askPaint ∈ WG ∧ Cond.selects yX11_askPaint.cls yX11_askPaint yX11_askPaint ∈ WG := ⟨(wg3 163 rfl rfl), (wgs (q := (yX11_askPaint, 10)) 4 rfl rfl)⟩
theorem mv_X11_askSkin : Cond.instanceMethod yX11_askSkin ∈ WG ∧ Cond.selects yX11_askSkin.cls yX11_askSkin yX11_askSkin ∈ WG := ⟨(wg3 237 rfl rfl), (wgs (q := (yX11_askSkin, 10)) 5 rfl rfl)⟩
theorem ms_X11_askTray : Cond.static yX11_askTray ∈ WG := (wg6 83 rfl rfl)
theorem ms_X11_askWithin : Cond.static yX11_askWithin ∈ WG := (wg3 73 rfl rfl)
theorem ms_X11_copyRow : Cond.static yX11_copyRow ∈ WG := (wg5 1 rfl rfl)
theorem ms_X11_isIn : Cond.static yX11_isIn ∈ WG := (wg3 32 rfl rfl)
theorem ms_X11_putFive : Cond.static yX11_putFive ∈ WG := (wg3 201 rfl rfl)
theorem mv_X12_addLayer : Cond.instanceMethod yX12_addLayer ∈ WG ∧ Cond.selects yX12_addLayer.cls yX12_addLayer yX12_addLayer ∈ WG := ⟨(wg8 68 rfl rfl), (wgs (q := (yX12_addLayer, 39)) 46 rfl rfl)⟩
theorem mv_X12_aloneIn : Cond.instanceMethod yX12_aloneIn ∈ WG ∧ Cond.selects yX12_aloneIn.cls yX12_aloneIn yX12_aloneIn ∈ WG := ⟨(wg9 210 rfl rfl), (wgs (q := (yX12_aloneIn, 39)) 94 rfl rfl)⟩
theorem ms_X12_areCounts : Cond.static yX12_areCounts ∈ WG := (wg8 59 rfl rfl)
theorem ms_X12_areLengths : Cond.static yX12_areLengths ∈ WG := (wg8 34 rfl rfl)
theorem mv_X12_blames : Cond.instanceMethod yX12_blames ∈ WG ∧ Cond.selects yX12_blames.cls yX12_blames yX12_blames ∈ WG := ⟨(wg8 119 rfl rfl), (wgs (q := (yX12_blames, 39)) 52 rfl rfl)⟩
theorem mv_X12_boundOf : Cond.instanceMethod yX12_boundOf ∈ WG ∧ Cond.selects yX12_boundOf.cls yX12_boundOf yX12_boundOf ∈ WG := ⟨(wg9 74 rfl rfl), (wgs (q := (yX12_boundOf, 39)) 79 rfl rfl)⟩
theorem mv_X12_clock : Cond.instanceMethod yX12_clock ∈ WG ∧ Cond.selects yX12_clock.cls yX12_clock yX12_clock ∈ WG := ⟨(wg8 205 rfl rfl), (wgs (q := (yX12_clock, 39)) 64 rfl rfl)⟩
theorem mv_X12_counted : Cond.instanceMethod yX12_counted ∈ WG ∧ Cond.selects yX12_counted.cls yX12_counted yX12_counted ∈ WG := ⟨(wg8 226 rfl rfl), (wgs (q := (yX12_counted, 39)) 67 rfl rfl)⟩
theorem mv_X12_coveredBy : Cond.instanceMethod yX12_coveredBy ∈ WG ∧ Cond.selects yX12_coveredBy.cls yX12_coveredBy yX12_coveredBy ∈ WG := ⟨(wg10 4 rfl rfl), (wgs (q := (yX12_coveredBy, 39)) 99 rfl rfl)⟩
theorem mv_X12_deeper : Cond.instanceMethod yX12_deeper ∈ WG ∧ Cond.selects yX12_deeper.cls yX12_deeper yX12_deeper ∈ WG := ⟨(wg8 181 rfl rfl), (wgs (q := (yX12_deeper, 39)) 63 rfl rfl)⟩
theorem mv_X12_dripped : Cond.instanceMethod yX12_dripped ∈ WG ∧ Cond.selects yX12_dripped.cls yX12_dripped yX12_dripped ∈ WG := ⟨(wg9 55 rfl rfl), (wgs (q := (yX12_dripped, 39)) 77 rfl rfl)⟩
theorem mv_X12_dueOf : Cond.instanceMethod yX12_dueOf ∈ WG ∧ Cond.selects yX12_dueOf.cls yX12_dueOf yX12_dueOf ∈ WG := ⟨(wg9 163 rfl rfl), (wgs (q := (yX12_dueOf, 39)) 89 rfl rfl)⟩
theorem mv_X12_ends : Cond.instanceMethod yX12_ends ∈ WG ∧ Cond.selects yX12_ends.cls yX12_ends yX12_ends ∈ WG := ⟨(wg8 136 rfl rfl), (wgs (q := (yX12_ends, 39)) 56 rfl rfl)⟩
theorem mv_X12_fails : Cond.instanceMethod yX12_fails ∈ WG ∧ Cond.selects yX12_fails.cls yX12_fails yX12_fails ∈ WG := ⟨(wg8 15 rfl rfl), (wgs (q := (yX12_fails, 39)) 39 rfl rfl)⟩
theorem mv_X12_finger : Cond.instanceMethod yX12_finger ∈ WG ∧ Cond.selects yX12_finger.cls yX12_finger yX12_finger ∈ WG := ⟨(wg9 131 rfl rfl), (wgs (q := (yX12_finger, 39)) 85 rfl rfl)⟩
theorem mv_X12_fingerFault : Cond.instanceMethod yX12_fingerFault ∈ WG ∧ Cond.selects yX12_fingerFault.cls yX12_fingerFault yX12_fingerFault ∈ WG := ⟨(wg9 122 rfl rfl), (wgs (q := (yX12_fingerFault, 39)) 83 rfl rfl)⟩
theorem mv_X12_fraction : Cond.instanceMethod yX12_fraction ∈ WG ∧ Cond.selects yX12_fraction.cls yX12_fraction yX12_fraction ∈ WG := ⟨(wg9 43 rfl rfl), (wgs (q := (yX12_fraction, 39)) 76 rfl rfl)⟩
theorem mv_X12_grainsOf : Cond.instanceMethod yX12_grainsOf ∈ WG ∧ Cond.selects yX12_grainsOf.cls yX12_grainsOf yX12_grainsOf ∈ WG := ⟨(wg10 0 rfl rfl), (wgs (q := (yX12_grainsOf, 39)) 98 rfl rfl)⟩
theorem mv_X12_growth : Cond.instanceMethod yX12_growth ∈ WG ∧ Cond.selects yX12_growth.cls yX12_growth yX12_growth ∈ WG := ⟨(wg8 211 rfl rfl), (wgs (q := (yX12_growth, 39)) 65 rfl rfl)⟩
theorem mv_X12_handFault : Cond.instanceMethod yX12_handFault ∈ WG ∧ Cond.selects yX12_handFault.cls yX12_handFault yX12_handFault ∈ WG := ⟨(wg8 23 rfl rfl), (wgs (q := (yX12_handFault, 39)) 40 rfl rfl)⟩
theorem mv_X12_isAbove : Cond.instanceMethod yX12_isAbove ∈ WG ∧ Cond.selects yX12_isAbove.cls yX12_isAbove yX12_isAbove ∈ WG := ⟨(wg9 78 rfl rfl), (wgs (q := (yX12_isAbove, 39)) 80 rfl rfl)⟩
theorem mv_X12_isBare : Cond.instanceMethod yX12_isBare ∈ WG ∧ Cond.selects yX12_isBare.cls yX12_isBare yX12_isBare ∈ WG := ⟨(wg10 28 rfl rfl), (wgs (q := (yX12_isBare, 39)) 104 rfl rfl)⟩
theorem mv_X12_isClash : Cond.instanceMethod yX12_isClash ∈ WG ∧ Cond.selects yX12_isClash.cls yX12_isClash yX12_isClash ∈ WG := ⟨(wg9 86 rfl rfl), (wgs (q := (yX12_isClash, 39)) 81 rfl rfl)⟩
theorem ms_X12_isDigit : Cond.static yX12_isDigit ∈ WG := (wg8 99 rfl rfl)
theorem ms_X12_isDrip : Cond.static yX12_isDrip ∈ WG := (wg9 50 rfl rfl)
theorem mv_X12_isFact : Cond.instanceMethod yX12_isFact ∈ WG ∧ Cond.selects yX12_isFact.cls yX12_isFact yX12_isFact ∈ WG := ⟨(wg10 24 rfl rfl), (wgs (q := (yX12_isFact, 39)) 103 rfl rfl)⟩
theorem ms_X12_isLetter : Cond.static yX12_isLetter ∈ WG := (wg8 92 rfl rfl)
theorem mv_X12_isLike : Cond.instanceMethod yX12_isLike ∈ WG ∧ Cond.selects yX12_isLike.cls yX12_isLike yX12_isLike ∈ WG := ⟨(wg9 127 rfl rfl), (wgs (q := (yX12_isLike, 39)) 84 rfl rfl)⟩
theorem mv_X12_isOnly : Cond.instanceMethod yX12_isOnly ∈ WG ∧ Cond.selects yX12_isOnly.cls yX12_isOnly yX12_isOnly ∈ WG := ⟨(wg9 214 rfl rfl), (wgs (q := (yX12_isOnly, 39)) 95 rfl rfl)⟩
theorem mv_X12_isOrdered : Cond.instanceMethod yX12_isOrdered ∈ WG ∧ Cond.selects yX12_isOrdered.cls yX12_isOrdered yX12_isOrdered ∈ WG := ⟨(wg8 43 rfl rfl), (wgs (q := (yX12_isOrdered, 39)) 43 rfl rfl)⟩
theorem mv_X12_isPaint : Cond.instanceMethod yX12_isPaint ∈ WG ∧ Cond.selects yX12_isPaint.cls yX12_isPaint yX12_isPaint ∈ WG := ⟨(wg8 27 rfl rfl), (wgs (q := (yX12_isPaint, 39)) 41 rfl rfl)⟩
theorem ms_X12_isShare : Cond.static yX12_isShare ∈ WG := (wg8 201 rfl rfl)
theorem mv_X12_isSign : Cond.instanceMethod yX12_isSign ∈ WG ∧ Cond.selects yX12_isSign.cls yX12_isSign yX12_isSign ∈ WG := ⟨(wg9 222 rfl rfl), (wgs (q := (yX12_isSign, 39)) 96 rfl rfl)⟩
theorem mv_X12_isSkin : Cond.instanceMethod yX12_isSkin ∈ WG ∧ Cond.selects yX12_isSkin.cls yX12_isSkin yX12_isSkin ∈ WG := ⟨(wg8 56 rfl rfl), (wgs (q := (yX12_isSkin, 39)) 44 rfl rfl)⟩
theorem mv_X12_isSo : Cond.instanceMethod yX12_isSo ∈ WG ∧ Cond.selects yX12_isSo.cls yX12_isSo yX12_isSo ∈ WG := ⟨(wg10 20 rfl rfl), (wgs (q := (yX12_isSo, 39)) 102 rfl rfl)⟩
theorem mv_X12_isStump : Cond.instanceMethod yX12_isStump ∈ WG ∧ Cond.selects yX12_isStump.cls yX12_isStump yX12_isStump ∈ WG := ⟨(wg9 171 rfl rfl), (wgs (q := (yX12_isStump, 39)) 90 rfl rfl)⟩
theorem mv_X12_isThin : Cond.instanceMethod yX12_isThin ∈ WG ∧ Cond.selects yX12_isThin.cls yX12_isThin yX12_isThin ∈ WG := ⟨(wg8 230 rfl rfl), (wgs (q := (yX12_isThin, 39)) 68 rfl rfl)⟩
theorem mv_X12_isThinAt : Cond.instanceMethod yX12_isThinAt ∈ WG ∧ Cond.selects yX12_isThinAt.cls yX12_isThinAt yX12_isThinAt ∈ WG := ⟨(wg8 222 rfl rfl), (wgs (q := (yX12_isThinAt, 39)) 66 rfl rfl)⟩
theorem ms_X12_isTray : Cond.static yX12_isTray ∈ WG := (wg9 182 rfl rfl)
theorem mv_X12_isTurned : Cond.instanceMethod yX12_isTurned ∈ WG ∧ Cond.selects yX12_isTurned.cls yX12_isTurned yX12_isTurned ∈ WG := ⟨(wg9 14 rfl rfl), (wgs (q := (yX12_isTurned, 39)) 73 rfl rfl)⟩
theorem mv_X12_isWord : Cond.instanceMethod yX12_isWord ∈ WG ∧ Cond.selects yX12_isWord.cls yX12_isWord yX12_isWord ∈ WG := ⟨(wg8 108 rfl rfl), (wgs (q := (yX12_isWord, 39)) 51 rfl rfl)⟩
theorem mv_X12_latest : Cond.instanceMethod yX12_latest ∈ WG ∧ Cond.selects yX12_latest.cls yX12_latest yX12_latest ∈ WG := ⟨(wg10 41 rfl rfl), (wgs (q := (yX12_latest, 39)) 105 rfl rfl)⟩
theorem mv_X12_lawLine : Cond.instanceMethod yX12_lawLine ∈ WG ∧ Cond.selects yX12_lawLine.cls yX12_lawLine yX12_lawLine ∈ WG := ⟨(wg8 103 rfl rfl), (wgs (q := (yX12_lawLine, 39)) 50 rfl rfl)⟩
theorem mv_X12_layCandidates : Cond.instanceMethod yX12_layCandidates ∈ WG ∧ Cond.selects yX12_layCandidates.cls yX12_layCandidates yX12_layCandidates ∈ WG := ⟨(wg9 236 rfl rfl), (wgs (q := (yX12_layCandidates, 39)) 97 rfl rfl)⟩
theorem mv_X12_layFollowed : Cond.instanceMethod yX12_layFollowed ∈ WG ∧ Cond.selects yX12_layFollowed.cls yX12_layFollowed yX12_layFollowed ∈ WG := ⟨(wg10 12 rfl rfl), (wgs (q := (yX12_layFollowed, 39)) 100 rfl rfl)⟩
theorem mv_X12_layLeaked : Cond.instanceMethod yX12_layLeaked ∈ WG ∧ Cond.selects yX12_layLeaked.cls yX12_layLeaked yX12_layLeaked ∈ WG := ⟨(wg9 38 rfl rfl), (wgs (q := (yX12_layLeaked, 39)) 75 rfl rfl)⟩
theorem mv_X12_layReach : Cond.instanceMethod yX12_layReach ∈ WG ∧ Cond.selects yX12_layReach.cls yX12_layReach yX12_layReach ∈ WG := ⟨(wg9 70 rfl rfl), (wgs (q := (yX12_layReach, 39)) 78 rfl rfl)⟩
theorem mv_X12_layTimes : Cond.instanceMethod yX12_layTimes ∈ WG ∧ Cond.selects yX12_layTimes.cls yX12_layTimes yX12_layTimes ∈ WG := ⟨(wg9 190 rfl rfl), (wgs (q := (yX12_layTimes, 39)) 91 rfl rfl)⟩
theorem mv_X12_next : Cond.instanceMethod yX12_next ∈ WG ∧ Cond.selects yX12_next.cls yX12_next yX12_next ∈ WG := ⟨(wg8 89 rfl rfl), (wgs (q := (yX12_next, 39)) 48 rfl rfl)⟩
theorem mv_X12_nextBy : Cond.instanceMethod yX12_nextBy ∈ WG ∧ Cond.selects yX12_nextBy.cls yX12_nextBy yX12_nextBy ∈ WG := ⟨(wg10 16 rfl rfl), (wgs (q := (yX12_nextBy, 39)) 101 rfl rfl)⟩
theorem mv_X12_nothing : Cond.instanceMethod yX12_nothing ∈ WG ∧ Cond.selects yX12_nothing.cls yX12_nothing yX12_nothing ∈ WG := ⟨(wg9 148 rfl rfl), (wgs (q := (yX12_nothing, 39)) 88 rfl rfl)⟩
theorem mv_X12_number : Cond.instanceMethod yX12_number ∈ WG ∧ Cond.selects yX12_number.cls yX12_number yX12_number ∈ WG := ⟨(wg8 123 rfl rfl), (wgs (q := (yX12_number, 39)) 53 rfl rfl)⟩
theorem mv_X12_ofHand : Cond.instanceMethod yX12_ofHand ∈ WG ∧ Cond.selects yX12_ofHand.cls yX12_ofHand yX12_ofHand ∈ WG := ⟨(wg9 135 rfl rfl), (wgs (q := (yX12_ofHand, 39)) 86 rfl rfl)⟩
theorem mv_X12_ofPaint : Cond.instanceMethod yX12_ofPaint ∈ WG ∧ Cond.selects yX12_ofPaint.cls yX12_ofPaint yX12_ofPaint ∈ WG := ⟨(wg8 31 rfl rfl), (wgs (q := (yX12_ofPaint, 39)) 42 rfl rfl)⟩
theorem mv_X12_ofSkin : Cond.instanceMethod yX12_ofSkin ∈ WG ∧ Cond.selects yX12_ofSkin.cls yX12_ofSkin yX12_ofSkin ∈ WG := ⟨(wg8 64 rfl rfl), (wgs (q := (yX12_ofSkin, 39)) 45 rfl rfl)⟩
theorem mv_X12_peopleFault : Cond.instanceMethod yX12_peopleFault ∈ WG ∧ Cond.selects yX12_peopleFault.cls yX12_peopleFault yX12_peopleFault ∈ WG := ⟨(wg9 202 rfl rfl), (wgs (q := (yX12_peopleFault, 39)) 93 rfl rfl)⟩
theorem mv_X12_plainLaw : Cond.instanceMethod yX12_plainLaw ∈ WG ∧ Cond.selects yX12_plainLaw.cls yX12_plainLaw yX12_plainLaw ∈ WG := ⟨(wg7 119 rfl rfl), (wgs (q := (yX12_plainLaw, 39)) 38 rfl rfl)⟩
theorem mv_X12_plan : Cond.instanceMethod yX12_plan ∈ WG ∧ Cond.selects yX12_plan.cls yX12_plan yX12_plan ∈ WG := ⟨(wg9 230 rfl rfl), (wg9 231 rfl rfl)⟩
theorem mv_X12_puts : Cond.instanceMethod yX12_puts ∈ WG ∧ Cond.selects yX12_puts.cls yX12_puts yX12_puts ∈ WG := ⟨(wg8 163 rfl rfl), (wgs (q := (yX12_puts, 39)) 59 rfl rfl)⟩
theorem mv_X12_readFact : Cond.instanceMethod yX12_readFact ∈ WG ∧ Cond.selects yX12_readFact.cls yX12_readFact yX12_readFact ∈ WG := ⟨(wg8 176 rfl rfl), (wgs (q := (yX12_readFact, 39)) 62 rfl rfl)⟩
theorem mv_X12_readPart : Cond.instanceMethod yX12_readPart ∈ WG ∧ Cond.selects yX12_readPart.cls yX12_readPart yX12_readPart ∈ WG := ⟨(wg8 172 rfl rfl), (wgs (q := (yX12_readPart, 39)) 61 rfl rfl)⟩
theorem mv_X12_readRule : Cond.instanceMethod yX12_readRule ∈ WG ∧ Cond.selects yX12_readRule.cls yX12_readRule yX12_readRule ∈ WG := ⟨(wg8 155 rfl rfl), (wgs (q := (yX12_readRule, 39)) 58 rfl rfl)⟩
theorem mv_X12_readTest : Cond.instanceMethod yX12_readTest ∈ WG ∧ Cond.selects yX12_readTest.cls yX12_readTest yX12_readTest ∈ WG := ⟨(wg8 168 rfl rfl), (wgs (q := (yX12_readTest, 39)) 60 rfl rfl)⟩
theorem mv_X12_sayingMost : Cond.instanceMethod yX12_sayingMost ∈ WG ∧ Cond.selects yX12_sayingMost.cls yX12_sayingMost yX12_sayingMost ∈ WG := ⟨(wg9 106 rfl rfl), (wgs (q := (yX12_sayingMost, 39)) 82 rfl rfl)⟩
theorem mv_X12_saysOf : Cond.instanceMethod yX12_saysOf ∈ WG ∧ Cond.selects yX12_saysOf.cls yX12_saysOf yX12_saysOf ∈ WG := ⟨(wg9 22 rfl rfl), (wgs (q := (yX12_saysOf, 39)) 74 rfl rfl)⟩
theorem mv_X12_see : Cond.instanceMethod yX12_see ∈ WG ∧ Cond.selects yX12_see.cls yX12_see yX12_see ∈ WG := ⟨(wg8 96 rfl rfl), (wgs (q := (yX12_see, 39)) 49 rfl rfl)⟩
theorem ms_X12_sign : Cond.static yX12_sign ∈ WG := (wg9 155 rfl rfl)
theorem mv_X12_sortFault : Cond.instanceMethod yX12_sortFault ∈ WG ∧ Cond.selects yX12_sortFault.cls yX12_sortFault yX12_sortFault ∈ WG := ⟨(wg9 144 rfl rfl), (wgs (q := (yX12_sortFault, 39)) 87 rfl rfl)⟩
theorem mv_X12_sortOf : Cond.instanceMethod yX12_sortOf ∈ WG ∧ Cond.selects yX12_sortOf.cls yX12_sortOf yX12_sortOf ∈ WG := ⟨(wg9 6 rfl rfl), (wgs (q := (yX12_sortOf, 39)) 71 rfl rfl)⟩
theorem mv_X12_spanAt : Cond.instanceMethod yX12_spanAt ∈ WG ∧ Cond.selects yX12_spanAt.cls yX12_spanAt yX12_spanAt ∈ WG := ⟨(wg8 234 rfl rfl), (wgs (q := (yX12_spanAt, 39)) 69 rfl rfl)⟩
theorem mv_X12_spanOf : Cond.instanceMethod yX12_spanOf ∈ WG ∧ Cond.selects yX12_spanOf.cls yX12_spanOf yX12_spanOf ∈ WG := ⟨(wg8 238 rfl rfl), (wgs (q := (yX12_spanOf, 39)) 70 rfl rfl)⟩
theorem mv_X12_starts : Cond.instanceMethod yX12_starts ∈ WG ∧ Cond.selects yX12_starts.cls yX12_starts yX12_starts ∈ WG := ⟨(wg8 85 rfl rfl), (wgs (q := (yX12_starts, 39)) 47 rfl rfl)⟩
theorem mv_X12_stop : Cond.instanceMethod yX12_stop ∈ WG ∧ Cond.selects yX12_stop.cls yX12_stop yX12_stop ∈ WG := ⟨(wg8 132 rfl rfl), (wgs (q := (yX12_stop, 39)) 55 rfl rfl)⟩
theorem mv_X12_storyLine : Cond.instanceMethod yX12_storyLine ∈ WG ∧ Cond.selects yX12_storyLine.cls yX12_storyLine yX12_storyLine ∈ WG := ⟨(wg8 144 rfl rfl), (wgs (q := (yX12_storyLine, 39)) 57 rfl rfl)⟩
theorem mv_X12_thick : Cond.instanceMethod yX12_thick ∈ WG ∧ Cond.selects yX12_thick.cls yX12_thick yX12_thick ∈ WG := ⟨(wg9 10 rfl rfl), (wgs (q := (yX12_thick, 39)) 72 rfl rfl)⟩
theorem mv_X12_wasThere : Cond.instanceMethod yX12_wasThere ∈ WG ∧ Cond.selects yX12_wasThere.cls yX12_wasThere yX12_wasThere ∈ WG := ⟨(wg9 194 rfl rfl), (wgs (q := (yX12_wasThere, 39)) 92 rfl rfl)⟩
theorem ms_X12_within : Cond.static yX12_within ∈ WG := (wg8 9 rfl rfl)
theorem mv_X12_word : Cond.instanceMethod yX12_word ∈ WG ∧ Cond.selects yX12_word.cls yX12_word yX12_word ∈ WG := ⟨(wg8 128 rfl rfl), (wgs (q := (yX12_word, 39)) 54 rfl rfl)⟩
theorem mv_X1_copyFrom : Cond.instanceMethod yX1_copyFrom ∈ WG ∧ Cond.selects yX1_copyFrom.cls yX1_copyFrom yX1_copyFrom ∈ WG := ⟨(wg7 99 rfl rfl), (wg7 100 rfl rfl)⟩
theorem mv_X1_ofSort : Cond.instanceMethod yX1_ofSort ∈ WG ∧ Cond.selects yX1_ofSort.cls yX1_ofSort yX1_ofSort ∈ WG := ⟨(wg6 11 rfl rfl), (wg6 12 rfl rfl)⟩
theorem mv_X1_ringStands : Cond.instanceMethod yX1_ringStands ∈ WG ∧ Cond.selects yX1_ringStands.cls yX1_ringStands yX1_ringStands ∈ WG := ⟨(wg6 32 rfl rfl), (wg6 33 rfl rfl)⟩
theorem mv_X2_ageAt : Cond.instanceMethod yX2_ageAt ∈ WG ∧ Cond.selects yX2_ageAt.cls yX2_ageAt yX2_ageAt ∈ WG := ⟨(wg4 22 rfl rfl), (wgs (q := (yX2_ageAt, 8)) 7 rfl rfl)⟩
theorem mv_X2_ageFor : Cond.instanceMethod yX2_ageFor ∈ WG ∧ Cond.selects yX2_ageFor.cls yX2_ageFor yX2_ageFor ∈ WG := ⟨(wg5 61 rfl rfl), (wg5 62 rfl rfl)⟩
theorem mv_X2_clocksLike : Cond.instanceMethod yX2_clocksLike ∈ WG ∧ Cond.selects yX2_clocksLike.cls yX2_clocksLike yX2_clocksLike ∈ WG := ⟨(wg4 205 rfl rfl), (wg4 206 rfl rfl)⟩
theorem mv_X2_copyFrom : Cond.instanceMethod yX2_copyFrom ∈ WG ∧ Cond.selects yX2_copyFrom.cls yX2_copyFrom yX2_copyFrom ∈ WG := ⟨(wg4 209 rfl rfl), (wg4 210 rfl rfl)⟩
theorem mv_X2_drawn : Cond.instanceMethod yX2_drawn ∈ WG ∧ Cond.selects yX2_drawn.cls yX2_drawn yX2_drawn ∈ WG := ⟨(wg5 131 rfl rfl), (wg5 132 rfl rfl)⟩
theorem mv_X2_goalAbove : Cond.instanceMethod yX2_goalAbove ∈ WG ∧ Cond.selects yX2_goalAbove.cls yX2_goalAbove yX2_goalAbove ∈ WG := ⟨(wg4 34 rfl rfl), (wg4 35 rfl rfl)⟩
theorem mv_X2_goalBelow : Cond.instanceMethod yX2_goalBelow ∈ WG ∧ Cond.selects yX2_goalBelow.cls yX2_goalBelow yX2_goalBelow ∈ WG := ⟨(wg4 17 rfl rfl), (wg4 18 rfl rfl)⟩
theorem mv_X2_greatestFor : Cond.instanceMethod yX2_greatestFor ∈ WG ∧ Cond.selects yX2_greatestFor.cls yX2_greatestFor yX2_greatestFor ∈ WG := ⟨(wg4 30 rfl rfl), (wg4 31 rfl rfl)⟩
theorem mv_X2_grownBy : Cond.instanceMethod yX2_grownBy ∈ WG ∧ Cond.selects yX2_grownBy.cls yX2_grownBy yX2_grownBy ∈ WG := ⟨(wg5 127 rfl rfl), (wg5 128 rfl rfl)⟩
theorem mv_X2_growth : Cond.instanceMethod yX2_growth ∈ WG ∧ Cond.selects yX2_growth.cls yX2_growth yX2_growth ∈ WG := ⟨(wg4 26 rfl rfl), (wgs (q := (yX2_growth, 8)) 8 rfl rfl)⟩
theorem mv_X2_isThin : Cond.instanceMethod yX2_isThin ∈ WG ∧ Cond.selects yX2_isThin.cls yX2_isThin yX2_isThin ∈ WG := ⟨(wg4 9 rfl rfl), (wg4 10 rfl rfl)⟩
theorem mv_X2_leastFor : Cond.instanceMethod yX2_leastFor ∈ WG ∧ Cond.selects yX2_leastFor.cls yX2_leastFor yX2_leastFor ∈ WG := ⟨(wg4 13 rfl rfl), (wg4 14 rfl rfl)⟩
theorem mv_X2_readFrom : Cond.instanceMethod yX2_readFrom ∈ WG ∧ Cond.selects yX2_readFrom.cls yX2_readFrom yX2_readFrom ∈ WG := ⟨(wg4 149 rfl rfl), (wg4 150 rfl rfl)⟩
theorem mv_X2_readLine : Cond.instanceMethod yX2_readLine ∈ WG ∧ Cond.selects yX2_readLine.cls yX2_readLine yX2_readLine ∈ WG := ⟨(wg4 174 rfl rfl), (wgs (q := (yX2_readLine, 8)) 18 rfl rfl)⟩
theorem mv_X2_reset : Cond.instanceMethod yX2_reset ∈ WG ∧ Cond.selects yX2_reset.cls yX2_reset yX2_reset ∈ WG := ⟨(wg1 155 rfl rfl), (wgs (q := (yX2_reset, 8)) 0 rfl rfl)⟩
theorem mv_X3_add : Cond.instanceMethod yX3_add ∈ WG ∧ Cond.selects yX3_add.cls yX3_add yX3_add ∈ WG := ⟨(wg3 145 rfl rfl), (wg3 146 rfl rfl)⟩
theorem mv_X3_copyFrom : Cond.instanceMethod yX3_copyFrom ∈ WG ∧ Cond.selects yX3_copyFrom.cls yX3_copyFrom yX3_copyFrom ∈ WG := ⟨(wg7 86 rfl rfl), (wg7 87 rfl rfl)⟩
theorem mv_X3_isSign : Cond.instanceMethod yX3_isSign ∈ WG ∧ Cond.selects yX3_isSign.cls yX3_isSign yX3_isSign ∈ WG := ⟨(wg6 154 rfl rfl), (wg6 155 rfl rfl)⟩
theorem mv_X3_layOver : Cond.instanceMethod yX3_layOver ∈ WG ∧ Cond.selects yX3_layOver.cls yX3_layOver yX3_layOver ∈ WG := ⟨(wg3 212 rfl rfl), (wg3 213 rfl rfl)⟩
theorem mv_X3_reach : Cond.instanceMethod yX3_reach ∈ WG ∧ Cond.selects yX3_reach.cls yX3_reach yX3_reach ∈ WG := ⟨(wg3 14 rfl rfl), (wg3 15 rfl rfl)⟩
theorem mv_X3_withAbove : Cond.instanceMethod yX3_withAbove ∈ WG ∧ Cond.selects yX3_withAbove.cls yX3_withAbove yX3_withAbove ∈ WG := ⟨(wg3 10 rfl rfl), (wg3 11 rfl rfl)⟩
theorem mv_X3_withBelow : Cond.instanceMethod yX3_withBelow ∈ WG ∧ Cond.selects yX3_withBelow.cls yX3_withBelow yX3_withBelow ∈ WG := ⟨(wg3 42 rfl rfl), (wg3 43 rfl rfl)⟩
theorem mv_X4_copyFrom : Cond.instanceMethod yX4_copyFrom ∈ WG ∧ Cond.selects yX4_copyFrom.cls yX4_copyFrom yX4_copyFrom ∈ WG := ⟨(wg5 49 rfl rfl), (wg5 50 rfl rfl)⟩
theorem mv_X4_keepStep : Cond.instanceMethod yX4_keepStep ∈ WG ∧ Cond.selects yX4_keepStep.cls yX4_keepStep yX4_keepStep ∈ WG := ⟨(wg5 44 rfl rfl), (wgs (q := (yX4_keepStep, 6)) 24 rfl rfl)⟩
theorem mv_X4_readFact : Cond.instanceMethod yX4_readFact ∈ WG ∧ Cond.selects yX4_readFact.cls yX4_readFact yX4_readFact ∈ WG := ⟨(wg5 36 rfl rfl), (wgs (q := (yX4_readFact, 6)) 23 rfl rfl)⟩
theorem mv_X4_readFrom : Cond.instanceMethod yX4_readFrom ∈ WG ∧ Cond.selects yX4_readFrom.cls yX4_readFrom yX4_readFrom ∈ WG := ⟨(wg5 15 rfl rfl), (wg5 16 rfl rfl)⟩
theorem mv_X4_readPart : Cond.instanceMethod yX4_readPart ∈ WG ∧ Cond.selects yX4_readPart.cls yX4_readPart yX4_readPart ∈ WG := ⟨(wg5 32 rfl rfl), (wgs (q := (yX4_readPart, 6)) 22 rfl rfl)⟩
theorem mv_X4_readRule : Cond.instanceMethod yX4_readRule ∈ WG ∧ Cond.selects yX4_readRule.cls yX4_readRule yX4_readRule ∈ WG := ⟨(wg5 22 rfl rfl), (wgs (q := (yX4_readRule, 6)) 20 rfl rfl)⟩
theorem mv_X4_readTest : Cond.instanceMethod yX4_readTest ∈ WG ∧ Cond.selects yX4_readTest.cls yX4_readTest yX4_readTest ∈ WG := ⟨(wg5 28 rfl rfl), (wgs (q := (yX4_readTest, 6)) 21 rfl rfl)⟩
theorem mv_X5_findChoices : Cond.instanceMethod yX5_findChoices ∈ WG ∧ Cond.selects yX5_findChoices.cls yX5_findChoices yX5_findChoices ∈ WG := ⟨(wg6 177 rfl rfl), (wgs (q := (yX5_findChoices, 12)) 29 rfl rfl)⟩
theorem mv_X5_holds : Cond.instanceMethod yX5_holds ∈ WG ∧ Cond.selects yX5_holds.cls yX5_holds yX5_holds ∈ WG := ⟨(wg6 223 rfl rfl), (wgs (q := (yX5_holds, 12)) 34 rfl rfl)⟩
theorem mv_X5_isFact : Cond.instanceMethod yX5_isFact ∈ WG ∧ Cond.selects yX5_isFact.cls yX5_isFact yX5_isFact ∈ WG := ⟨(wg6 227 rfl rfl), (wgs (q := (yX5_isFact, 12)) 35 rfl rfl)⟩
theorem mv_X5_lookAt : Cond.instanceMethod yX5_lookAt ∈ WG ∧ Cond.selects yX5_lookAt.cls yX5_lookAt yX5_lookAt ∈ WG := ⟨(wg6 191 rfl rfl), (wgs (q := (yX5_lookAt, 12)) 30 rfl rfl)⟩
theorem mv_X5_makePlan : Cond.instanceMethod yX5_makePlan ∈ WG ∧ Cond.selects yX5_makePlan.cls yX5_makePlan yX5_makePlan ∈ WG := ⟨(wg6 172 rfl rfl), (wg6 173 rfl rfl)⟩
theorem mv_X5_makeRow : Cond.instanceMethod yX5_makeRow ∈ WG ∧ Cond.selects yX5_makeRow.cls yX5_makeRow yX5_makeRow ∈ WG := ⟨(wg6 206 rfl rfl), (wg6 207 rfl rfl)⟩
theorem mv_X5_nextByRule : Cond.instanceMethod yX5_nextByRule ∈ WG ∧ Cond.selects yX5_nextByRule.cls yX5_nextByRule yX5_nextByRule ∈ WG := ⟨(wg6 219 rfl rfl), (wgs (q := (yX5_nextByRule, 12)) 33 rfl rfl)⟩
theorem mv_X5_nextByRules : Cond.instanceMethod yX5_nextByRules ∈ WG ∧ Cond.selects yX5_nextByRules.cls yX5_nextByRules yX5_nextByRules ∈ WG := ⟨(wg6 215 rfl rfl), (wgs (q := (yX5_nextByRules, 12)) 32 rfl rfl)⟩
theorem mv_X5_skinsOf : Cond.instanceMethod yX5_skinsOf ∈ WG ∧ Cond.selects yX5_skinsOf.cls yX5_skinsOf yX5_skinsOf ∈ WG := ⟨(wg6 195 rfl rfl), (wgs (q := (yX5_skinsOf, 12)) 31 rfl rfl)⟩
theorem mv_X5_take : Cond.instanceMethod yX5_take ∈ WG ∧ Cond.selects yX5_take.cls yX5_take yX5_take ∈ WG := ⟨(wg6 231 rfl rfl), (wgs (q := (yX5_take, 12)) 36 rfl rfl)⟩
theorem mv_X6_add : Cond.instanceMethod yX6_add ∈ WG ∧ Cond.selects yX6_add.cls yX6_add yX6_add ∈ WG := ⟨(wg3 225 rfl rfl), (wg3 226 rfl rfl)⟩
theorem mv_X6_addLayer : Cond.instanceMethod yX6_addLayer ∈ WG ∧ Cond.selects yX6_addLayer.cls yX6_addLayer yX6_addLayer ∈ WG := ⟨(wg4 1 rfl rfl), (wg4 2 rfl rfl)⟩
theorem mv_X6_clockAll : Cond.instanceMethod yX6_clockAll ∈ WG ∧ Cond.selects yX6_clockAll.cls yX6_clockAll yX6_clockAll ∈ WG := ⟨(wg4 213 rfl rfl), (wg4 214 rfl rfl)⟩
theorem mv_X6_clockCell : Cond.instanceMethod yX6_clockCell ∈ WG ∧ Cond.selects yX6_clockCell.cls yX6_clockCell yX6_clockCell ∈ WG := ⟨(wg4 6 rfl rfl), (wgs (q := (yX6_clockCell, 13)) 6 rfl rfl)⟩
theorem mv_X6_copyFrom : Cond.instanceMethod yX6_copyFrom ∈ WG ∧ Cond.selects yX6_copyFrom.cls yX6_copyFrom yX6_copyFrom ∈ WG := ⟨(wg7 91 rfl rfl), (wg7 92 rfl rfl)⟩
theorem mv_X6_datedPaints : Cond.instanceMethod yX6_datedPaints ∈ WG ∧ Cond.selects yX6_datedPaints.cls yX6_datedPaints yX6_datedPaints ∈ WG := ⟨(wg6 184 rfl rfl), (wg6 185 rfl rfl)⟩
theorem mv_X6_innermost : Cond.instanceMethod yX6_innermost ∈ WG ∧ Cond.selects yX6_innermost.cls yX6_innermost yX6_innermost ∈ WG := ⟨(wg4 55 rfl rfl), (wgs (q := (yX6_innermost, 13)) 13 rfl rfl)⟩
theorem mv_X6_isTurned : Cond.instanceMethod yX6_isTurned ∈ WG ∧ Cond.selects yX6_isTurned.cls yX6_isTurned yX6_isTurned ∈ WG := ⟨(wg4 51 rfl rfl), (wgs (q := (yX6_isTurned, 13)) 12 rfl rfl)⟩
theorem mv_X6_judge : Cond.instanceMethod yX6_judge ∈ WG ∧ Cond.selects yX6_judge.cls yX6_judge yX6_judge ∈ WG := ⟨(wg4 39 rfl rfl), (wgs (q := (yX6_judge, 13)) 9 rfl rfl)⟩
theorem mv_X6_leastSaid : Cond.instanceMethod yX6_leastSaid ∈ WG ∧ Cond.selects yX6_leastSaid.cls yX6_leastSaid yX6_leastSaid ∈ WG := ⟨(wg3 24 rfl rfl), (wg3 25 rfl rfl)⟩
theorem mv_X6_mostSaid : Cond.instanceMethod yX6_mostSaid ∈ WG ∧ Cond.selects yX6_mostSaid.cls yX6_mostSaid yX6_mostSaid ∈ WG := ⟨(wg3 46 rfl rfl), (wg3 47 rfl rfl)⟩
theorem mv_X6_nextOldest : Cond.instanceMethod yX6_nextOldest ∈ WG ∧ Cond.selects yX6_nextOldest.cls yX6_nextOldest yX6_nextOldest ∈ WG := ⟨(wg5 200 rfl rfl), (wg5 201 rfl rfl)⟩
theorem mv_X6_outermost : Cond.instanceMethod yX6_outermost ∈ WG ∧ Cond.selects yX6_outermost.cls yX6_outermost yX6_outermost ∈ WG := ⟨(wg4 59 rfl rfl), (wgs (q := (yX6_outermost, 13)) 14 rfl rfl)⟩
theorem mv_X6_sortOf : Cond.instanceMethod yX6_sortOf ∈ WG ∧ Cond.selects yX6_sortOf.cls yX6_sortOf yX6_sortOf ∈ WG := ⟨(wg4 43 rfl rfl), (wgs (q := (yX6_sortOf, 13)) 10 rfl rfl)⟩
theorem mv_X6_speaks : Cond.instanceMethod yX6_speaks ∈ WG ∧ Cond.selects yX6_speaks.cls yX6_speaks yX6_speaks ∈ WG := ⟨(wg3 29 rfl rfl), (wgs (q := (yX6_speaks, 13)) 1 rfl rfl)⟩
theorem mv_X6_thick : Cond.instanceMethod yX6_thick ∈ WG ∧ Cond.selects yX6_thick.cls yX6_thick yX6_thick ∈ WG := ⟨(wg4 47 rfl rfl), (wgs (q := (yX6_thick, 13)) 11 rfl rfl)⟩
theorem mv_X6_touches : Cond.instanceMethod yX6_touches ∈ WG ∧ Cond.selects yX6_touches.cls yX6_touches yX6_touches ∈ WG := ⟨(wg6 180 rfl rfl), (wg6 181 rfl rfl)⟩
theorem mv_X6_waysToLie : Cond.instanceMethod yX6_waysToLie ∈ WG ∧ Cond.selects yX6_waysToLie.cls yX6_waysToLie yX6_waysToLie ∈ WG := ⟨(wg5 102 rfl rfl), (wg5 103 rfl rfl)⟩
theorem mv_X7_copyFrom : Cond.instanceMethod yX7_copyFrom ∈ WG ∧ Cond.selects yX7_copyFrom.cls yX7_copyFrom yX7_copyFrom ∈ WG := ⟨(wg4 237 rfl rfl), (wg4 238 rfl rfl)⟩
theorem mv_X7_oldestPeople : Cond.instanceMethod yX7_oldestPeople ∈ WG ∧ Cond.selects yX7_oldestPeople.cls yX7_oldestPeople yX7_oldestPeople ∈ WG := ⟨(wg7 13 rfl rfl), (wg7 14 rfl rfl)⟩
theorem mv_X7_peoplesAt : Cond.instanceMethod yX7_peoplesAt ∈ WG ∧ Cond.selects yX7_peoplesAt.cls yX7_peoplesAt yX7_peoplesAt ∈ WG := ⟨(wg6 131 rfl rfl), (wg6 132 rfl rfl)⟩
theorem mv_X7_readFrom : Cond.instanceMethod yX7_readFrom ∈ WG ∧ Cond.selects yX7_readFrom.cls yX7_readFrom yX7_readFrom ∈ WG := ⟨(wg4 224 rfl rfl), (wg4 225 rfl rfl)⟩
theorem mv_X7_readLine : Cond.instanceMethod yX7_readLine ∈ WG ∧ Cond.selects yX7_readLine.cls yX7_readLine yX7_readLine ∈ WG := ⟨(wg4 231 rfl rfl), (wgs (q := (yX7_readLine, 5)) 19 rfl rfl)⟩
theorem mv_X7_spans : Cond.instanceMethod yX7_spans ∈ WG ∧ Cond.selects yX7_spans.cls yX7_spans yX7_spans ∈ WG := ⟨(wg6 117 rfl rfl), (wgs (q := (yX7_spans, 5)) 28 rfl rfl)⟩
theorem mv_X7_tellsBeast : Cond.instanceMethod yX7_tellsBeast ∈ WG ∧ Cond.selects yX7_tellsBeast.cls yX7_tellsBeast yX7_tellsBeast ∈ WG := ⟨(wg6 112 rfl rfl), (wg6 113 rfl rfl)⟩
theorem mv_X8_advance : Cond.instanceMethod yX8_advance ∈ WG ∧ Cond.selects yX8_advance.cls yX8_advance yX8_advance ∈ WG := ⟨(wg4 82 rfl rfl), (wg4 83 rfl rfl)⟩
theorem mv_X8_append : Cond.instanceMethod yX8_append ∈ WG ∧ Cond.selects yX8_append.cls yX8_append yX8_append ∈ WG := ⟨(wg2 230 rfl rfl), (wg2 231 rfl rfl)⟩
theorem mv_X8_begin : Cond.instanceMethod yX8_begin ∈ WG ∧ Cond.selects yX8_begin.cls yX8_begin yX8_begin ∈ WG := ⟨(wg4 77 rfl rfl), (wg4 78 rfl rfl)⟩
theorem mv_X8_decimal : Cond.instanceMethod yX8_decimal ∈ WG ∧ Cond.selects yX8_decimal.cls yX8_decimal yX8_decimal ∈ WG := ⟨(wg4 146 rfl rfl), (wgs (q := (yX8_decimal, 9)) 16 rfl rfl)⟩
theorem mv_X8_fail : Cond.instanceMethod yX8_fail ∈ WG ∧ Cond.selects yX8_fail.cls yX8_fail yX8_fail ∈ WG := ⟨(wg4 161 rfl rfl), (wg4 162 rfl rfl)⟩
theorem mv_X8_failed : Cond.instanceMethod yX8_failed ∈ WG ∧ Cond.selects yX8_failed.cls yX8_failed yX8_failed ∈ WG := ⟨(wg4 201 rfl rfl), (wg4 202 rfl rfl)⟩
theorem mv_X8_firstWord : Cond.instanceMethod yX8_firstWord ∈ WG ∧ Cond.selects yX8_firstWord.cls yX8_firstWord yX8_firstWord ∈ WG := ⟨(wg4 157 rfl rfl), (wg4 158 rfl rfl)⟩
theorem mv_X8_goesOn : Cond.instanceMethod yX8_goesOn ∈ WG ∧ Cond.selects yX8_goesOn.cls yX8_goesOn yX8_goesOn ∈ WG := ⟨(wg4 153 rfl rfl), (wg4 154 rfl rfl)⟩
theorem ms_X8_isDigit : Cond.static yX8_isDigit ∈ WG := (wg4 142 rfl rfl)
theorem ms_X8_isLetter : Cond.static yX8_isLetter ∈ WG := (wg4 86 rfl rfl)
theorem mv_X8_isSign : Cond.instanceMethod yX8_isSign ∈ WG ∧ Cond.selects yX8_isSign.cls yX8_isSign yX8_isSign ∈ WG := ⟨(wg4 197 rfl rfl), (wg4 198 rfl rfl)⟩
theorem mv_X8_isWord : Cond.instanceMethod yX8_isWord ∈ WG ∧ Cond.selects yX8_isWord.cls yX8_isWord yX8_isWord ∈ WG := ⟨(wg4 189 rfl rfl), (wg4 190 rfl rfl)⟩
theorem mv_X8_needSign : Cond.instanceMethod yX8_needSign ∈ WG ∧ Cond.selects yX8_needSign.cls yX8_needSign yX8_needSign ∈ WG := ⟨(wg4 193 rfl rfl), (wg4 194 rfl rfl)⟩
theorem mv_X8_needWord : Cond.instanceMethod yX8_needWord ∈ WG ∧ Cond.selects yX8_needWord.cls yX8_needWord yX8_needWord ∈ WG := ⟨(wg4 181 rfl rfl), (wg4 182 rfl rfl)⟩
theorem mv_X8_number : Cond.instanceMethod yX8_number ∈ WG ∧ Cond.selects yX8_number.cls yX8_number yX8_number ∈ WG := ⟨(wg4 177 rfl rfl), (wg4 178 rfl rfl)⟩
theorem mv_X8_refuse : Cond.instanceMethod yX8_refuse ∈ WG ∧ Cond.selects yX8_refuse.cls yX8_refuse yX8_refuse ∈ WG := ⟨(wg4 170 rfl rfl), (wgs (q := (yX8_refuse, 9)) 17 rfl rfl)⟩
theorem mv_X8_takeWord : Cond.instanceMethod yX8_takeWord ∈ WG ∧ Cond.selects yX8_takeWord.cls yX8_takeWord yX8_takeWord ∈ WG := ⟨(wg4 185 rfl rfl), (wg4 186 rfl rfl)⟩
theorem mv_X8_wordAmong : Cond.instanceMethod yX8_wordAmong ∈ WG ∧ Cond.selects yX8_wordAmong.cls yX8_wordAmong yX8_wordAmong ∈ WG := ⟨(wg4 165 rfl rfl), (wg4 166 rfl rfl)⟩
theorem mv_X8_wordNumber : Cond.instanceMethod yX8_wordNumber ∈ WG ∧ Cond.selects yX8_wordNumber.cls yX8_wordNumber yX8_wordNumber ∈ WG := ⟨(wg4 90 rfl rfl), (wgs (q := (yX8_wordNumber, 9)) 15 rfl rfl)⟩
theorem mv_X9_allWithin : Cond.instanceMethod yX9_allWithin ∈ WG ∧ Cond.selects yX9_allWithin.cls yX9_allWithin yX9_allWithin ∈ WG := ⟨(wg6 89 rfl rfl), (wg6 90 rfl rfl)⟩
theorem mv_X9_clear : Cond.instanceMethod yX9_clear ∈ WG ∧ Cond.selects yX9_clear.cls yX9_clear yX9_clear ∈ WG := ⟨(wg7 29 rfl rfl), (wg7 30 rfl rfl)⟩
theorem mv_X9_numberAt : Cond.instanceMethod yX9_numberAt ∈ WG ∧ Cond.selects yX9_numberAt.cls yX9_numberAt yX9_numberAt ∈ WG := ⟨(wg6 93 rfl rfl), (wg6 94 rfl rfl)⟩
theorem mv_X9_put : Cond.instanceMethod yX9_put ∈ WG ∧ Cond.selects yX9_put.cls yX9_put yX9_put ∈ WG := ⟨(wg7 57 rfl rfl), (wg7 58 rfl rfl)⟩
theorem kc_X2_84 : Cond.constant RX2 84 (Int32.ofInt 1103515245) ∈ WG := (wg5 134 rfl rfl)
theorem kc_X12_359 : Cond.constant RX12 359 (Int32.ofInt 1103515245) ∈ WG := (wg9 57 rfl rfl)
theorem kc_J6_265 : Cond.constant RJ6 265 (Int32.ofInt 1431655765) ∈ WG := (wg3 20 rfl rfl)
theorem kc_J6_266 : Cond.constant RJ6 266 (Int32.ofInt 858993459) ∈ WG := (wg3 21 rfl rfl)
theorem kc_J6_267 : Cond.constant RJ6 267 (Int32.ofInt 252645135) ∈ WG := (wg3 22 rfl rfl)
theorem kc_X11_304 : Cond.constantLong RX11 304 (Int64.ofInt 100) ∈ WG := (wg5 213 rfl rfl)
theorem kc_X11_348 : Cond.constantLong RX11 348 (Int64.ofInt 99) ∈ WG := (wg6 87 rfl rfl)
theorem kc_X11_420 : Cond.constantLong RX11 420 (Int64.ofInt 9999) ∈ WG := (wg7 68 rfl rfl)
theorem kc_X12_83 : Cond.constantLong RX12 83 (Int64.ofInt 3) ∈ WG := (wg8 7 rfl rfl)
theorem kc_X12_85 : Cond.constantLong RX12 85 (Int64.ofInt 5) ∈ WG := (wg8 11 rfl rfl)
theorem kc_X12_87 : Cond.constantLong RX12 87 (Int64.ofInt 9) ∈ WG := (wg8 12 rfl rfl)
theorem kc_X12_93 : Cond.constantLong RX12 93 (Int64.ofInt 99) ∈ WG := (wg8 36 rfl rfl)
theorem kc_X12_114 : Cond.constantLong RX12 114 (Int64.ofInt 2) ∈ WG := (wg8 49 rfl rfl)
theorem kc_X12_116 : Cond.constantLong RX12 116 (Int64.ofInt 9999) ∈ WG := (wg8 61 rfl rfl)
theorem kc_X12_131 : Cond.constantLong RX12 131 (Int64.ofInt 8) ∈ WG := (wg8 74 rfl rfl)
theorem kc_X12_286 : Cond.constantLong RX12 286 (Int64.ofInt 1000) ∈ WG := (wg8 208 rfl rfl)
theorem kc_X12_294 : Cond.constantLong RX12 294 (Int64.ofInt 10) ∈ WG := (wg8 207 rfl rfl)
theorem kc_X12_347 : Cond.constantLong RX12 347 (Int64.ofInt 100) ∈ WG := (wg9 40 rfl rfl)
theorem kc_X12_368 : Cond.constantLong RX12 368 (Int64.ofInt 400) ∈ WG := (wg9 52 rfl rfl)
theorem kc_X12_403 : Cond.constantLong RX12 403 (Int64.ofInt 4) ∈ WG := (wg9 124 rfl rfl)
theorem kc_X12_456 : Cond.constantLong RX12 456 (Int64.ofInt 999) ∈ WG := (wg9 233 rfl rfl)
theorem kc_X12_491 : Cond.constantLong RX12 491 (Int64.ofInt 40) ∈ WG := (wg10 47 rfl rfl)
theorem kc_X12_493 : Cond.constantLong RX12 493 (Int64.ofInt 7) ∈ WG := (wg10 68 rfl rfl)
theorem kc_X12_495 : Cond.constantLong RX12 495 (Int64.ofInt 13) ∈ WG := (wg10 69 rfl rfl)
theorem aw_X11_470 : AW RX11 470 := ⟨(wg5 4 rfl rfl), (wg5 6 rfl rfl), (wg5 5 rfl rfl), (wg1 26 rfl rfl)⟩
theorem tw_0_113 : TW 113 0 := tw_of (by decide +kernel) (by decide +kernel)
theorem tc_0 : Cond.classLink RX11 109 (ex9 0) ∈ WG ∧ Cond.initialized (ex9 0) ∈ WG := ⟨(wg3 75 rfl rfl), (wg1 17 rfl rfl)⟩
theorem tw_1_434 : TW 434 1 := tw_of (by decide +kernel) (by decide +kernel)
theorem tc_1 : Cond.classLink RX11 430 (ex9 1) ∈ WG ∧ Cond.initialized (ex9 1) ∈ WG := ⟨(wg3 181 rfl rfl), (wg1 19 rfl rfl)⟩
theorem tn_222 : TN 222 := tn_of (by decide +kernel) (by decide +kernel)
theorem tc_2 : Cond.classLink RX11 218 (ex9 2) ∈ WG ∧ Cond.initialized (ex9 2) ∈ WG := ⟨(wg3 165 rfl rfl), (wg1 18 rfl rfl)⟩
theorem tw_3_414 : TW 414 3 := tw_of (by decide +kernel) (by decide +kernel)
theorem tc_3 : Cond.classLink RX11 410 (ex9 3) ∈ WG ∧ Cond.initialized (ex9 3) ∈ WG := ⟨(wg7 40 rfl rfl), (wg1 27 rfl rfl)⟩
def NT9 (x : Option R9) : Prop := ∀ r, x = some r → ∃ a d, r = (.inl a, d)
theorem nt_rt {v : Int} {d : D9} : NT9 (rt v d) := fun r h => by cases h; exact ⟨_, _, rfl⟩
theorem nt_none : NT9 none := fun r h => nomatch h
theorem nt_if {c : Prop} {i : Decidable c} {x y : Option R9} (hx : NT9 x) (hy : NT9 y) : NT9 (@ite _ c i x y) := by split; exact hx; exact hy
theorem nt_cl {f : Option R9} {K : Int → D9 → Option R9} (hf : NT9 f) (hK : ∀ v d, NT9 (K v d)) : NT9 (cl f K) := by
  intro r h
  cases e : f with
  | none => rw [e] at h; cases h
  | some q =>
    obtain ⟨a, d, rfl⟩ := hf q e
    rw [e] at h
    exact hK a d r h
theorem nt_cp9 {d : D9} {a m b m' : Nat} {v : Int} {K : D9 → Option R9} (hK : ∀ d, NT9 (K d)) : NT9 (cp9 d a m b m' v K) := by
  unfold cp9; split
  · exact hK _
  · exact nt_none
