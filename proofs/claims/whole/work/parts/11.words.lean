theorem la_0 : 0 < NC := by decide
theorem ly_0 : lay 0 = (0, 11) := rfl
theorem la_1 : 1 < NC := by decide
theorem ly_1 : lay 1 = (0, 10) := rfl
theorem la_2 : 2 < NC := by decide
theorem ly_2 : lay 2 = (0, 3) := rfl
theorem la_3 : 3 < NC := by decide
theorem ly_3 : lay 3 = (1, 30) := rfl
theorem la_4 : 4 < NC := by decide
theorem ly_4 : lay 4 = (1, 30) := rfl
theorem la_5 : 5 < NC := by decide
theorem ly_5 : lay 5 = (1, 30) := rfl
theorem la_6 : 6 < NC := by decide
theorem ly_6 : lay 6 = (1, 150) := rfl
theorem la_7 : 7 < NC := by decide
theorem ly_7 : lay 7 = (1, 30) := rfl
theorem la_8 : 8 < NC := by decide
theorem ly_8 : lay 8 = (1, 30) := rfl
theorem la_9 : 9 < NC := by decide
theorem ly_9 : lay 9 = (0, 6) := rfl
theorem la_10 : 10 < NC := by decide
theorem ly_10 : lay 10 = (1, 30) := rfl
theorem la_11 : 11 < NC := by decide
theorem ly_11 : lay 11 = (1, 30) := rfl
theorem la_12 : 12 < NC := by decide
theorem ly_12 : lay 12 = (1, 30) := rfl
theorem la_13 : 13 < NC := by decide
theorem ly_13 : lay 13 = (1, 30) := rfl
theorem la_14 : 14 < NC := by decide
theorem ly_14 : lay 14 = (1, 30) := rfl
theorem la_15 : 15 < NC := by decide
theorem ly_15 : lay 15 = (1, 30) := rfl
theorem la_16 : 16 < NC := by decide
theorem ly_16 : lay 16 = (1, 30) := rfl
theorem la_17 : 17 < NC := by decide
theorem ly_17 : lay 17 = (1, 120) := rfl
theorem la_18 : 18 < NC := by decide
theorem ly_18 : lay 18 = (1, 120) := rfl
theorem la_19 : 19 < NC := by decide
theorem ly_19 : lay 19 = (1, 120) := rfl
theorem la_20 : 20 < NC := by decide
theorem ly_20 : lay 20 = (1, 120) := rfl
theorem la_21 : 21 < NC := by decide
theorem ly_21 : lay 21 = (1, 120) := rfl
theorem la_22 : 22 < NC := by decide
theorem ly_22 : lay 22 = (0, 2) := rfl
theorem la_23 : 23 < NC := by decide
theorem ly_23 : lay 23 = (0, 7) := rfl
theorem la_24 : 24 < NC := by decide
theorem ly_24 : lay 24 = (1, 12) := rfl
theorem la_25 : 25 < NC := by decide
theorem ly_25 : lay 25 = (1, 12) := rfl
theorem la_26 : 26 < NC := by decide
theorem ly_26 : lay 26 = (1, 12) := rfl
theorem la_27 : 27 < NC := by decide
theorem ly_27 : lay 27 = (1, 12) := rfl
theorem la_28 : 28 < NC := by decide
theorem ly_28 : lay 28 = (0, 4) := rfl
theorem la_29 : 29 < NC := by decide
theorem ly_29 : lay 29 = (1, 12) := rfl
theorem la_30 : 30 < NC := by decide
theorem ly_30 : lay 30 = (1, 12) := rfl
theorem la_31 : 31 < NC := by decide
theorem ly_31 : lay 31 = (1, 12) := rfl
theorem la_32 : 32 < NC := by decide
theorem ly_32 : lay 32 = (1, 400) := rfl
theorem la_33 : 33 < NC := by decide
theorem ly_33 : lay 33 = (0, 1) := rfl
theorem la_34 : 34 < NC := by decide
theorem ly_34 : lay 34 = (1, 40) := rfl
theorem la_35 : 35 < NC := by decide
theorem ly_35 : lay 35 = (1, 200) := rfl
theorem la_36 : 36 < NC := by decide
theorem ly_36 : lay 36 = (1, 5) := rfl
theorem la_37 : 37 < NC := by decide
theorem ly_37 : lay 37 = (1, 5) := rfl
theorem la_38 : 38 < NC := by decide
theorem ly_38 : lay 38 = (5, 3) := rfl
theorem la_39 : 39 < NC := by decide
theorem ly_39 : lay 39 = (4, 3) := rfl
theorem la_40 : 40 < NC := by decide
theorem ly_40 : lay 40 = (0, 2) := rfl
theorem la_41 : 41 < NC := by decide
theorem ly_41 : lay 41 = (0, 7) := rfl
theorem la_42 : 42 < NC := by decide
theorem ly_42 : lay 42 = (1, 12) := rfl
theorem la_43 : 43 < NC := by decide
theorem ly_43 : lay 43 = (1, 12) := rfl
theorem la_44 : 44 < NC := by decide
theorem ly_44 : lay 44 = (1, 12) := rfl
theorem la_45 : 45 < NC := by decide
theorem ly_45 : lay 45 = (1, 12) := rfl
theorem la_46 : 46 < NC := by decide
theorem ly_46 : lay 46 = (0, 4) := rfl
theorem la_47 : 47 < NC := by decide
theorem ly_47 : lay 47 = (1, 12) := rfl
theorem la_48 : 48 < NC := by decide
theorem ly_48 : lay 48 = (1, 12) := rfl
theorem la_49 : 49 < NC := by decide
theorem ly_49 : lay 49 = (1, 12) := rfl
theorem la_50 : 50 < NC := by decide
theorem ly_50 : lay 50 = (1, 400) := rfl
theorem la_51 : 51 < NC := by decide
theorem ly_51 : lay 51 = (0, 8) := rfl
theorem la_52 : 52 < NC := by decide
theorem ly_52 : lay 52 = (3, 400) := rfl
theorem la_53 : 53 < NC := by decide
theorem ly_53 : lay 53 = (0, 0) := rfl
theorem la_54 : 54 < NC := by decide
theorem ly_54 : lay 54 = (0, 9) := rfl
theorem la_55 : 55 < NC := by decide
theorem ly_55 : lay 55 = (1, 4) := rfl
theorem la_56 : 56 < NC := by decide
theorem ly_56 : lay 56 = (1, 4) := rfl
theorem la_57 : 57 < NC := by decide
theorem ly_57 : lay 57 = (2, 160) := rfl
theorem la_58 : 58 < NC := by decide
theorem ly_58 : lay 58 = (0, 5) := rfl
theorem la_59 : 59 < NC := by decide
theorem ly_59 : lay 59 = (1, 30) := rfl
theorem la_60 : 60 < NC := by decide
theorem ly_60 : lay 60 = (1, 12) := rfl
theorem la_61 : 61 < NC := by decide
theorem ly_61 : lay 61 = (1, 13) := rfl
theorem la_62 : 62 < NC := by decide
theorem ly_62 : lay 62 = (1, 13) := rfl
theorem la_63 : 63 < NC := by decide
theorem ly_63 : lay 63 = (0, 10) := rfl
theorem la_64 : 64 < NC := by decide
theorem ly_64 : lay 64 = (0, 3) := rfl
theorem la_65 : 65 < NC := by decide
theorem ly_65 : lay 65 = (1, 30) := rfl
theorem la_66 : 66 < NC := by decide
theorem ly_66 : lay 66 = (1, 30) := rfl
theorem la_67 : 67 < NC := by decide
theorem ly_67 : lay 67 = (1, 30) := rfl
theorem la_68 : 68 < NC := by decide
theorem ly_68 : lay 68 = (1, 150) := rfl
theorem la_69 : 69 < NC := by decide
theorem ly_69 : lay 69 = (1, 30) := rfl
theorem la_70 : 70 < NC := by decide
theorem ly_70 : lay 70 = (1, 30) := rfl
theorem la_71 : 71 < NC := by decide
theorem ly_71 : lay 71 = (0, 6) := rfl
theorem la_72 : 72 < NC := by decide
theorem ly_72 : lay 72 = (1, 30) := rfl
theorem la_73 : 73 < NC := by decide
theorem ly_73 : lay 73 = (1, 30) := rfl
theorem la_74 : 74 < NC := by decide
theorem ly_74 : lay 74 = (1, 30) := rfl
theorem la_75 : 75 < NC := by decide
theorem ly_75 : lay 75 = (1, 30) := rfl
theorem la_76 : 76 < NC := by decide
theorem ly_76 : lay 76 = (1, 30) := rfl
theorem la_77 : 77 < NC := by decide
theorem ly_77 : lay 77 = (1, 30) := rfl
theorem la_78 : 78 < NC := by decide
theorem ly_78 : lay 78 = (1, 30) := rfl
theorem la_79 : 79 < NC := by decide
theorem ly_79 : lay 79 = (1, 120) := rfl
theorem la_80 : 80 < NC := by decide
theorem ly_80 : lay 80 = (1, 120) := rfl
theorem la_81 : 81 < NC := by decide
theorem ly_81 : lay 81 = (1, 120) := rfl
theorem la_82 : 82 < NC := by decide
theorem ly_82 : lay 82 = (1, 120) := rfl
theorem la_83 : 83 < NC := by decide
theorem ly_83 : lay 83 = (1, 120) := rfl
theorem la_84 : 84 < NC := by decide
theorem ly_84 : lay 84 = (0, 2) := rfl
theorem la_85 : 85 < NC := by decide
theorem ly_85 : lay 85 = (0, 7) := rfl
theorem la_86 : 86 < NC := by decide
theorem ly_86 : lay 86 = (1, 12) := rfl
theorem la_87 : 87 < NC := by decide
theorem ly_87 : lay 87 = (1, 12) := rfl
theorem la_88 : 88 < NC := by decide
theorem ly_88 : lay 88 = (1, 12) := rfl
theorem la_89 : 89 < NC := by decide
theorem ly_89 : lay 89 = (1, 12) := rfl
theorem la_90 : 90 < NC := by decide
theorem ly_90 : lay 90 = (0, 4) := rfl
theorem la_91 : 91 < NC := by decide
theorem ly_91 : lay 91 = (1, 12) := rfl
theorem la_92 : 92 < NC := by decide
theorem ly_92 : lay 92 = (1, 12) := rfl
theorem la_93 : 93 < NC := by decide
theorem ly_93 : lay 93 = (1, 12) := rfl
theorem la_94 : 94 < NC := by decide
theorem ly_94 : lay 94 = (1, 400) := rfl
theorem la_95 : 95 < NC := by decide
theorem ly_95 : lay 95 = (0, 1) := rfl
theorem la_96 : 96 < NC := by decide
theorem ly_96 : lay 96 = (1, 40) := rfl
theorem la_97 : 97 < NC := by decide
theorem ly_97 : lay 97 = (1, 200) := rfl
theorem la_98 : 98 < NC := by decide
theorem ly_98 : lay 98 = (1, 5) := rfl
theorem la_99 : 99 < NC := by decide
theorem ly_99 : lay 99 = (1, 5) := rfl
theorem la_100 : 100 < NC := by decide
theorem ly_100 : lay 100 = (0, 10) := rfl
theorem la_101 : 101 < NC := by decide
theorem ly_101 : lay 101 = (0, 3) := rfl
theorem la_102 : 102 < NC := by decide
theorem ly_102 : lay 102 = (1, 30) := rfl
theorem la_103 : 103 < NC := by decide
theorem ly_103 : lay 103 = (1, 30) := rfl
theorem la_104 : 104 < NC := by decide
theorem ly_104 : lay 104 = (1, 30) := rfl
theorem la_105 : 105 < NC := by decide
theorem ly_105 : lay 105 = (1, 150) := rfl
theorem la_106 : 106 < NC := by decide
theorem ly_106 : lay 106 = (1, 30) := rfl
theorem la_107 : 107 < NC := by decide
theorem ly_107 : lay 107 = (1, 30) := rfl
theorem la_108 : 108 < NC := by decide
theorem ly_108 : lay 108 = (0, 6) := rfl
theorem la_109 : 109 < NC := by decide
theorem ly_109 : lay 109 = (1, 30) := rfl
theorem la_110 : 110 < NC := by decide
theorem ly_110 : lay 110 = (1, 30) := rfl
theorem la_111 : 111 < NC := by decide
theorem ly_111 : lay 111 = (1, 30) := rfl
theorem la_112 : 112 < NC := by decide
theorem ly_112 : lay 112 = (1, 30) := rfl
theorem la_113 : 113 < NC := by decide
theorem ly_113 : lay 113 = (1, 30) := rfl
theorem la_114 : 114 < NC := by decide
theorem ly_114 : lay 114 = (1, 30) := rfl
theorem la_115 : 115 < NC := by decide
theorem ly_115 : lay 115 = (1, 30) := rfl
theorem la_116 : 116 < NC := by decide
theorem ly_116 : lay 116 = (1, 120) := rfl
theorem la_117 : 117 < NC := by decide
theorem ly_117 : lay 117 = (1, 120) := rfl
theorem la_118 : 118 < NC := by decide
theorem ly_118 : lay 118 = (1, 120) := rfl
theorem la_119 : 119 < NC := by decide
theorem ly_119 : lay 119 = (1, 120) := rfl
theorem la_120 : 120 < NC := by decide
theorem ly_120 : lay 120 = (1, 120) := rfl
theorem la_121 : 121 < NC := by decide
theorem ly_121 : lay 121 = (0, 2) := rfl
theorem la_122 : 122 < NC := by decide
theorem ly_122 : lay 122 = (0, 7) := rfl
theorem la_123 : 123 < NC := by decide
theorem ly_123 : lay 123 = (1, 12) := rfl
theorem la_124 : 124 < NC := by decide
theorem ly_124 : lay 124 = (1, 12) := rfl
theorem la_125 : 125 < NC := by decide
theorem ly_125 : lay 125 = (1, 12) := rfl
theorem la_126 : 126 < NC := by decide
theorem ly_126 : lay 126 = (1, 12) := rfl
theorem la_127 : 127 < NC := by decide
theorem ly_127 : lay 127 = (0, 4) := rfl
theorem la_128 : 128 < NC := by decide
theorem ly_128 : lay 128 = (1, 12) := rfl
theorem la_129 : 129 < NC := by decide
theorem ly_129 : lay 129 = (1, 12) := rfl
theorem la_130 : 130 < NC := by decide
theorem ly_130 : lay 130 = (1, 12) := rfl
theorem la_131 : 131 < NC := by decide
theorem ly_131 : lay 131 = (1, 400) := rfl
theorem la_132 : 132 < NC := by decide
theorem ly_132 : lay 132 = (0, 1) := rfl
theorem la_133 : 133 < NC := by decide
theorem ly_133 : lay 133 = (1, 40) := rfl
theorem la_134 : 134 < NC := by decide
theorem ly_134 : lay 134 = (1, 200) := rfl
theorem la_135 : 135 < NC := by decide
theorem ly_135 : lay 135 = (1, 5) := rfl
theorem la_136 : 136 < NC := by decide
theorem ly_136 : lay 136 = (1, 5) := rfl
theorem la_137 : 137 < NC := by decide
theorem ly_137 : lay 137 = (0, 10) := rfl
theorem la_138 : 138 < NC := by decide
theorem ly_138 : lay 138 = (0, 3) := rfl
theorem la_139 : 139 < NC := by decide
theorem ly_139 : lay 139 = (1, 30) := rfl
theorem la_140 : 140 < NC := by decide
theorem ly_140 : lay 140 = (1, 30) := rfl
theorem la_141 : 141 < NC := by decide
theorem ly_141 : lay 141 = (1, 30) := rfl
theorem la_142 : 142 < NC := by decide
theorem ly_142 : lay 142 = (1, 150) := rfl
theorem la_143 : 143 < NC := by decide
theorem ly_143 : lay 143 = (1, 30) := rfl
theorem la_144 : 144 < NC := by decide
theorem ly_144 : lay 144 = (1, 30) := rfl
theorem la_145 : 145 < NC := by decide
theorem ly_145 : lay 145 = (0, 6) := rfl
theorem la_146 : 146 < NC := by decide
theorem ly_146 : lay 146 = (1, 30) := rfl
theorem la_147 : 147 < NC := by decide
theorem ly_147 : lay 147 = (1, 30) := rfl
theorem la_148 : 148 < NC := by decide
theorem ly_148 : lay 148 = (1, 30) := rfl
theorem la_149 : 149 < NC := by decide
theorem ly_149 : lay 149 = (1, 30) := rfl
theorem la_150 : 150 < NC := by decide
theorem ly_150 : lay 150 = (1, 30) := rfl
theorem la_151 : 151 < NC := by decide
theorem ly_151 : lay 151 = (1, 30) := rfl
theorem la_152 : 152 < NC := by decide
theorem ly_152 : lay 152 = (1, 30) := rfl
theorem la_153 : 153 < NC := by decide
theorem ly_153 : lay 153 = (1, 120) := rfl
theorem la_154 : 154 < NC := by decide
theorem ly_154 : lay 154 = (1, 120) := rfl
theorem la_155 : 155 < NC := by decide
theorem ly_155 : lay 155 = (1, 120) := rfl
theorem la_156 : 156 < NC := by decide
theorem ly_156 : lay 156 = (1, 120) := rfl
theorem la_157 : 157 < NC := by decide
theorem ly_157 : lay 157 = (1, 120) := rfl
theorem la_158 : 158 < NC := by decide
theorem ly_158 : lay 158 = (0, 2) := rfl
theorem la_159 : 159 < NC := by decide
theorem ly_159 : lay 159 = (0, 7) := rfl
theorem la_160 : 160 < NC := by decide
theorem ly_160 : lay 160 = (1, 12) := rfl
theorem la_161 : 161 < NC := by decide
theorem ly_161 : lay 161 = (1, 12) := rfl
theorem la_162 : 162 < NC := by decide
theorem ly_162 : lay 162 = (1, 12) := rfl
theorem la_163 : 163 < NC := by decide
theorem ly_163 : lay 163 = (1, 12) := rfl
theorem la_164 : 164 < NC := by decide
theorem ly_164 : lay 164 = (0, 4) := rfl
theorem la_165 : 165 < NC := by decide
theorem ly_165 : lay 165 = (1, 12) := rfl
theorem la_166 : 166 < NC := by decide
theorem ly_166 : lay 166 = (1, 12) := rfl
theorem la_167 : 167 < NC := by decide
theorem ly_167 : lay 167 = (1, 12) := rfl
theorem la_168 : 168 < NC := by decide
theorem ly_168 : lay 168 = (1, 400) := rfl
theorem la_169 : 169 < NC := by decide
theorem ly_169 : lay 169 = (0, 1) := rfl
theorem la_170 : 170 < NC := by decide
theorem ly_170 : lay 170 = (1, 40) := rfl
theorem la_171 : 171 < NC := by decide
theorem ly_171 : lay 171 = (1, 200) := rfl
theorem la_172 : 172 < NC := by decide
theorem ly_172 : lay 172 = (1, 5) := rfl
theorem la_173 : 173 < NC := by decide
theorem ly_173 : lay 173 = (1, 5) := rfl
theorem la_174 : 174 < NC := by decide
theorem ly_174 : lay 174 = (0, 12) := rfl
theorem la_175 : 175 < NC := by decide
theorem ly_175 : lay 175 = (1, 1604) := rfl
theorem la_176 : 176 < NC := by decide
theorem ly_176 : lay 176 = (1, 4812) := rfl
theorem la_177 : 177 < NC := by decide
theorem ly_177 : lay 177 = (4, 3) := rfl
theorem la_178 : 178 < NC := by decide
theorem ly_178 : lay 178 = (1, 400) := rfl
theorem la_179 : 179 < NC := by decide
theorem ly_179 : lay 179 = (1, 7) := rfl
theorem la_180 : 180 < NC := by decide
theorem ly_180 : lay 180 = (1, 48) := rfl
theorem la_181 : 181 < NC := by decide
theorem ly_181 : lay 181 = (1, 460) := rfl
theorem la_182 : 182 < NC := by decide
theorem ly_182 : lay 182 = (4, 900) := rfl
theorem la_183 : 183 < NC := by decide
theorem ly_183 : lay 183 = (4, 30) := rfl
theorem la_184 : 184 < NC := by decide
theorem ly_184 : lay 184 = (2, 4) := rfl
theorem la_185 : 185 < NC := by decide
theorem ly_185 : lay 185 = (2, 4) := rfl
theorem la_186 : 186 < NC := by decide
theorem ly_186 : lay 186 = (4, 401) := rfl
theorem la_187 : 187 < NC := by decide
theorem ly_187 : lay 187 = (1, 12) := rfl
theorem la_188 : 188 < NC := by decide
theorem ly_188 : lay 188 = (4, 30) := rfl
theorem la_189 : 189 < NC := by decide
theorem ly_189 : lay 189 = (4, 460) := rfl
theorem la_190 : 190 < NC := by decide
theorem ly_190 : lay 190 = (1, 30) := rfl
theorem la_191 : 191 < NC := by decide
theorem ly_191 : lay 191 = (1, 4) := rfl
theorem la_192 : 192 < NC := by decide
theorem ly_192 : lay 192 = (1, 4) := rfl
theorem la_193 : 193 < NC := by decide
theorem ly_193 : lay 193 = (2, 160) := rfl
theorem la_194 : 194 < NC := by decide
theorem ly_194 : lay 194 = (2, 1) := rfl
theorem uw_X0 : ∀ w ∈ u_ws RX0 TX0 2, w ∈ WG := by
  show ∀ w ∈ [u_lay RX0 TX0 0, u_lay RX0 TX0 1], w ∈ WG
  exact List.forall_mem_cons.mpr ⟨(wg2 122 rfl rfl), List.forall_mem_cons.mpr ⟨(wg2 124 rfl rfl), fun _ h => nomatch h⟩⟩
theorem uw_X10 : ∀ w ∈ u_ws RX10 TX10 6, w ∈ WG := by
  show ∀ w ∈ [u_lay RX10 TX10 0, u_lay RX10 TX10 1, u_lay RX10 TX10 2, u_lay RX10 TX10 3, u_lay RX10 TX10 4, u_lay RX10 TX10 5], w ∈ WG
  exact List.forall_mem_cons.mpr ⟨(wg2 53 rfl rfl), List.forall_mem_cons.mpr ⟨(wg2 55 rfl rfl), List.forall_mem_cons.mpr ⟨(wg2 57 rfl rfl), List.forall_mem_cons.mpr ⟨(wg2 59 rfl rfl), List.forall_mem_cons.mpr ⟨(wg2 61 rfl rfl), List.forall_mem_cons.mpr ⟨(wg2 63 rfl rfl), fun _ h => nomatch h⟩⟩⟩⟩⟩⟩
theorem uw_X11 : ∀ w ∈ u_ws RX11 TX11 10, w ∈ WG := by
  show ∀ w ∈ [u_lay RX11 TX11 0, u_lay RX11 TX11 1, u_lay RX11 TX11 2, u_lay RX11 TX11 3, u_lay RX11 TX11 4, u_lay RX11 TX11 5, u_lay RX11 TX11 6, u_lay RX11 TX11 7, u_lay RX11 TX11 8, u_lay RX11 TX11 9], w ∈ WG
  exact List.forall_mem_cons.mpr ⟨(wg2 204 rfl rfl), List.forall_mem_cons.mpr ⟨(wg2 206 rfl rfl), List.forall_mem_cons.mpr ⟨(wg2 208 rfl rfl), List.forall_mem_cons.mpr ⟨(wg2 210 rfl rfl), List.forall_mem_cons.mpr ⟨(wg2 212 rfl rfl), List.forall_mem_cons.mpr ⟨(wg2 214 rfl rfl), List.forall_mem_cons.mpr ⟨(wg2 216 rfl rfl), List.forall_mem_cons.mpr ⟨(wg2 218 rfl rfl), List.forall_mem_cons.mpr ⟨(wg2 220 rfl rfl), List.forall_mem_cons.mpr ⟨(wg2 222 rfl rfl), fun _ h => nomatch h⟩⟩⟩⟩⟩⟩⟩⟩⟩⟩
theorem uw_X12 : ∀ w ∈ u_ws RX12 TX12 39, w ∈ WG := by
  show ∀ w ∈ [u_lay RX12 TX12 0, u_lay RX12 TX12 1, u_lay RX12 TX12 2, u_lay RX12 TX12 3, u_lay RX12 TX12 4, u_lay RX12 TX12 5, u_lay RX12 TX12 6, u_lay RX12 TX12 7, u_lay RX12 TX12 8, u_lay RX12 TX12 9, u_lay RX12 TX12 10, u_lay RX12 TX12 11, u_lay RX12 TX12 12, u_lay RX12 TX12 13, u_lay RX12 TX12 14, u_lay RX12 TX12 15, u_lay RX12 TX12 16, u_lay RX12 TX12 17, u_lay RX12 TX12 18, u_lay RX12 TX12 19, u_lay RX12 TX12 20, u_lay RX12 TX12 21, u_lay RX12 TX12 22, u_lay RX12 TX12 23, u_lay RX12 TX12 24, u_lay RX12 TX12 25, u_lay RX12 TX12 26, u_lay RX12 TX12 27, u_lay RX12 TX12 28, u_lay RX12 TX12 29, u_lay RX12 TX12 30, u_lay RX12 TX12 31, u_lay RX12 TX12 32, u_lay RX12 TX12 33, u_lay RX12 TX12 34, u_lay RX12 TX12 35, u_lay RX12 TX12 36, u_lay RX12 TX12 37, u_lay RX12 TX12 38], w ∈ WG
  exact List.forall_mem_cons.mpr ⟨(wg7 168 rfl rfl), List.forall_mem_cons.mpr ⟨(wg7 170 rfl rfl), List.forall_mem_cons.mpr ⟨(wg7 172 rfl rfl), List.forall_mem_cons.mpr ⟨(wg7 174 rfl rfl), List.forall_mem_cons.mpr ⟨(wg7 176 rfl rfl), List.forall_mem_cons.mpr ⟨(wg7 178 rfl rfl), List.forall_mem_cons.mpr ⟨(wg7 180 rfl rfl), List.forall_mem_cons.mpr ⟨(wg7 182 rfl rfl), List.forall_mem_cons.mpr ⟨(wg7 184 rfl rfl), List.forall_mem_cons.mpr ⟨(wg7 186 rfl rfl), List.forall_mem_cons.mpr ⟨(wg7 188 rfl rfl), List.forall_mem_cons.mpr ⟨(wg7 190 rfl rfl), List.forall_mem_cons.mpr ⟨(wg7 192 rfl rfl), List.forall_mem_cons.mpr ⟨(wg7 194 rfl rfl), List.forall_mem_cons.mpr ⟨(wg7 196 rfl rfl), List.forall_mem_cons.mpr ⟨(wg7 198 rfl rfl), List.forall_mem_cons.mpr ⟨(wg7 200 rfl rfl), List.forall_mem_cons.mpr ⟨(wg7 202 rfl rfl), List.forall_mem_cons.mpr ⟨(wg7 204 rfl rfl), List.forall_mem_cons.mpr ⟨(wg7 206 rfl rfl), List.forall_mem_cons.mpr ⟨(wg7 208 rfl rfl), List.forall_mem_cons.mpr ⟨(wg7 210 rfl rfl), List.forall_mem_cons.mpr ⟨(wg7 212 rfl rfl), List.forall_mem_cons.mpr ⟨(wg7 214 rfl rfl), List.forall_mem_cons.mpr ⟨(wg7 216 rfl rfl), List.forall_mem_cons.mpr ⟨(wg7 218 rfl rfl), List.forall_mem_cons.mpr ⟨(wg7 220 rfl rfl), List.forall_mem_cons.mpr ⟨(wg7 222 rfl rfl), List.forall_mem_cons.mpr ⟨(wg7 224 rfl rfl), List.forall_mem_cons.mpr ⟨(wg7 226 rfl rfl), List.forall_mem_cons.mpr ⟨(wg7 228 rfl rfl), List.forall_mem_cons.mpr ⟨(wg7 230 rfl rfl), List.forall_mem_cons.mpr ⟨(wg7 232 rfl rfl), List.forall_mem_cons.mpr ⟨(wg7 234 rfl rfl), List.forall_mem_cons.mpr ⟨(wg7 236 rfl rfl), List.forall_mem_cons.mpr ⟨(wg7 238 rfl rfl), List.forall_mem_cons.mpr ⟨(wg8 0 rfl rfl), List.forall_mem_cons.mpr ⟨(wg8 2 rfl rfl), List.forall_mem_cons.mpr ⟨(wg8 4 rfl rfl), fun _ h => nomatch h⟩⟩⟩⟩⟩⟩⟩⟩⟩⟩⟩⟩⟩⟩⟩⟩⟩⟩⟩⟩⟩⟩⟩⟩⟩⟩⟩⟩⟩⟩⟩⟩⟩⟩⟩⟩⟩⟩⟩
theorem uw_X3 : ∀ w ∈ u_ws RX3 TX3 8, w ∈ WG := by
  show ∀ w ∈ [u_lay RX3 TX3 0, u_lay RX3 TX3 1, u_lay RX3 TX3 2, u_lay RX3 TX3 3, u_lay RX3 TX3 4, u_lay RX3 TX3 5, u_lay RX3 TX3 6, u_lay RX3 TX3 7], w ∈ WG
  exact List.forall_mem_cons.mpr ⟨(wg1 69 rfl rfl), List.forall_mem_cons.mpr ⟨(wg1 71 rfl rfl), List.forall_mem_cons.mpr ⟨(wg1 73 rfl rfl), List.forall_mem_cons.mpr ⟨(wg1 75 rfl rfl), List.forall_mem_cons.mpr ⟨(wg1 77 rfl rfl), List.forall_mem_cons.mpr ⟨(wg1 79 rfl rfl), List.forall_mem_cons.mpr ⟨(wg1 81 rfl rfl), List.forall_mem_cons.mpr ⟨(wg1 83 rfl rfl), fun _ h => nomatch h⟩⟩⟩⟩⟩⟩⟩⟩
theorem uw_X6 : ∀ w ∈ u_ws RX6 TX6 13, w ∈ WG := by
  show ∀ w ∈ [u_lay RX6 TX6 0, u_lay RX6 TX6 1, u_lay RX6 TX6 2, u_lay RX6 TX6 3, u_lay RX6 TX6 4, u_lay RX6 TX6 5, u_lay RX6 TX6 6, u_lay RX6 TX6 7, u_lay RX6 TX6 8, u_lay RX6 TX6 9, u_lay RX6 TX6 10, u_lay RX6 TX6 11, u_lay RX6 TX6 12], w ∈ WG
  exact List.forall_mem_cons.mpr ⟨(wg1 120 rfl rfl), List.forall_mem_cons.mpr ⟨(wg1 122 rfl rfl), List.forall_mem_cons.mpr ⟨(wg1 124 rfl rfl), List.forall_mem_cons.mpr ⟨(wg1 126 rfl rfl), List.forall_mem_cons.mpr ⟨(wg1 128 rfl rfl), List.forall_mem_cons.mpr ⟨(wg1 130 rfl rfl), List.forall_mem_cons.mpr ⟨(wg1 132 rfl rfl), List.forall_mem_cons.mpr ⟨(wg1 134 rfl rfl), List.forall_mem_cons.mpr ⟨(wg1 136 rfl rfl), List.forall_mem_cons.mpr ⟨(wg1 138 rfl rfl), List.forall_mem_cons.mpr ⟨(wg1 140 rfl rfl), List.forall_mem_cons.mpr ⟨(wg1 142 rfl rfl), List.forall_mem_cons.mpr ⟨(wg1 144 rfl rfl), fun _ h => nomatch h⟩⟩⟩⟩⟩⟩⟩⟩⟩⟩⟩⟩⟩
theorem fl_X11_10 : FL RX11 10 11 0 := ⟨RX11, TX11, 10, rfl, uw_X11, by decide, (wg2 194 rfl rfl)⟩
theorem fl_X11_77 : FL RX11 77 10 0 := ⟨RX10, TX10, 6, rfl, uw_X10, by decide, (wg2 39 rfl rfl)⟩
theorem fl_X11_278 : FL RX11 278 3 0 := ⟨RX3, TX3, 8, rfl, uw_X3, by decide, (wg1 50 rfl rfl)⟩
theorem fl_X0_17 : FL RX0 17 0 0 := ⟨RX0, TX0, 2, rfl, uw_X0, by decide, (wg2 118 rfl rfl)⟩
theorem fp_X0_17 : FP RX0 17 0 0 .long := ⟨RX0, TX0, 2, tyX0, rfl, uw_X0, by decide, (wg2 118 rfl rfl), tyX0_ok, nmX0, rfl, by decide +kernel⟩
theorem fl_X0_21 : FL RX0 21 0 1 := ⟨RX0, TX0, 2, rfl, uw_X0, by decide, (wg2 120 rfl rfl)⟩
theorem fp_X0_21 : FP RX0 21 0 1 .long := ⟨RX0, TX0, 2, tyX0, rfl, uw_X0, by decide, (wg2 120 rfl rfl), tyX0_ok, nmX0, rfl, by decide +kernel⟩
theorem fl_X6_24 : FL RX6 24 6 5 := ⟨RX6, TX6, 13, rfl, uw_X6, by decide, (wg1 105 rfl rfl)⟩
theorem fl_X6_42 : FL RX6 42 6 11 := ⟨RX6, TX6, 13, rfl, uw_X6, by decide, (wg1 116 rfl rfl)⟩
theorem fl_X6_45 : FL RX6 45 6 12 := ⟨RX6, TX6, 13, rfl, uw_X6, by decide, (wg1 118 rfl rfl)⟩
theorem fl_X12_9 : FL RX12 9 12 0 := ⟨RX12, TX12, 39, rfl, uw_X12, by decide, (wg7 129 rfl rfl)⟩
theorem fl_X12_36 : FL RX12 36 12 25 := ⟨RX12, TX12, 39, rfl, uw_X12, by decide, (wg7 154 rfl rfl)⟩
theorem mw_X0_7 : MW RX0 7 yX0_drop cX0_drop 1 (some .boolean) 0 := ⟨(wg5 113 rfl rfl), (wg5 116 rfl rfl), (wg1 10 rfl rfl), by decide, by decide, by decide +kernel⟩
theorem mw_X0_13 : MW RX0 13 yX0_commonOf cX0_commonOf 11 (some .long) 2 := ⟨(wg5 117 rfl rfl), (wg5 119 rfl rfl), (wg1 10 rfl rfl), by decide, by decide, by decide +kernel⟩
theorem ms_X0_commonOf : Cond.static yX0_commonOf ∈ WG := (wg5 118 rfl rfl)
theorem mv_X0_drop : Cond.instanceMethod yX0_drop ∈ WG ∧ Cond.selects yX0_drop.cls yX0_drop yX0_drop ∈ WG := ⟨(wg5 114 rfl rfl), (wg5 115 rfl rfl)⟩
theorem tw_0_113 : TW 113 0 := tw_of (by decide +kernel) (by decide +kernel)
theorem tc_0 : Cond.classLink RX11 109 (ex9 0) ∈ WG ∧ Cond.initialized (ex9 0) ∈ WG := ⟨(wg3 75 rfl rfl), (wg1 17 rfl rfl)⟩
theorem tn_222 : TN 222 := tn_of (by decide +kernel) (by decide +kernel)
theorem tc_2 : Cond.classLink RX11 218 (ex9 2) ∈ WG ∧ Cond.initialized (ex9 2) ∈ WG := ⟨(wg3 165 rfl rfl), (wg1 18 rfl rfl)⟩
