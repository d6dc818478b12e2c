theorem okw_96 : okW mt_96 := by unfold okW; decide +kernel
set_option maxRecDepth 40000 in
theorem oku_96 : okU mt_96 := by unfold okU; rfl
theorem okw_97 : okW mt_97 := by unfold okW; decide +kernel
set_option maxRecDepth 40000 in
theorem oku_97 : okU mt_97 := by unfold okU; rfl
theorem okw_98 : okW mt_98 := by unfold okW; decide +kernel
set_option maxRecDepth 40000 in
theorem oku_98 : okU mt_98 := by unfold okU; rfl
theorem okw_99 : okW mt_99 := by unfold okW; decide +kernel
set_option maxRecDepth 40000 in
theorem oku_99 : okU mt_99 := by unfold okU; rfl
theorem okw_100 : okW mt_100 := by unfold okW; decide +kernel
set_option maxRecDepth 40000 in
theorem oku_100 : okU mt_100 := by unfold okU; rfl
theorem okw_101 : okW mt_101 := by unfold okW; decide +kernel
set_option maxRecDepth 40000 in
theorem oku_101 : okU mt_101 := by unfold okU; rfl
theorem okw_102 : okW mt_102 := by unfold okW; decide +kernel
set_option maxRecDepth 40000 in
theorem oku_102 : okU mt_102 := by unfold okU; rfl
theorem okw_103 : okW mt_103 := by unfold okW; decide +kernel
set_option maxRecDepth 40000 in
theorem oku_103 : okU mt_103 := by unfold okU; rfl
theorem okw_104 : okW mt_104 := by unfold okW; decide +kernel
set_option maxRecDepth 40000 in
theorem oku_104 : okU mt_104 := by unfold okU; rfl
theorem okw_105 : okW mt_105 := by unfold okW; decide +kernel
set_option maxRecDepth 40000 in
theorem oku_105 : okU mt_105 := by unfold okU; rfl
theorem okw_106 : okW mt_106 := by unfold okW; decide +kernel
set_option maxRecDepth 40000 in
theorem oku_106 : okU mt_106 := by unfold okU; rfl
theorem okw_107 : okW mt_107 := by unfold okW; decide +kernel
set_option maxRecDepth 40000 in
theorem oku_107 : okU mt_107 := by unfold okU; rfl
theorem okw_108 : okW mt_108 := by unfold okW; decide +kernel
set_option maxRecDepth 40000 in
theorem oku_108 : okU mt_108 := by unfold okU; rfl
theorem okw_109 : okW mt_109 := by unfold okW; decide +kernel
set_option maxRecDepth 40000 in
theorem oku_109 : okU mt_109 := by unfold okU; rfl
theorem okw_110 : okW mt_110 := by unfold okW; decide +kernel
set_option maxRecDepth 40000 in
theorem oku_110 : okU mt_110 := by unfold okU; rfl
theorem okw_111 : okW mt_111 := by unfold okW; decide +kernel
set_option maxRecDepth 40000 in
theorem oku_111 : okU mt_111 := by unfold okU; rfl
theorem okw_112 : okW mt_112 := by unfold okW; decide +kernel
set_option maxRecDepth 40000 in
theorem oku_112 : okU mt_112 := by unfold okU; rfl
theorem okw_113 : okW mt_113 := by unfold okW; decide +kernel
set_option maxRecDepth 40000 in
theorem oku_113 : okU mt_113 := by unfold okU; rfl
theorem okw_114 : okW mt_114 := by unfold okW; decide +kernel
set_option maxRecDepth 40000 in
theorem oku_114 : okU mt_114 := by unfold okU; rfl
theorem okw_115 : okW mt_115 := by unfold okW; decide +kernel
set_option maxRecDepth 40000 in
theorem oku_115 : okU mt_115 := by unfold okU; rfl
theorem okw_116 : okW mt_116 := by unfold okW; decide +kernel
set_option maxRecDepth 40000 in
theorem oku_116 : okU mt_116 := by unfold okU; rfl
theorem okw_117 : okW mt_117 := by unfold okW; decide +kernel
set_option maxRecDepth 40000 in
theorem oku_117 : okU mt_117 := by unfold okU; rfl
theorem okw_118 : okW mt_118 := by unfold okW; decide +kernel
set_option maxRecDepth 40000 in
theorem oku_118 : okU mt_118 := by unfold okU; rfl
theorem okw_119 : okW mt_119 := by unfold okW; decide +kernel
set_option maxRecDepth 40000 in
theorem oku_119 : okU mt_119 := by unfold okU; rfl
theorem okw_120 : okW mt_120 := by unfold okW; decide +kernel
set_option maxRecDepth 40000 in
theorem oku_120 : okU mt_120 := by unfold okU; rfl
theorem okw_121 : okW mt_121 := by unfold okW; decide +kernel
set_option maxRecDepth 40000 in
theorem oku_121 : okU mt_121 := by unfold okU; rfl
theorem okw_122 : okW mt_122 := by unfold okW; decide +kernel
set_option maxRecDepth 40000 in
theorem oku_122 : okU mt_122 := by unfold okU; rfl
theorem okw_123 : okW mt_123 := by unfold okW; decide +kernel
set_option maxRecDepth 40000 in
theorem oku_123 : okU mt_123 := by unfold okU; rfl
theorem okw_124 : okW mt_124 := by unfold okW; decide +kernel
set_option maxRecDepth 40000 in
theorem oku_124 : okU mt_124 := by unfold okU; rfl
theorem okw_125 : okW mt_125 := by unfold okW; decide +kernel
set_option maxRecDepth 40000 in
theorem oku_125 : okU mt_125 := by unfold okU; rfl
theorem okw_126 : okW mt_126 := by unfold okW; decide +kernel
set_option maxRecDepth 40000 in
theorem oku_126 : okU mt_126 := by unfold okU; rfl
theorem okw_127 : okW mt_127 := by unfold okW; decide +kernel
set_option maxRecDepth 40000 in
theorem oku_127 : okU mt_127 := by unfold okU; rfl
theorem OKW_3 : ∀ e ∈ MTL_3, okW e ∧ okU e := List.forall_mem_cons.mpr ⟨⟨okw_96, oku_96⟩, List.forall_mem_cons.mpr ⟨⟨okw_97, oku_97⟩, List.forall_mem_cons.mpr ⟨⟨okw_98, oku_98⟩, List.forall_mem_cons.mpr ⟨⟨okw_99, oku_99⟩, List.forall_mem_cons.mpr ⟨⟨okw_100, oku_100⟩, List.forall_mem_cons.mpr ⟨⟨okw_101, oku_101⟩, List.forall_mem_cons.mpr ⟨⟨okw_102, oku_102⟩, List.forall_mem_cons.mpr ⟨⟨okw_103, oku_103⟩, List.forall_mem_cons.mpr ⟨⟨okw_104, oku_104⟩, List.forall_mem_cons.mpr ⟨⟨okw_105, oku_105⟩, List.forall_mem_cons.mpr ⟨⟨okw_106, oku_106⟩, List.forall_mem_cons.mpr ⟨⟨okw_107, oku_107⟩, List.forall_mem_cons.mpr ⟨⟨okw_108, oku_108⟩, List.forall_mem_cons.mpr ⟨⟨okw_109, oku_109⟩, List.forall_mem_cons.mpr ⟨⟨okw_110, oku_110⟩, List.forall_mem_cons.mpr ⟨⟨okw_111, oku_111⟩, List.forall_mem_cons.mpr ⟨⟨okw_112, oku_112⟩, List.forall_mem_cons.mpr ⟨⟨okw_113, oku_113⟩, List.forall_mem_cons.mpr ⟨⟨okw_114, oku_114⟩, List.forall_mem_cons.mpr ⟨⟨okw_115, oku_115⟩, List.forall_mem_cons.mpr ⟨⟨okw_116, oku_116⟩, List.forall_mem_cons.mpr ⟨⟨okw_117, oku_117⟩, List.forall_mem_cons.mpr ⟨⟨okw_118, oku_118⟩, List.forall_mem_cons.mpr ⟨⟨okw_119, oku_119⟩, List.forall_mem_cons.mpr ⟨⟨okw_120, oku_120⟩, List.forall_mem_cons.mpr ⟨⟨okw_121, oku_121⟩, List.forall_mem_cons.mpr ⟨⟨okw_122, oku_122⟩, List.forall_mem_cons.mpr ⟨⟨okw_123, oku_123⟩, List.forall_mem_cons.mpr ⟨⟨okw_124, oku_124⟩, List.forall_mem_cons.mpr ⟨⟨okw_125, oku_125⟩, List.forall_mem_cons.mpr ⟨⟨okw_126, oku_126⟩, List.forall_mem_cons.mpr ⟨⟨okw_127, oku_127⟩, fun _ h => absurd h List.not_mem_nil⟩⟩⟩⟩⟩⟩⟩⟩⟩⟩⟩⟩⟩⟩⟩⟩⟩⟩⟩⟩⟩⟩⟩⟩⟩⟩⟩⟩⟩⟩⟩⟩
theorem okw_128 : okW mt_128 := by unfold okW; decide +kernel
set_option maxRecDepth 40000 in
theorem oku_128 : okU mt_128 := by unfold okU; rfl
theorem okw_129 : okW mt_129 := by unfold okW; decide +kernel
set_option maxRecDepth 40000 in
theorem oku_129 : okU mt_129 := by unfold okU; rfl
theorem okw_130 : okW mt_130 := by unfold okW; decide +kernel
set_option maxRecDepth 40000 in
theorem oku_130 : okU mt_130 := by unfold okU; rfl
theorem okw_131 : okW mt_131 := by unfold okW; decide +kernel
set_option maxRecDepth 40000 in
theorem oku_131 : okU mt_131 := by unfold okU; rfl
theorem okw_132 : okW mt_132 := by unfold okW; decide +kernel
set_option maxRecDepth 40000 in
theorem oku_132 : okU mt_132 := by unfold okU; rfl
theorem okw_133 : okW mt_133 := by unfold okW; decide +kernel
set_option maxRecDepth 40000 in
theorem oku_133 : okU mt_133 := by unfold okU; rfl
theorem okw_134 : okW mt_134 := by unfold okW; decide +kernel
set_option maxRecDepth 40000 in
theorem oku_134 : okU mt_134 := by unfold okU; rfl
theorem okw_135 : okW mt_135 := by unfold okW; decide +kernel
set_option maxRecDepth 40000 in
theorem oku_135 : okU mt_135 := by unfold okU; rfl
theorem okw_136 : okW mt_136 := by unfold okW; decide +kernel
set_option maxRecDepth 40000 in
theorem oku_136 : okU mt_136 := by unfold okU; rfl
theorem okw_137 : okW mt_137 := by unfold okW; decide +kernel
set_option maxRecDepth 40000 in
theorem oku_137 : okU mt_137 := by unfold okU; rfl
theorem okw_138 : okW mt_138 := by unfold okW; decide +kernel
set_option maxRecDepth 40000 in
theorem oku_138 : okU mt_138 := by unfold okU; rfl
theorem okw_139 : okW mt_139 := by unfold okW; decide +kernel
set_option maxRecDepth 40000 in
theorem oku_139 : okU mt_139 := by unfold okU; rfl
theorem okw_140 : okW mt_140 := by unfold okW; decide +kernel
set_option maxRecDepth 40000 in
theorem oku_140 : okU mt_140 := by unfold okU; rfl
theorem okw_141 : okW mt_141 := by unfold okW; decide +kernel
set_option maxRecDepth 40000 in
theorem oku_141 : okU mt_141 := by unfold okU; rfl
theorem okw_142 : okW mt_142 := by unfold okW; decide +kernel
set_option maxRecDepth 40000 in
theorem oku_142 : okU mt_142 := by unfold okU; rfl
theorem okw_143 : okW mt_143 := by unfold okW; decide +kernel
set_option maxRecDepth 40000 in
theorem oku_143 : okU mt_143 := by unfold okU; rfl
theorem okw_144 : okW mt_144 := by unfold okW; decide +kernel
set_option maxRecDepth 40000 in
theorem oku_144 : okU mt_144 := by unfold okU; rfl
theorem okw_145 : okW mt_145 := by unfold okW; decide +kernel
set_option maxRecDepth 40000 in
theorem oku_145 : okU mt_145 := by unfold okU; rfl
theorem okw_146 : okW mt_146 := by unfold okW; decide +kernel
set_option maxRecDepth 40000 in
theorem oku_146 : okU mt_146 := by unfold okU; rfl
theorem okw_147 : okW mt_147 := by unfold okW; decide +kernel
set_option maxRecDepth 40000 in
theorem oku_147 : okU mt_147 := by unfold okU; rfl
theorem okw_148 : okW mt_148 := by unfold okW; decide +kernel
set_option maxRecDepth 40000 in
theorem oku_148 : okU mt_148 := by unfold okU; rfl
theorem okw_149 : okW mt_149 := by unfold okW; decide +kernel
set_option maxRecDepth 40000 in
theorem oku_149 : okU mt_149 := by unfold okU; rfl
theorem okw_150 : okW mt_150 := by unfold okW; decide +kernel
set_option maxRecDepth 40000 in
theorem oku_150 : okU mt_150 := by unfold okU; rfl
theorem okw_151 : okW mt_151 := by unfold okW; decide +kernel
set_option maxRecDepth 40000 in
theorem oku_151 : okU mt_151 := by unfold okU; rfl
theorem okw_152 : okW mt_152 := by unfold okW; decide +kernel
set_option maxRecDepth 40000 in
theorem oku_152 : okU mt_152 := by unfold okU; rfl
theorem okw_153 : okW mt_153 := by unfold okW; decide +kernel
set_option maxRecDepth 40000 in
theorem oku_153 : okU mt_153 := by unfold okU; rfl
theorem okw_154 : okW mt_154 := by unfold okW; decide +kernel
set_option maxRecDepth 40000 in
theorem oku_154 : okU mt_154 := by unfold okU; rfl
theorem okw_155 : okW mt_155 := by unfold okW; decide +kernel
set_option maxRecDepth 40000 in
theorem oku_155 : okU mt_155 := by unfold okU; rfl
theorem okw_156 : okW mt_156 := by unfold okW; decide +kernel
set_option maxRecDepth 40000 in
theorem oku_156 : okU mt_156 := by unfold okU; rfl
theorem okw_157 : okW mt_157 := by unfold okW; decide +kernel
set_option maxRecDepth 40000 in
theorem oku_157 : okU mt_157 := by unfold okU; rfl
theorem okw_158 : okW mt_158 := by unfold okW; decide +kernel
set_option maxRecDepth 40000 in
theorem oku_158 : okU mt_158 := by unfold okU; rfl
theorem okw_159 : okW mt_159 := by unfold okW; decide +kernel
set_option maxRecDepth 40000 in
theorem oku_159 : okU mt_159 := by unfold okU; rfl
theorem OKW_4 : ∀ e ∈ MTL_4, okW e ∧ okU e := List.forall_mem_cons.mpr ⟨⟨okw_128, oku_128⟩, List.forall_mem_cons.mpr ⟨⟨okw_129, oku_129⟩, List.forall_mem_cons.mpr ⟨⟨okw_130, oku_130⟩, List.forall_mem_cons.mpr ⟨⟨okw_131, oku_131⟩, List.forall_mem_cons.mpr ⟨⟨okw_132, oku_132⟩, List.forall_mem_cons.mpr ⟨⟨okw_133, oku_133⟩, List.forall_mem_cons.mpr ⟨⟨okw_134, oku_134⟩, List.forall_mem_cons.mpr ⟨⟨okw_135, oku_135⟩, List.forall_mem_cons.mpr ⟨⟨okw_136, oku_136⟩, List.forall_mem_cons.mpr ⟨⟨okw_137, oku_137⟩, List.forall_mem_cons.mpr ⟨⟨okw_138, oku_138⟩, List.forall_mem_cons.mpr ⟨⟨okw_139, oku_139⟩, List.forall_mem_cons.mpr ⟨⟨okw_140, oku_140⟩, List.forall_mem_cons.mpr ⟨⟨okw_141, oku_141⟩, List.forall_mem_cons.mpr ⟨⟨okw_142, oku_142⟩, List.forall_mem_cons.mpr ⟨⟨okw_143, oku_143⟩, List.forall_mem_cons.mpr ⟨⟨okw_144, oku_144⟩, List.forall_mem_cons.mpr ⟨⟨okw_145, oku_145⟩, List.forall_mem_cons.mpr ⟨⟨okw_146, oku_146⟩, List.forall_mem_cons.mpr ⟨⟨okw_147, oku_147⟩, List.forall_mem_cons.mpr ⟨⟨okw_148, oku_148⟩, List.forall_mem_cons.mpr ⟨⟨okw_149, oku_149⟩, List.forall_mem_cons.mpr ⟨⟨okw_150, oku_150⟩, List.forall_mem_cons.mpr ⟨⟨okw_151, oku_151⟩, List.forall_mem_cons.mpr ⟨⟨okw_152, oku_152⟩, List.forall_mem_cons.mpr ⟨⟨okw_153, oku_153⟩, List.forall_mem_cons.mpr ⟨⟨okw_154, oku_154⟩, List.forall_mem_cons.mpr ⟨⟨okw_155, oku_155⟩, List.forall_mem_cons.mpr ⟨⟨okw_156, oku_156⟩, List.forall_mem_cons.mpr ⟨⟨okw_157, oku_157⟩, List.forall_mem_cons.mpr ⟨⟨okw_158, oku_158⟩, List.forall_mem_cons.mpr ⟨⟨okw_159, oku_159⟩, fun _ h => absurd h List.not_mem_nil⟩⟩⟩⟩⟩⟩⟩⟩⟩⟩⟩⟩⟩⟩⟩⟩⟩⟩⟩⟩⟩⟩⟩⟩⟩⟩⟩⟩⟩⟩⟩⟩
theorem okw_160 : okW mt_160 := by unfold okW; decide +kernel
set_option maxRecDepth 40000 in
theorem oku_160 : okU mt_160 := by unfold okU; rfl
theorem okw_161 : okW mt_161 := by unfold okW; decide +kernel
set_option maxRecDepth 40000 in
theorem oku_161 : okU mt_161 := by unfold okU; rfl
theorem okw_162 : okW mt_162 := by unfold okW; decide +kernel
set_option maxRecDepth 40000 in
theorem oku_162 : okU mt_162 := by unfold okU; rfl
theorem okw_163 : okW mt_163 := by unfold okW; decide +kernel
set_option maxRecDepth 40000 in
theorem oku_163 : okU mt_163 := by unfold okU; rfl
theorem okw_164 : okW mt_164 := by unfold okW; decide +kernel
set_option maxRecDepth 40000 in
theorem oku_164 : okU mt_164 := by unfold okU; rfl
theorem okw_165 : okW mt_165 := by unfold okW; decide +kernel
set_option maxRecDepth 40000 in
theorem oku_165 : okU mt_165 := by unfold okU; rfl
theorem okw_166 : okW mt_166 := by unfold okW; decide +kernel
set_option maxRecDepth 40000 in
theorem oku_166 : okU mt_166 := by unfold okU; rfl
theorem okw_167 : okW mt_167 := by unfold okW; decide +kernel
set_option maxRecDepth 40000 in
theorem oku_167 : okU mt_167 := by unfold okU; rfl
theorem okw_168 : okW mt_168 := by unfold okW; decide +kernel
set_option maxRecDepth 40000 in
theorem oku_168 : okU mt_168 := by unfold okU; rfl
theorem okw_169 : okW mt_169 := by unfold okW; decide +kernel
set_option maxRecDepth 40000 in
theorem oku_169 : okU mt_169 := by unfold okU; rfl
theorem okw_170 : okW mt_170 := by unfold okW; decide +kernel
set_option maxRecDepth 40000 in
theorem oku_170 : okU mt_170 := by unfold okU; rfl
theorem okw_171 : okW mt_171 := by unfold okW; decide +kernel
set_option maxRecDepth 40000 in
theorem oku_171 : okU mt_171 := by unfold okU; rfl
theorem okw_172 : okW mt_172 := by unfold okW; decide +kernel
set_option maxRecDepth 40000 in
theorem oku_172 : okU mt_172 := by unfold okU; rfl
theorem okw_173 : okW mt_173 := by unfold okW; decide +kernel
set_option maxRecDepth 40000 in
theorem oku_173 : okU mt_173 := by unfold okU; rfl
theorem okw_174 : okW mt_174 := by unfold okW; decide +kernel
set_option maxRecDepth 40000 in
theorem oku_174 : okU mt_174 := by unfold okU; rfl
theorem okw_175 : okW mt_175 := by unfold okW; decide +kernel
set_option maxRecDepth 40000 in
theorem oku_175 : okU mt_175 := by unfold okU; rfl
theorem okw_176 : okW mt_176 := by unfold okW; decide +kernel
set_option maxRecDepth 40000 in
theorem oku_176 : okU mt_176 := by unfold okU; rfl
theorem okw_177 : okW mt_177 := by unfold okW; decide +kernel
set_option maxRecDepth 40000 in
theorem oku_177 : okU mt_177 := by unfold okU; rfl
theorem okw_178 : okW mt_178 := by unfold okW; decide +kernel
set_option maxRecDepth 40000 in
theorem oku_178 : okU mt_178 := by unfold okU; rfl
theorem okw_179 : okW mt_179 := by unfold okW; decide +kernel
set_option maxRecDepth 40000 in
theorem oku_179 : okU mt_179 := by unfold okU; rfl
theorem okw_180 : okW mt_180 := by unfold okW; decide +kernel
set_option maxRecDepth 40000 in
theorem oku_180 : okU mt_180 := by unfold okU; rfl
theorem okw_181 : okW mt_181 := by unfold okW; decide +kernel
set_option maxRecDepth 40000 in
theorem oku_181 : okU mt_181 := by unfold okU; rfl
theorem okw_182 : okW mt_182 := by unfold okW; decide +kernel
set_option maxRecDepth 40000 in
theorem oku_182 : okU mt_182 := by unfold okU; rfl
theorem okw_183 : okW mt_183 := by unfold okW; decide +kernel
set_option maxRecDepth 40000 in
theorem oku_183 : okU mt_183 := by unfold okU; rfl
theorem okw_184 : okW mt_184 := by unfold okW; decide +kernel
set_option maxRecDepth 40000 in
theorem oku_184 : okU mt_184 := by unfold okU; rfl
theorem okw_185 : okW mt_185 := by unfold okW; decide +kernel
set_option maxRecDepth 40000 in
theorem oku_185 : okU mt_185 := by unfold okU; rfl
theorem okw_186 : okW mt_186 := by unfold okW; decide +kernel
set_option maxRecDepth 40000 in
theorem oku_186 : okU mt_186 := by unfold okU; rfl
theorem okw_187 : okW mt_187 := by unfold okW; decide +kernel
set_option maxRecDepth 40000 in
theorem oku_187 : okU mt_187 := by unfold okU; rfl
theorem okw_188 : okW mt_188 := by unfold okW; decide +kernel
set_option maxRecDepth 40000 in
theorem oku_188 : okU mt_188 := by unfold okU; rfl
theorem okw_189 : okW mt_189 := by unfold okW; decide +kernel
set_option maxRecDepth 40000 in
theorem oku_189 : okU mt_189 := by unfold okU; rfl
theorem okw_190 : okW mt_190 := by unfold okW; decide +kernel
set_option maxRecDepth 40000 in
theorem oku_190 : okU mt_190 := by unfold okU; rfl
theorem okw_191 : okW mt_191 := by unfold okW; decide +kernel
set_option maxRecDepth 40000 in
theorem oku_191 : okU mt_191 := by unfold okU; rfl
theorem OKW_5 : ∀ e ∈ MTL_5, okW e ∧ okU e := List.forall_mem_cons.mpr ⟨⟨okw_160, oku_160⟩, List.forall_mem_cons.mpr ⟨⟨okw_161, oku_161⟩, List.forall_mem_cons.mpr ⟨⟨okw_162, oku_162⟩, List.forall_mem_cons.mpr ⟨⟨okw_163, oku_163⟩, List.forall_mem_cons.mpr ⟨⟨okw_164, oku_164⟩, List.forall_mem_cons.mpr ⟨⟨okw_165, oku_165⟩, List.forall_mem_cons.mpr ⟨⟨okw_166, oku_166⟩, List.forall_mem_cons.mpr ⟨⟨okw_167, oku_167⟩, List.forall_mem_cons.mpr ⟨⟨okw_168, oku_168⟩, List.forall_mem_cons.mpr ⟨⟨okw_169, oku_169⟩, List.forall_mem_cons.mpr ⟨⟨okw_170, oku_170⟩, List.forall_mem_cons.mpr ⟨⟨okw_171, oku_171⟩, List.forall_mem_cons.mpr ⟨⟨okw_172, oku_172⟩, List.forall_mem_cons.mpr ⟨⟨okw_173, oku_173⟩, List.forall_mem_cons.mpr ⟨⟨okw_174, oku_174⟩, List.forall_mem_cons.mpr ⟨⟨okw_175, oku_175⟩, List.forall_mem_cons.mpr ⟨⟨okw_176, oku_176⟩, List.forall_mem_cons.mpr ⟨⟨okw_177, oku_177⟩, List.forall_mem_cons.mpr ⟨⟨okw_178, oku_178⟩, List.forall_mem_cons.mpr ⟨⟨okw_179, oku_179⟩, List.forall_mem_cons.mpr ⟨⟨okw_180, oku_180⟩, List.forall_mem_cons.mpr ⟨⟨okw_181, oku_181⟩, List.forall_mem_cons.mpr ⟨⟨okw_182, oku_182⟩, List.forall_mem_cons.mpr ⟨⟨okw_183, oku_183⟩, List.forall_mem_cons.mpr ⟨⟨okw_184, oku_184⟩, List.forall_mem_cons.mpr ⟨⟨okw_185, oku_185⟩, List.forall_mem_cons.mpr ⟨⟨okw_186, oku_186⟩, List.forall_mem_cons.mpr ⟨⟨okw_187, oku_187⟩, List.forall_mem_cons.mpr ⟨⟨okw_188, oku_188⟩, List.forall_mem_cons.mpr ⟨⟨okw_189, oku_189⟩, List.forall_mem_cons.mpr ⟨⟨okw_190, oku_190⟩, List.forall_mem_cons.mpr ⟨⟨okw_191, oku_191⟩, fun _ h => absurd h List.not_mem_nil⟩⟩⟩⟩⟩⟩⟩⟩⟩⟩⟩⟩⟩⟩⟩⟩⟩⟩⟩⟩⟩⟩⟩⟩⟩⟩⟩⟩⟩⟩⟩⟩
