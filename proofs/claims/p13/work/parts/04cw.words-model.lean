set_option maxRecDepth 100000 in
theorem mw_149 : MWok md_149 := ⟨tin_5 (List.mem_of_getElem? (i := 107) rfl), tin_1 (List.mem_of_getElem? (i := 11) rfl), ⟨by decide +kernel, by decide +kernel⟩, rfl, by decide +kernel, by decide, fun _ => ⟨rfl, rfl⟩⟩
set_option maxRecDepth 100000 in
theorem mw_150 : MWok md_150 := ⟨tin_6 (List.mem_of_getElem? (i := 7) rfl), tin_1 (List.mem_of_getElem? (i := 11) rfl), ⟨by decide +kernel, by decide +kernel⟩, rfl, by decide +kernel, by decide, fun h => by cases h⟩
set_option maxRecDepth 100000 in
theorem mw_151 : MWok md_151 := ⟨tin_6 (List.mem_of_getElem? (i := 10) rfl), tin_1 (List.mem_of_getElem? (i := 11) rfl), ⟨by decide +kernel, by decide +kernel⟩, rfl, by decide +kernel, by decide, fun h => by cases h⟩
set_option maxRecDepth 100000 in
theorem mw_152 : MWok md_152 := ⟨tin_6 (List.mem_of_getElem? (i := 14) rfl), tin_1 (List.mem_of_getElem? (i := 11) rfl), ⟨by decide +kernel, by decide +kernel⟩, rfl, by decide +kernel, by decide, fun h => by cases h⟩
set_option maxRecDepth 100000 in
theorem mw_153 : MWok md_153 := ⟨tin_6 (List.mem_of_getElem? (i := 18) rfl), tin_1 (List.mem_of_getElem? (i := 11) rfl), ⟨by decide +kernel, by decide +kernel⟩, rfl, by decide +kernel, by decide, fun h => by cases h⟩
set_option maxRecDepth 100000 in
theorem mw_154 : MWok md_154 := ⟨tin_6 (List.mem_of_getElem? (i := 21) rfl), tin_1 (List.mem_of_getElem? (i := 11) rfl), ⟨by decide +kernel, by decide +kernel⟩, rfl, by decide +kernel, by decide, fun h => by cases h⟩
set_option maxRecDepth 100000 in
theorem mw_155 : MWok md_155 := ⟨tin_6 (List.mem_of_getElem? (i := 25) rfl), tin_1 (List.mem_of_getElem? (i := 11) rfl), ⟨by decide +kernel, by decide +kernel⟩, rfl, by decide +kernel, by decide, fun h => by cases h⟩
set_option maxRecDepth 100000 in
theorem mw_156 : MWok md_156 := ⟨tin_6 (List.mem_of_getElem? (i := 29) rfl), tin_1 (List.mem_of_getElem? (i := 11) rfl), ⟨by decide +kernel, by decide +kernel⟩, rfl, by decide +kernel, by decide, fun h => by cases h⟩
set_option maxRecDepth 100000 in
theorem mw_157 : MWok md_157 := ⟨tin_6 (List.mem_of_getElem? (i := 33) rfl), tin_1 (List.mem_of_getElem? (i := 11) rfl), ⟨by decide +kernel, by decide +kernel⟩, rfl, by decide +kernel, by decide, fun h => by cases h⟩
set_option maxRecDepth 100000 in
theorem mw_158 : MWok md_158 := ⟨tin_6 (List.mem_of_getElem? (i := 37) rfl), tin_1 (List.mem_of_getElem? (i := 11) rfl), ⟨by decide +kernel, by decide +kernel⟩, rfl, by decide +kernel, by decide, fun h => by cases h⟩
set_option maxRecDepth 100000 in
theorem mw_159 : MWok md_159 := ⟨tin_6 (List.mem_of_getElem? (i := 41) rfl), tin_1 (List.mem_of_getElem? (i := 11) rfl), ⟨by decide +kernel, by decide +kernel⟩, rfl, by decide +kernel, by decide, fun h => by cases h⟩
set_option maxRecDepth 100000 in
theorem mw_160 : MWok md_160 := ⟨tin_6 (List.mem_of_getElem? (i := 45) rfl), tin_1 (List.mem_of_getElem? (i := 11) rfl), ⟨by decide +kernel, by decide +kernel⟩, rfl, by decide +kernel, by decide, fun h => by cases h⟩
set_option maxRecDepth 100000 in
theorem mw_161 : MWok md_161 := ⟨tin_6 (List.mem_of_getElem? (i := 49) rfl), tin_1 (List.mem_of_getElem? (i := 11) rfl), ⟨by decide +kernel, by decide +kernel⟩, rfl, by decide +kernel, by decide, fun h => by cases h⟩
set_option maxRecDepth 100000 in
theorem mw_162 : MWok md_162 := ⟨tin_6 (List.mem_of_getElem? (i := 53) rfl), tin_1 (List.mem_of_getElem? (i := 11) rfl), ⟨by decide +kernel, by decide +kernel⟩, rfl, by decide +kernel, by decide, fun h => by cases h⟩
set_option maxRecDepth 100000 in
theorem mw_163 : MWok md_163 := ⟨tin_6 (List.mem_of_getElem? (i := 57) rfl), tin_1 (List.mem_of_getElem? (i := 11) rfl), ⟨by decide +kernel, by decide +kernel⟩, rfl, by decide +kernel, by decide, fun h => by cases h⟩
set_option maxRecDepth 100000 in
theorem mw_164 : MWok md_164 := ⟨tin_6 (List.mem_of_getElem? (i := 61) rfl), tin_1 (List.mem_of_getElem? (i := 11) rfl), ⟨by decide +kernel, by decide +kernel⟩, rfl, by decide +kernel, by decide, fun h => by cases h⟩
set_option maxRecDepth 100000 in
theorem mw_165 : MWok md_165 := ⟨tin_6 (List.mem_of_getElem? (i := 70) rfl), tin_1 (List.mem_of_getElem? (i := 11) rfl), ⟨by decide +kernel, by decide +kernel⟩, rfl, by decide +kernel, by decide, fun h => by cases h⟩
set_option maxRecDepth 100000 in
theorem mw_166 : MWok md_166 := ⟨tin_6 (List.mem_of_getElem? (i := 74) rfl), tin_1 (List.mem_of_getElem? (i := 11) rfl), ⟨by decide +kernel, by decide +kernel⟩, rfl, by decide +kernel, by decide, fun h => by cases h⟩
set_option maxRecDepth 100000 in
theorem mw_167 : MWok md_167 := ⟨tin_6 (List.mem_of_getElem? (i := 79) rfl), tin_1 (List.mem_of_getElem? (i := 11) rfl), ⟨by decide +kernel, by decide +kernel⟩, rfl, by decide +kernel, by decide, fun h => by cases h⟩
set_option maxRecDepth 100000 in
theorem mw_168 : MWok md_168 := ⟨tin_6 (List.mem_of_getElem? (i := 83) rfl), tin_1 (List.mem_of_getElem? (i := 11) rfl), ⟨by decide +kernel, by decide +kernel⟩, rfl, by decide +kernel, by decide, fun h => by cases h⟩
set_option maxRecDepth 100000 in
theorem mw_169 : MWok md_169 := ⟨tin_6 (List.mem_of_getElem? (i := 87) rfl), tin_1 (List.mem_of_getElem? (i := 11) rfl), ⟨by decide +kernel, by decide +kernel⟩, rfl, by decide +kernel, by decide, fun h => by cases h⟩
set_option maxRecDepth 100000 in
theorem mw_170 : MWok md_170 := ⟨tin_6 (List.mem_of_getElem? (i := 91) rfl), tin_1 (List.mem_of_getElem? (i := 11) rfl), ⟨by decide +kernel, by decide +kernel⟩, rfl, by decide +kernel, by decide, fun h => by cases h⟩
set_option maxRecDepth 100000 in
theorem mw_171 : MWok md_171 := ⟨tin_6 (List.mem_of_getElem? (i := 96) rfl), tin_1 (List.mem_of_getElem? (i := 11) rfl), ⟨by decide +kernel, by decide +kernel⟩, rfl, by decide +kernel, by decide, fun h => by cases h⟩
set_option maxRecDepth 100000 in
theorem mw_172 : MWok md_172 := ⟨tin_6 (List.mem_of_getElem? (i := 100) rfl), tin_1 (List.mem_of_getElem? (i := 11) rfl), ⟨by decide +kernel, by decide +kernel⟩, rfl, by decide +kernel, by decide, fun h => by cases h⟩
set_option maxRecDepth 100000 in
theorem mw_173 : MWok md_173 := ⟨tin_6 (List.mem_of_getElem? (i := 108) rfl), tin_1 (List.mem_of_getElem? (i := 11) rfl), ⟨by decide +kernel, by decide +kernel⟩, rfl, by decide +kernel, by decide, fun h => by cases h⟩
set_option maxRecDepth 100000 in
theorem mw_174 : MWok md_174 := ⟨tin_6 (List.mem_of_getElem? (i := 117) rfl), tin_1 (List.mem_of_getElem? (i := 11) rfl), ⟨by decide +kernel, by decide +kernel⟩, rfl, by decide +kernel, by decide, fun h => by cases h⟩
set_option maxRecDepth 100000 in
theorem mw_175 : MWok md_175 := ⟨tin_6 (List.mem_of_getElem? (i := 121) rfl), tin_1 (List.mem_of_getElem? (i := 11) rfl), ⟨by decide +kernel, by decide +kernel⟩, rfl, by decide +kernel, by decide, fun h => by cases h⟩
set_option maxRecDepth 100000 in
theorem mw_176 : MWok md_176 := ⟨tin_6 (List.mem_of_getElem? (i := 126) rfl), tin_1 (List.mem_of_getElem? (i := 11) rfl), ⟨by decide +kernel, by decide +kernel⟩, rfl, by decide +kernel, by decide, fun h => by cases h⟩
set_option maxRecDepth 100000 in
theorem mw_177 : MWok md_177 := ⟨tin_6 (List.mem_of_getElem? (i := 129) rfl), tin_1 (List.mem_of_getElem? (i := 11) rfl), ⟨by decide +kernel, by decide +kernel⟩, rfl, by decide +kernel, by decide, fun h => by cases h⟩
set_option maxRecDepth 100000 in
theorem mw_178 : MWok md_178 := ⟨tin_6 (List.mem_of_getElem? (i := 133) rfl), tin_1 (List.mem_of_getElem? (i := 11) rfl), ⟨by decide +kernel, by decide +kernel⟩, rfl, by decide +kernel, by decide, fun h => by cases h⟩
set_option maxRecDepth 100000 in
theorem mw_179 : MWok md_179 := ⟨tin_6 (List.mem_of_getElem? (i := 137) rfl), tin_1 (List.mem_of_getElem? (i := 11) rfl), ⟨by decide +kernel, by decide +kernel⟩, rfl, by decide +kernel, by decide, fun h => by cases h⟩
set_option maxRecDepth 100000 in
theorem mw_180 : MWok md_180 := ⟨tin_6 (List.mem_of_getElem? (i := 145) rfl), tin_1 (List.mem_of_getElem? (i := 11) rfl), ⟨by decide +kernel, by decide +kernel⟩, rfl, by decide +kernel, by decide, fun h => by cases h⟩
set_option maxRecDepth 100000 in
theorem mw_181 : MWok md_181 := ⟨tin_6 (List.mem_of_getElem? (i := 152) rfl), tin_1 (List.mem_of_getElem? (i := 11) rfl), ⟨by decide +kernel, by decide +kernel⟩, rfl, by decide +kernel, by decide, fun h => by cases h⟩
set_option maxRecDepth 100000 in
theorem mw_182 : MWok md_182 := ⟨tin_6 (List.mem_of_getElem? (i := 158) rfl), tin_1 (List.mem_of_getElem? (i := 11) rfl), ⟨by decide +kernel, by decide +kernel⟩, rfl, by decide +kernel, by decide, fun h => by cases h⟩
set_option maxRecDepth 100000 in
theorem mw_183 : MWok md_183 := ⟨tin_6 (List.mem_of_getElem? (i := 162) rfl), tin_1 (List.mem_of_getElem? (i := 11) rfl), ⟨by decide +kernel, by decide +kernel⟩, rfl, by decide +kernel, by decide, fun h => by cases h⟩
set_option maxRecDepth 100000 in
theorem mw_184 : MWok md_184 := ⟨tin_6 (List.mem_of_getElem? (i := 166) rfl), tin_1 (List.mem_of_getElem? (i := 11) rfl), ⟨by decide +kernel, by decide +kernel⟩, rfl, by decide +kernel, by decide, fun h => by cases h⟩
set_option maxRecDepth 100000 in
theorem mw_185 : MWok md_185 := ⟨tin_6 (List.mem_of_getElem? (i := 169) rfl), tin_1 (List.mem_of_getElem? (i := 11) rfl), ⟨by decide +kernel, by decide +kernel⟩, rfl, by decide +kernel, by decide, fun h => by cases h⟩
set_option maxRecDepth 100000 in
theorem mw_186 : MWok md_186 := ⟨tin_6 (List.mem_of_getElem? (i := 173) rfl), tin_1 (List.mem_of_getElem? (i := 11) rfl), ⟨by decide +kernel, by decide +kernel⟩, rfl, by decide +kernel, by decide, fun h => by cases h⟩
set_option maxRecDepth 100000 in
theorem mw_187 : MWok md_187 := ⟨tin_6 (List.mem_of_getElem? (i := 177) rfl), tin_1 (List.mem_of_getElem? (i := 11) rfl), ⟨by decide +kernel, by decide +kernel⟩, rfl, by decide +kernel, by decide, fun h => by cases h⟩
set_option maxRecDepth 100000 in
theorem mw_188 : MWok md_188 := ⟨tin_6 (List.mem_of_getElem? (i := 181) rfl), tin_1 (List.mem_of_getElem? (i := 11) rfl), ⟨by decide +kernel, by decide +kernel⟩, rfl, by decide +kernel, by decide, fun h => by cases h⟩
set_option maxRecDepth 100000 in
theorem mw_189 : MWok md_189 := ⟨tin_6 (List.mem_of_getElem? (i := 185) rfl), tin_1 (List.mem_of_getElem? (i := 11) rfl), ⟨by decide +kernel, by decide +kernel⟩, rfl, by decide +kernel, by decide, fun h => by cases h⟩
set_option maxRecDepth 100000 in
theorem mw_190 : MWok md_190 := ⟨tin_6 (List.mem_of_getElem? (i := 189) rfl), tin_1 (List.mem_of_getElem? (i := 11) rfl), ⟨by decide +kernel, by decide +kernel⟩, rfl, by decide +kernel, by decide, fun h => by cases h⟩
set_option maxRecDepth 100000 in
theorem mw_191 : MWok md_191 := ⟨tin_6 (List.mem_of_getElem? (i := 193) rfl), tin_1 (List.mem_of_getElem? (i := 11) rfl), ⟨by decide +kernel, by decide +kernel⟩, rfl, by decide +kernel, by decide, fun h => by cases h⟩
set_option maxRecDepth 100000 in
theorem mw_192 : MWok md_192 := ⟨tin_6 (List.mem_of_getElem? (i := 197) rfl), tin_1 (List.mem_of_getElem? (i := 11) rfl), ⟨by decide +kernel, by decide +kernel⟩, rfl, by decide +kernel, by decide, fun h => by cases h⟩
set_option maxRecDepth 100000 in
theorem mw_193 : MWok md_193 := ⟨tin_6 (List.mem_of_getElem? (i := 201) rfl), tin_1 (List.mem_of_getElem? (i := 11) rfl), ⟨by decide +kernel, by decide +kernel⟩, rfl, by decide +kernel, by decide, fun h => by cases h⟩
set_option maxRecDepth 100000 in
theorem mw_194 : MWok md_194 := ⟨tin_6 (List.mem_of_getElem? (i := 205) rfl), tin_1 (List.mem_of_getElem? (i := 11) rfl), ⟨by decide +kernel, by decide +kernel⟩, rfl, by decide +kernel, by decide, fun h => by cases h⟩
set_option maxRecDepth 100000 in
theorem mw_195 : MWok md_195 := ⟨tin_6 (List.mem_of_getElem? (i := 209) rfl), tin_1 (List.mem_of_getElem? (i := 11) rfl), ⟨by decide +kernel, by decide +kernel⟩, rfl, by decide +kernel, by decide, fun h => by cases h⟩
set_option maxRecDepth 100000 in
theorem mw_196 : MWok md_196 := ⟨tin_6 (List.mem_of_getElem? (i := 213) rfl), tin_1 (List.mem_of_getElem? (i := 11) rfl), ⟨by decide +kernel, by decide +kernel⟩, rfl, by decide +kernel, by decide, fun h => by cases h⟩
set_option maxRecDepth 100000 in
theorem mw_197 : MWok md_197 := ⟨tin_6 (List.mem_of_getElem? (i := 217) rfl), tin_1 (List.mem_of_getElem? (i := 11) rfl), ⟨by decide +kernel, by decide +kernel⟩, rfl, by decide +kernel, by decide, fun h => by cases h⟩
set_option maxRecDepth 100000 in
theorem mw_198 : MWok md_198 := ⟨tin_6 (List.mem_of_getElem? (i := 221) rfl), tin_1 (List.mem_of_getElem? (i := 11) rfl), ⟨by decide +kernel, by decide +kernel⟩, rfl, by decide +kernel, by decide, fun h => by cases h⟩
set_option maxRecDepth 100000 in
theorem mw_199 : MWok md_199 := ⟨tin_6 (List.mem_of_getElem? (i := 225) rfl), tin_1 (List.mem_of_getElem? (i := 11) rfl), ⟨by decide +kernel, by decide +kernel⟩, rfl, by decide +kernel, by decide, fun h => by cases h⟩
set_option maxRecDepth 100000 in
theorem mw_200 : MWok md_200 := ⟨tin_6 (List.mem_of_getElem? (i := 230) rfl), tin_1 (List.mem_of_getElem? (i := 11) rfl), ⟨by decide +kernel, by decide +kernel⟩, rfl, by decide +kernel, by decide, fun h => by cases h⟩
set_option maxRecDepth 100000 in
theorem mw_201 : MWok md_201 := ⟨tin_6 (List.mem_of_getElem? (i := 234) rfl), tin_1 (List.mem_of_getElem? (i := 11) rfl), ⟨by decide +kernel, by decide +kernel⟩, rfl, by decide +kernel, by decide, fun h => by cases h⟩
set_option maxRecDepth 100000 in
theorem mw_202 : MWok md_202 := ⟨tin_6 (List.mem_of_getElem? (i := 238) rfl), tin_1 (List.mem_of_getElem? (i := 11) rfl), ⟨by decide +kernel, by decide +kernel⟩, rfl, by decide +kernel, by decide, fun h => by cases h⟩
set_option maxRecDepth 100000 in
theorem mw_203 : MWok md_203 := ⟨tin_7 (List.mem_of_getElem? (i := 2) rfl), tin_1 (List.mem_of_getElem? (i := 11) rfl), ⟨by decide +kernel, by decide +kernel⟩, rfl, by decide +kernel, by decide, fun h => by cases h⟩
set_option maxRecDepth 100000 in
theorem mw_204 : MWok md_204 := ⟨tin_7 (List.mem_of_getElem? (i := 6) rfl), tin_1 (List.mem_of_getElem? (i := 11) rfl), ⟨by decide +kernel, by decide +kernel⟩, rfl, by decide +kernel, by decide, fun h => by cases h⟩
set_option maxRecDepth 100000 in
theorem mw_205 : MWok md_205 := ⟨tin_7 (List.mem_of_getElem? (i := 10) rfl), tin_1 (List.mem_of_getElem? (i := 11) rfl), ⟨by decide +kernel, by decide +kernel⟩, rfl, by decide +kernel, by decide, fun h => by cases h⟩
set_option maxRecDepth 100000 in
theorem mw_206 : MWok md_206 := ⟨tin_7 (List.mem_of_getElem? (i := 14) rfl), tin_1 (List.mem_of_getElem? (i := 11) rfl), ⟨by decide +kernel, by decide +kernel⟩, rfl, by decide +kernel, by decide, fun h => by cases h⟩
set_option maxRecDepth 100000 in
theorem mw_207 : MWok md_207 := ⟨tin_7 (List.mem_of_getElem? (i := 18) rfl), tin_1 (List.mem_of_getElem? (i := 11) rfl), ⟨by decide +kernel, by decide +kernel⟩, rfl, by decide +kernel, by decide, fun h => by cases h⟩
set_option maxRecDepth 100000 in
theorem mw_208 : MWok md_208 := ⟨tin_7 (List.mem_of_getElem? (i := 22) rfl), tin_1 (List.mem_of_getElem? (i := 11) rfl), ⟨by decide +kernel, by decide +kernel⟩, rfl, by decide +kernel, by decide, fun h => by cases h⟩
set_option maxRecDepth 100000 in
theorem mw_209 : MWok md_209 := ⟨tin_7 (List.mem_of_getElem? (i := 26) rfl), tin_1 (List.mem_of_getElem? (i := 11) rfl), ⟨by decide +kernel, by decide +kernel⟩, rfl, by decide +kernel, by decide, fun h => by cases h⟩
set_option maxRecDepth 100000 in
theorem mw_210 : MWok md_210 := ⟨tin_7 (List.mem_of_getElem? (i := 30) rfl), tin_1 (List.mem_of_getElem? (i := 11) rfl), ⟨by decide +kernel, by decide +kernel⟩, rfl, by decide +kernel, by decide, fun h => by cases h⟩
set_option maxRecDepth 100000 in
theorem mw_211 : MWok md_211 := ⟨tin_7 (List.mem_of_getElem? (i := 34) rfl), tin_1 (List.mem_of_getElem? (i := 11) rfl), ⟨by decide +kernel, by decide +kernel⟩, rfl, by decide +kernel, by decide, fun h => by cases h⟩
set_option maxRecDepth 100000 in
theorem mw_212 : MWok md_212 := ⟨tin_7 (List.mem_of_getElem? (i := 38) rfl), tin_1 (List.mem_of_getElem? (i := 11) rfl), ⟨by decide +kernel, by decide +kernel⟩, rfl, by decide +kernel, by decide, fun h => by cases h⟩
set_option maxRecDepth 100000 in
theorem mw_213 : MWok md_213 := ⟨tin_7 (List.mem_of_getElem? (i := 42) rfl), tin_1 (List.mem_of_getElem? (i := 11) rfl), ⟨by decide +kernel, by decide +kernel⟩, rfl, by decide +kernel, by decide, fun h => by cases h⟩
set_option maxRecDepth 100000 in
theorem mw_214 : MWok md_214 := ⟨tin_7 (List.mem_of_getElem? (i := 46) rfl), tin_1 (List.mem_of_getElem? (i := 11) rfl), ⟨by decide +kernel, by decide +kernel⟩, rfl, by decide +kernel, by decide, fun h => by cases h⟩
set_option maxRecDepth 100000 in
theorem mw_215 : MWok md_215 := ⟨tin_7 (List.mem_of_getElem? (i := 50) rfl), tin_1 (List.mem_of_getElem? (i := 11) rfl), ⟨by decide +kernel, by decide +kernel⟩, rfl, by decide +kernel, by decide, fun h => by cases h⟩
set_option maxRecDepth 100000 in
theorem mw_216 : MWok md_216 := ⟨tin_7 (List.mem_of_getElem? (i := 54) rfl), tin_1 (List.mem_of_getElem? (i := 11) rfl), ⟨by decide +kernel, by decide +kernel⟩, rfl, by decide +kernel, by decide, fun h => by cases h⟩
set_option maxRecDepth 100000 in
theorem mw_217 : MWok md_217 := ⟨tin_7 (List.mem_of_getElem? (i := 58) rfl), tin_1 (List.mem_of_getElem? (i := 11) rfl), ⟨by decide +kernel, by decide +kernel⟩, rfl, by decide +kernel, by decide, fun h => by cases h⟩
set_option maxRecDepth 100000 in
theorem mw_218 : MWok md_218 := ⟨tin_7 (List.mem_of_getElem? (i := 62) rfl), tin_1 (List.mem_of_getElem? (i := 11) rfl), ⟨by decide +kernel, by decide +kernel⟩, rfl, by decide +kernel, by decide, fun h => by cases h⟩
set_option maxRecDepth 100000 in
theorem mw_219 : MWok md_219 := ⟨tin_7 (List.mem_of_getElem? (i := 67) rfl), tin_1 (List.mem_of_getElem? (i := 11) rfl), ⟨by decide +kernel, by decide +kernel⟩, rfl, by decide +kernel, by decide, fun h => by cases h⟩
set_option maxRecDepth 100000 in
theorem mw_220 : MWok md_220 := ⟨tin_7 (List.mem_of_getElem? (i := 71) rfl), tin_1 (List.mem_of_getElem? (i := 11) rfl), ⟨by decide +kernel, by decide +kernel⟩, rfl, by decide +kernel, by decide, fun h => by cases h⟩
set_option maxRecDepth 100000 in
theorem mw_221 : MWok md_221 := ⟨tin_7 (List.mem_of_getElem? (i := 75) rfl), tin_1 (List.mem_of_getElem? (i := 11) rfl), ⟨by decide +kernel, by decide +kernel⟩, rfl, by decide +kernel, by decide, fun h => by cases h⟩
set_option maxRecDepth 100000 in
theorem mw_222 : MWok md_222 := ⟨tin_7 (List.mem_of_getElem? (i := 80) rfl), tin_1 (List.mem_of_getElem? (i := 11) rfl), ⟨by decide +kernel, by decide +kernel⟩, rfl, by decide +kernel, by decide, fun h => by cases h⟩
set_option maxRecDepth 100000 in
theorem mw_223 : MWok md_223 := ⟨tin_7 (List.mem_of_getElem? (i := 84) rfl), tin_1 (List.mem_of_getElem? (i := 11) rfl), ⟨by decide +kernel, by decide +kernel⟩, rfl, by decide +kernel, by decide, fun h => by cases h⟩
set_option maxRecDepth 100000 in
theorem mw_224 : MWok md_224 := ⟨tin_7 (List.mem_of_getElem? (i := 88) rfl), tin_1 (List.mem_of_getElem? (i := 11) rfl), ⟨by decide +kernel, by decide +kernel⟩, rfl, by decide +kernel, by decide, fun h => by cases h⟩
set_option maxRecDepth 100000 in
theorem mw_225 : MWok md_225 := ⟨tin_7 (List.mem_of_getElem? (i := 92) rfl), tin_1 (List.mem_of_getElem? (i := 11) rfl), ⟨by decide +kernel, by decide +kernel⟩, rfl, by decide +kernel, by decide, fun h => by cases h⟩
set_option maxRecDepth 100000 in
theorem mw_226 : MWok md_226 := ⟨tin_7 (List.mem_of_getElem? (i := 96) rfl), tin_1 (List.mem_of_getElem? (i := 11) rfl), ⟨by decide +kernel, by decide +kernel⟩, rfl, by decide +kernel, by decide, fun h => by cases h⟩
set_option maxRecDepth 100000 in
theorem mw_227 : MWok md_227 := ⟨tin_7 (List.mem_of_getElem? (i := 100) rfl), tin_1 (List.mem_of_getElem? (i := 11) rfl), ⟨by decide +kernel, by decide +kernel⟩, rfl, by decide +kernel, by decide, fun h => by cases h⟩
set_option maxRecDepth 100000 in
theorem mw_228 : MWok md_228 := ⟨tin_7 (List.mem_of_getElem? (i := 105) rfl), tin_1 (List.mem_of_getElem? (i := 11) rfl), ⟨by decide +kernel, by decide +kernel⟩, rfl, by decide +kernel, by decide, fun h => by cases h⟩
set_option maxRecDepth 100000 in
theorem mw_229 : MWok md_229 := ⟨tin_7 (List.mem_of_getElem? (i := 109) rfl), tin_1 (List.mem_of_getElem? (i := 11) rfl), ⟨by decide +kernel, by decide +kernel⟩, rfl, by decide +kernel, by decide, fun h => by cases h⟩
set_option maxRecDepth 100000 in
theorem mw_230 : MWok md_230 := ⟨tin_7 (List.mem_of_getElem? (i := 113) rfl), tin_1 (List.mem_of_getElem? (i := 11) rfl), ⟨by decide +kernel, by decide +kernel⟩, rfl, by decide +kernel, by decide, fun h => by cases h⟩
set_option maxRecDepth 100000 in
theorem mw_231 : MWok md_231 := ⟨tin_7 (List.mem_of_getElem? (i := 117) rfl), tin_1 (List.mem_of_getElem? (i := 11) rfl), ⟨by decide +kernel, by decide +kernel⟩, rfl, by decide +kernel, by decide, fun h => by cases h⟩
set_option maxRecDepth 100000 in
theorem mw_232 : MWok md_232 := ⟨tin_7 (List.mem_of_getElem? (i := 120) rfl), tin_1 (List.mem_of_getElem? (i := 11) rfl), ⟨by decide +kernel, by decide +kernel⟩, rfl, by decide +kernel, by decide, fun h => by cases h⟩
set_option maxRecDepth 100000 in
theorem mw_233 : MWok md_233 := ⟨tin_7 (List.mem_of_getElem? (i := 125) rfl), tin_1 (List.mem_of_getElem? (i := 11) rfl), ⟨by decide +kernel, by decide +kernel⟩, rfl, by decide +kernel, by decide, fun h => by cases h⟩
set_option maxRecDepth 100000 in
theorem mw_234 : MWok md_234 := ⟨tin_7 (List.mem_of_getElem? (i := 129) rfl), tin_1 (List.mem_of_getElem? (i := 11) rfl), ⟨by decide +kernel, by decide +kernel⟩, rfl, by decide +kernel, by decide, fun h => by cases h⟩
set_option maxRecDepth 100000 in
theorem mw_235 : MWok md_235 := ⟨tin_7 (List.mem_of_getElem? (i := 133) rfl), tin_1 (List.mem_of_getElem? (i := 11) rfl), ⟨by decide +kernel, by decide +kernel⟩, rfl, by decide +kernel, by decide, fun h => by cases h⟩
set_option maxRecDepth 100000 in
theorem mw_236 : MWok md_236 := ⟨tin_7 (List.mem_of_getElem? (i := 137) rfl), tin_1 (List.mem_of_getElem? (i := 11) rfl), ⟨by decide +kernel, by decide +kernel⟩, rfl, by decide +kernel, by decide, fun h => by cases h⟩
set_option maxRecDepth 100000 in
theorem mw_237 : MWok md_237 := ⟨tin_7 (List.mem_of_getElem? (i := 141) rfl), tin_1 (List.mem_of_getElem? (i := 11) rfl), ⟨by decide +kernel, by decide +kernel⟩, rfl, by decide +kernel, by decide, fun h => by cases h⟩
set_option maxRecDepth 100000 in
theorem mw_238 : MWok md_238 := ⟨tin_7 (List.mem_of_getElem? (i := 144) rfl), tin_1 (List.mem_of_getElem? (i := 11) rfl), ⟨by decide +kernel, by decide +kernel⟩, rfl, by decide +kernel, by decide, fun h => by cases h⟩
set_option maxRecDepth 100000 in
theorem mw_239 : MWok md_239 := ⟨tin_7 (List.mem_of_getElem? (i := 149) rfl), tin_1 (List.mem_of_getElem? (i := 11) rfl), ⟨by decide +kernel, by decide +kernel⟩, rfl, by decide +kernel, by decide, fun h => by cases h⟩
set_option maxRecDepth 100000 in
theorem mw_240 : MWok md_240 := ⟨tin_7 (List.mem_of_getElem? (i := 153) rfl), tin_1 (List.mem_of_getElem? (i := 11) rfl), ⟨by decide +kernel, by decide +kernel⟩, rfl, by decide +kernel, by decide, fun h => by cases h⟩
set_option maxRecDepth 100000 in
theorem mw_241 : MWok md_241 := ⟨tin_7 (List.mem_of_getElem? (i := 158) rfl), tin_1 (List.mem_of_getElem? (i := 11) rfl), ⟨by decide +kernel, by decide +kernel⟩, rfl, by decide +kernel, by decide, fun h => by cases h⟩
set_option maxRecDepth 100000 in
theorem mw_242 : MWok md_242 := ⟨tin_7 (List.mem_of_getElem? (i := 162) rfl), tin_1 (List.mem_of_getElem? (i := 11) rfl), ⟨by decide +kernel, by decide +kernel⟩, rfl, by decide +kernel, by decide, fun h => by cases h⟩
set_option maxRecDepth 100000 in
theorem mw_243 : MWok md_243 := ⟨tin_7 (List.mem_of_getElem? (i := 166) rfl), tin_1 (List.mem_of_getElem? (i := 11) rfl), ⟨by decide +kernel, by decide +kernel⟩, rfl, by decide +kernel, by decide, fun h => by cases h⟩
set_option maxRecDepth 100000 in
theorem mw_244 : MWok md_244 := ⟨tin_7 (List.mem_of_getElem? (i := 170) rfl), tin_1 (List.mem_of_getElem? (i := 11) rfl), ⟨by decide +kernel, by decide +kernel⟩, rfl, by decide +kernel, by decide, fun h => by cases h⟩
set_option maxRecDepth 100000 in
theorem mw_245 : MWok md_245 := ⟨tin_7 (List.mem_of_getElem? (i := 174) rfl), tin_1 (List.mem_of_getElem? (i := 11) rfl), ⟨by decide +kernel, by decide +kernel⟩, rfl, by decide +kernel, by decide, fun h => by cases h⟩
set_option maxRecDepth 100000 in
theorem mw_246 : MWok md_246 := ⟨tin_7 (List.mem_of_getElem? (i := 177) rfl), tin_1 (List.mem_of_getElem? (i := 11) rfl), ⟨by decide +kernel, by decide +kernel⟩, rfl, by decide +kernel, by decide, fun h => by cases h⟩
set_option maxRecDepth 100000 in
theorem mw_247 : MWok md_247 := ⟨tin_7 (List.mem_of_getElem? (i := 181) rfl), tin_1 (List.mem_of_getElem? (i := 11) rfl), ⟨by decide +kernel, by decide +kernel⟩, rfl, by decide +kernel, by decide, fun h => by cases h⟩
set_option maxRecDepth 100000 in
theorem mw_248 : MWok md_248 := ⟨tin_7 (List.mem_of_getElem? (i := 185) rfl), tin_1 (List.mem_of_getElem? (i := 11) rfl), ⟨by decide +kernel, by decide +kernel⟩, rfl, by decide +kernel, by decide, fun h => by cases h⟩
set_option maxRecDepth 100000 in
theorem mw_249 : MWok md_249 := ⟨tin_7 (List.mem_of_getElem? (i := 189) rfl), tin_1 (List.mem_of_getElem? (i := 11) rfl), ⟨by decide +kernel, by decide +kernel⟩, rfl, by decide +kernel, by decide, fun h => by cases h⟩
set_option maxRecDepth 100000 in
theorem mw_250 : MWok md_250 := ⟨tin_7 (List.mem_of_getElem? (i := 194) rfl), tin_1 (List.mem_of_getElem? (i := 11) rfl), ⟨by decide +kernel, by decide +kernel⟩, rfl, by decide +kernel, by decide, fun h => by cases h⟩
set_option maxRecDepth 100000 in
theorem mw_251 : MWok md_251 := ⟨tin_7 (List.mem_of_getElem? (i := 198) rfl), tin_1 (List.mem_of_getElem? (i := 11) rfl), ⟨by decide +kernel, by decide +kernel⟩, rfl, by decide +kernel, by decide, fun h => by cases h⟩
set_option maxRecDepth 100000 in
theorem mw_252 : MWok md_252 := ⟨tin_7 (List.mem_of_getElem? (i := 202) rfl), tin_1 (List.mem_of_getElem? (i := 11) rfl), ⟨by decide +kernel, by decide +kernel⟩, rfl, by decide +kernel, by decide, fun h => by cases h⟩
set_option maxRecDepth 100000 in
theorem mw_253 : MWok md_253 := ⟨tin_7 (List.mem_of_getElem? (i := 206) rfl), tin_1 (List.mem_of_getElem? (i := 11) rfl), ⟨by decide +kernel, by decide +kernel⟩, rfl, by decide +kernel, by decide, fun h => by cases h⟩
set_option maxRecDepth 100000 in
theorem mw_254 : MWok md_254 := ⟨tin_7 (List.mem_of_getElem? (i := 210) rfl), tin_1 (List.mem_of_getElem? (i := 11) rfl), ⟨by decide +kernel, by decide +kernel⟩, rfl, by decide +kernel, by decide, fun h => by cases h⟩
set_option maxRecDepth 100000 in
theorem mw_255 : MWok md_255 := ⟨tin_7 (List.mem_of_getElem? (i := 215) rfl), tin_1 (List.mem_of_getElem? (i := 11) rfl), ⟨by decide +kernel, by decide +kernel⟩, rfl, by decide +kernel, by decide, fun h => by cases h⟩
set_option maxRecDepth 100000 in
theorem mw_256 : MWok md_256 := ⟨tin_7 (List.mem_of_getElem? (i := 219) rfl), tin_1 (List.mem_of_getElem? (i := 11) rfl), ⟨by decide +kernel, by decide +kernel⟩, rfl, by decide +kernel, by decide, fun h => by cases h⟩
set_option maxRecDepth 100000 in
theorem mw_257 : MWok md_257 := ⟨tin_7 (List.mem_of_getElem? (i := 222) rfl), tin_1 (List.mem_of_getElem? (i := 11) rfl), ⟨by decide +kernel, by decide +kernel⟩, rfl, by decide +kernel, by decide, fun h => by cases h⟩
set_option maxRecDepth 100000 in
theorem mw_258 : MWok md_258 := ⟨tin_7 (List.mem_of_getElem? (i := 226) rfl), tin_1 (List.mem_of_getElem? (i := 11) rfl), ⟨by decide +kernel, by decide +kernel⟩, rfl, by decide +kernel, by decide, fun h => by cases h⟩
set_option maxRecDepth 100000 in
theorem mw_259 : MWok md_259 := ⟨tin_7 (List.mem_of_getElem? (i := 234) rfl), tin_1 (List.mem_of_getElem? (i := 11) rfl), ⟨by decide +kernel, by decide +kernel⟩, rfl, by decide +kernel, by decide, fun h => by cases h⟩
set_option maxRecDepth 100000 in
theorem mw_260 : MWok md_260 := ⟨tin_7 (List.mem_of_getElem? (i := 239) rfl), tin_1 (List.mem_of_getElem? (i := 11) rfl), ⟨by decide +kernel, by decide +kernel⟩, rfl, by decide +kernel, by decide, fun h => by cases h⟩
set_option maxRecDepth 100000 in
theorem mw_261 : MWok md_261 := ⟨tin_8 (List.mem_of_getElem? (i := 3) rfl), tin_1 (List.mem_of_getElem? (i := 11) rfl), ⟨by decide +kernel, by decide +kernel⟩, rfl, by decide +kernel, by decide, fun h => by cases h⟩
set_option maxRecDepth 100000 in
theorem mw_262 : MWok md_262 := ⟨tin_8 (List.mem_of_getElem? (i := 8) rfl), tin_1 (List.mem_of_getElem? (i := 11) rfl), ⟨by decide +kernel, by decide +kernel⟩, rfl, by decide +kernel, by decide, fun h => by cases h⟩
