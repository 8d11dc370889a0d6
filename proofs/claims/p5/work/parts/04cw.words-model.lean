set_option maxRecDepth 100000 in
theorem mw_149 : MWok md_149 := ⟨List.mem_of_getElem? (i := 1153) rfl, List.mem_of_getElem? (i := 97) rfl, ⟨by decide +kernel, by decide +kernel⟩, rfl, by decide +kernel, by decide, fun _ => ⟨rfl, rfl⟩⟩
set_option maxRecDepth 100000 in
theorem mw_150 : MWok md_150 := ⟨List.mem_of_getElem? (i := 1293) rfl, List.mem_of_getElem? (i := 97) rfl, ⟨by decide +kernel, by decide +kernel⟩, rfl, by decide +kernel, by decide, fun h => by cases h⟩
set_option maxRecDepth 100000 in
theorem mw_151 : MWok md_151 := ⟨List.mem_of_getElem? (i := 1296) rfl, List.mem_of_getElem? (i := 97) rfl, ⟨by decide +kernel, by decide +kernel⟩, rfl, by decide +kernel, by decide, fun h => by cases h⟩
set_option maxRecDepth 100000 in
theorem mw_152 : MWok md_152 := ⟨List.mem_of_getElem? (i := 1300) rfl, List.mem_of_getElem? (i := 97) rfl, ⟨by decide +kernel, by decide +kernel⟩, rfl, by decide +kernel, by decide, fun h => by cases h⟩
set_option maxRecDepth 100000 in
theorem mw_153 : MWok md_153 := ⟨List.mem_of_getElem? (i := 1304) rfl, List.mem_of_getElem? (i := 97) rfl, ⟨by decide +kernel, by decide +kernel⟩, rfl, by decide +kernel, by decide, fun h => by cases h⟩
set_option maxRecDepth 100000 in
theorem mw_154 : MWok md_154 := ⟨List.mem_of_getElem? (i := 1307) rfl, List.mem_of_getElem? (i := 97) rfl, ⟨by decide +kernel, by decide +kernel⟩, rfl, by decide +kernel, by decide, fun h => by cases h⟩
set_option maxRecDepth 100000 in
theorem mw_155 : MWok md_155 := ⟨List.mem_of_getElem? (i := 1311) rfl, List.mem_of_getElem? (i := 97) rfl, ⟨by decide +kernel, by decide +kernel⟩, rfl, by decide +kernel, by decide, fun h => by cases h⟩
set_option maxRecDepth 100000 in
theorem mw_156 : MWok md_156 := ⟨List.mem_of_getElem? (i := 1315) rfl, List.mem_of_getElem? (i := 97) rfl, ⟨by decide +kernel, by decide +kernel⟩, rfl, by decide +kernel, by decide, fun h => by cases h⟩
set_option maxRecDepth 100000 in
theorem mw_157 : MWok md_157 := ⟨List.mem_of_getElem? (i := 1319) rfl, List.mem_of_getElem? (i := 97) rfl, ⟨by decide +kernel, by decide +kernel⟩, rfl, by decide +kernel, by decide, fun h => by cases h⟩
set_option maxRecDepth 100000 in
theorem mw_158 : MWok md_158 := ⟨List.mem_of_getElem? (i := 1323) rfl, List.mem_of_getElem? (i := 97) rfl, ⟨by decide +kernel, by decide +kernel⟩, rfl, by decide +kernel, by decide, fun h => by cases h⟩
set_option maxRecDepth 100000 in
theorem mw_159 : MWok md_159 := ⟨List.mem_of_getElem? (i := 1327) rfl, List.mem_of_getElem? (i := 97) rfl, ⟨by decide +kernel, by decide +kernel⟩, rfl, by decide +kernel, by decide, fun h => by cases h⟩
set_option maxRecDepth 100000 in
theorem mw_160 : MWok md_160 := ⟨List.mem_of_getElem? (i := 1331) rfl, List.mem_of_getElem? (i := 97) rfl, ⟨by decide +kernel, by decide +kernel⟩, rfl, by decide +kernel, by decide, fun h => by cases h⟩
set_option maxRecDepth 100000 in
theorem mw_161 : MWok md_161 := ⟨List.mem_of_getElem? (i := 1335) rfl, List.mem_of_getElem? (i := 97) rfl, ⟨by decide +kernel, by decide +kernel⟩, rfl, by decide +kernel, by decide, fun h => by cases h⟩
set_option maxRecDepth 100000 in
theorem mw_162 : MWok md_162 := ⟨List.mem_of_getElem? (i := 1339) rfl, List.mem_of_getElem? (i := 97) rfl, ⟨by decide +kernel, by decide +kernel⟩, rfl, by decide +kernel, by decide, fun h => by cases h⟩
set_option maxRecDepth 100000 in
theorem mw_163 : MWok md_163 := ⟨List.mem_of_getElem? (i := 1343) rfl, List.mem_of_getElem? (i := 97) rfl, ⟨by decide +kernel, by decide +kernel⟩, rfl, by decide +kernel, by decide, fun h => by cases h⟩
set_option maxRecDepth 100000 in
theorem mw_164 : MWok md_164 := ⟨List.mem_of_getElem? (i := 1347) rfl, List.mem_of_getElem? (i := 97) rfl, ⟨by decide +kernel, by decide +kernel⟩, rfl, by decide +kernel, by decide, fun h => by cases h⟩
set_option maxRecDepth 100000 in
theorem mw_165 : MWok md_165 := ⟨List.mem_of_getElem? (i := 1356) rfl, List.mem_of_getElem? (i := 97) rfl, ⟨by decide +kernel, by decide +kernel⟩, rfl, by decide +kernel, by decide, fun h => by cases h⟩
set_option maxRecDepth 100000 in
theorem mw_166 : MWok md_166 := ⟨List.mem_of_getElem? (i := 1360) rfl, List.mem_of_getElem? (i := 97) rfl, ⟨by decide +kernel, by decide +kernel⟩, rfl, by decide +kernel, by decide, fun h => by cases h⟩
set_option maxRecDepth 100000 in
theorem mw_167 : MWok md_167 := ⟨List.mem_of_getElem? (i := 1365) rfl, List.mem_of_getElem? (i := 97) rfl, ⟨by decide +kernel, by decide +kernel⟩, rfl, by decide +kernel, by decide, fun h => by cases h⟩
set_option maxRecDepth 100000 in
theorem mw_168 : MWok md_168 := ⟨List.mem_of_getElem? (i := 1369) rfl, List.mem_of_getElem? (i := 97) rfl, ⟨by decide +kernel, by decide +kernel⟩, rfl, by decide +kernel, by decide, fun h => by cases h⟩
set_option maxRecDepth 100000 in
theorem mw_169 : MWok md_169 := ⟨List.mem_of_getElem? (i := 1373) rfl, List.mem_of_getElem? (i := 97) rfl, ⟨by decide +kernel, by decide +kernel⟩, rfl, by decide +kernel, by decide, fun h => by cases h⟩
set_option maxRecDepth 100000 in
theorem mw_170 : MWok md_170 := ⟨List.mem_of_getElem? (i := 1377) rfl, List.mem_of_getElem? (i := 97) rfl, ⟨by decide +kernel, by decide +kernel⟩, rfl, by decide +kernel, by decide, fun h => by cases h⟩
set_option maxRecDepth 100000 in
theorem mw_171 : MWok md_171 := ⟨List.mem_of_getElem? (i := 1382) rfl, List.mem_of_getElem? (i := 97) rfl, ⟨by decide +kernel, by decide +kernel⟩, rfl, by decide +kernel, by decide, fun h => by cases h⟩
set_option maxRecDepth 100000 in
theorem mw_172 : MWok md_172 := ⟨List.mem_of_getElem? (i := 1386) rfl, List.mem_of_getElem? (i := 97) rfl, ⟨by decide +kernel, by decide +kernel⟩, rfl, by decide +kernel, by decide, fun h => by cases h⟩
set_option maxRecDepth 100000 in
theorem mw_173 : MWok md_173 := ⟨List.mem_of_getElem? (i := 1394) rfl, List.mem_of_getElem? (i := 97) rfl, ⟨by decide +kernel, by decide +kernel⟩, rfl, by decide +kernel, by decide, fun h => by cases h⟩
set_option maxRecDepth 100000 in
theorem mw_174 : MWok md_174 := ⟨List.mem_of_getElem? (i := 1403) rfl, List.mem_of_getElem? (i := 97) rfl, ⟨by decide +kernel, by decide +kernel⟩, rfl, by decide +kernel, by decide, fun h => by cases h⟩
set_option maxRecDepth 100000 in
theorem mw_175 : MWok md_175 := ⟨List.mem_of_getElem? (i := 1407) rfl, List.mem_of_getElem? (i := 97) rfl, ⟨by decide +kernel, by decide +kernel⟩, rfl, by decide +kernel, by decide, fun h => by cases h⟩
set_option maxRecDepth 100000 in
theorem mw_176 : MWok md_176 := ⟨List.mem_of_getElem? (i := 1412) rfl, List.mem_of_getElem? (i := 97) rfl, ⟨by decide +kernel, by decide +kernel⟩, rfl, by decide +kernel, by decide, fun h => by cases h⟩
set_option maxRecDepth 100000 in
theorem mw_177 : MWok md_177 := ⟨List.mem_of_getElem? (i := 1415) rfl, List.mem_of_getElem? (i := 97) rfl, ⟨by decide +kernel, by decide +kernel⟩, rfl, by decide +kernel, by decide, fun h => by cases h⟩
set_option maxRecDepth 100000 in
theorem mw_178 : MWok md_178 := ⟨List.mem_of_getElem? (i := 1419) rfl, List.mem_of_getElem? (i := 97) rfl, ⟨by decide +kernel, by decide +kernel⟩, rfl, by decide +kernel, by decide, fun h => by cases h⟩
set_option maxRecDepth 100000 in
theorem mw_179 : MWok md_179 := ⟨List.mem_of_getElem? (i := 1423) rfl, List.mem_of_getElem? (i := 97) rfl, ⟨by decide +kernel, by decide +kernel⟩, rfl, by decide +kernel, by decide, fun h => by cases h⟩
set_option maxRecDepth 100000 in
theorem mw_180 : MWok md_180 := ⟨List.mem_of_getElem? (i := 1431) rfl, List.mem_of_getElem? (i := 97) rfl, ⟨by decide +kernel, by decide +kernel⟩, rfl, by decide +kernel, by decide, fun h => by cases h⟩
set_option maxRecDepth 100000 in
theorem mw_181 : MWok md_181 := ⟨List.mem_of_getElem? (i := 1438) rfl, List.mem_of_getElem? (i := 97) rfl, ⟨by decide +kernel, by decide +kernel⟩, rfl, by decide +kernel, by decide, fun h => by cases h⟩
set_option maxRecDepth 100000 in
theorem mw_182 : MWok md_182 := ⟨List.mem_of_getElem? (i := 1444) rfl, List.mem_of_getElem? (i := 97) rfl, ⟨by decide +kernel, by decide +kernel⟩, rfl, by decide +kernel, by decide, fun h => by cases h⟩
set_option maxRecDepth 100000 in
theorem mw_183 : MWok md_183 := ⟨List.mem_of_getElem? (i := 1448) rfl, List.mem_of_getElem? (i := 97) rfl, ⟨by decide +kernel, by decide +kernel⟩, rfl, by decide +kernel, by decide, fun h => by cases h⟩
set_option maxRecDepth 100000 in
theorem mw_184 : MWok md_184 := ⟨List.mem_of_getElem? (i := 1452) rfl, List.mem_of_getElem? (i := 97) rfl, ⟨by decide +kernel, by decide +kernel⟩, rfl, by decide +kernel, by decide, fun h => by cases h⟩
set_option maxRecDepth 100000 in
theorem mw_185 : MWok md_185 := ⟨List.mem_of_getElem? (i := 1455) rfl, List.mem_of_getElem? (i := 97) rfl, ⟨by decide +kernel, by decide +kernel⟩, rfl, by decide +kernel, by decide, fun h => by cases h⟩
set_option maxRecDepth 100000 in
theorem mw_186 : MWok md_186 := ⟨List.mem_of_getElem? (i := 1459) rfl, List.mem_of_getElem? (i := 97) rfl, ⟨by decide +kernel, by decide +kernel⟩, rfl, by decide +kernel, by decide, fun h => by cases h⟩
set_option maxRecDepth 100000 in
theorem mw_187 : MWok md_187 := ⟨List.mem_of_getElem? (i := 1463) rfl, List.mem_of_getElem? (i := 97) rfl, ⟨by decide +kernel, by decide +kernel⟩, rfl, by decide +kernel, by decide, fun h => by cases h⟩
set_option maxRecDepth 100000 in
theorem mw_188 : MWok md_188 := ⟨List.mem_of_getElem? (i := 1467) rfl, List.mem_of_getElem? (i := 97) rfl, ⟨by decide +kernel, by decide +kernel⟩, rfl, by decide +kernel, by decide, fun h => by cases h⟩
set_option maxRecDepth 100000 in
theorem mw_189 : MWok md_189 := ⟨List.mem_of_getElem? (i := 1471) rfl, List.mem_of_getElem? (i := 97) rfl, ⟨by decide +kernel, by decide +kernel⟩, rfl, by decide +kernel, by decide, fun h => by cases h⟩
set_option maxRecDepth 100000 in
theorem mw_190 : MWok md_190 := ⟨List.mem_of_getElem? (i := 1475) rfl, List.mem_of_getElem? (i := 97) rfl, ⟨by decide +kernel, by decide +kernel⟩, rfl, by decide +kernel, by decide, fun h => by cases h⟩
set_option maxRecDepth 100000 in
theorem mw_191 : MWok md_191 := ⟨List.mem_of_getElem? (i := 1479) rfl, List.mem_of_getElem? (i := 97) rfl, ⟨by decide +kernel, by decide +kernel⟩, rfl, by decide +kernel, by decide, fun h => by cases h⟩
set_option maxRecDepth 100000 in
theorem mw_192 : MWok md_192 := ⟨List.mem_of_getElem? (i := 1483) rfl, List.mem_of_getElem? (i := 97) rfl, ⟨by decide +kernel, by decide +kernel⟩, rfl, by decide +kernel, by decide, fun h => by cases h⟩
set_option maxRecDepth 100000 in
theorem mw_193 : MWok md_193 := ⟨List.mem_of_getElem? (i := 1487) rfl, List.mem_of_getElem? (i := 97) rfl, ⟨by decide +kernel, by decide +kernel⟩, rfl, by decide +kernel, by decide, fun h => by cases h⟩
set_option maxRecDepth 100000 in
theorem mw_194 : MWok md_194 := ⟨List.mem_of_getElem? (i := 1491) rfl, List.mem_of_getElem? (i := 97) rfl, ⟨by decide +kernel, by decide +kernel⟩, rfl, by decide +kernel, by decide, fun h => by cases h⟩
set_option maxRecDepth 100000 in
theorem mw_195 : MWok md_195 := ⟨List.mem_of_getElem? (i := 1495) rfl, List.mem_of_getElem? (i := 97) rfl, ⟨by decide +kernel, by decide +kernel⟩, rfl, by decide +kernel, by decide, fun h => by cases h⟩
set_option maxRecDepth 100000 in
theorem mw_196 : MWok md_196 := ⟨List.mem_of_getElem? (i := 1499) rfl, List.mem_of_getElem? (i := 97) rfl, ⟨by decide +kernel, by decide +kernel⟩, rfl, by decide +kernel, by decide, fun h => by cases h⟩
set_option maxRecDepth 100000 in
theorem mw_197 : MWok md_197 := ⟨List.mem_of_getElem? (i := 1503) rfl, List.mem_of_getElem? (i := 97) rfl, ⟨by decide +kernel, by decide +kernel⟩, rfl, by decide +kernel, by decide, fun h => by cases h⟩
set_option maxRecDepth 100000 in
theorem mw_198 : MWok md_198 := ⟨List.mem_of_getElem? (i := 1507) rfl, List.mem_of_getElem? (i := 97) rfl, ⟨by decide +kernel, by decide +kernel⟩, rfl, by decide +kernel, by decide, fun h => by cases h⟩
set_option maxRecDepth 100000 in
theorem mw_199 : MWok md_199 := ⟨List.mem_of_getElem? (i := 1511) rfl, List.mem_of_getElem? (i := 97) rfl, ⟨by decide +kernel, by decide +kernel⟩, rfl, by decide +kernel, by decide, fun h => by cases h⟩
set_option maxRecDepth 100000 in
theorem mw_200 : MWok md_200 := ⟨List.mem_of_getElem? (i := 1516) rfl, List.mem_of_getElem? (i := 97) rfl, ⟨by decide +kernel, by decide +kernel⟩, rfl, by decide +kernel, by decide, fun h => by cases h⟩
set_option maxRecDepth 100000 in
theorem mw_201 : MWok md_201 := ⟨List.mem_of_getElem? (i := 1520) rfl, List.mem_of_getElem? (i := 97) rfl, ⟨by decide +kernel, by decide +kernel⟩, rfl, by decide +kernel, by decide, fun h => by cases h⟩
set_option maxRecDepth 100000 in
theorem mw_202 : MWok md_202 := ⟨List.mem_of_getElem? (i := 1524) rfl, List.mem_of_getElem? (i := 97) rfl, ⟨by decide +kernel, by decide +kernel⟩, rfl, by decide +kernel, by decide, fun h => by cases h⟩
set_option maxRecDepth 100000 in
theorem mw_203 : MWok md_203 := ⟨List.mem_of_getElem? (i := 1528) rfl, List.mem_of_getElem? (i := 97) rfl, ⟨by decide +kernel, by decide +kernel⟩, rfl, by decide +kernel, by decide, fun h => by cases h⟩
set_option maxRecDepth 100000 in
theorem mw_204 : MWok md_204 := ⟨List.mem_of_getElem? (i := 1532) rfl, List.mem_of_getElem? (i := 97) rfl, ⟨by decide +kernel, by decide +kernel⟩, rfl, by decide +kernel, by decide, fun h => by cases h⟩
set_option maxRecDepth 100000 in
theorem mw_205 : MWok md_205 := ⟨List.mem_of_getElem? (i := 1536) rfl, List.mem_of_getElem? (i := 97) rfl, ⟨by decide +kernel, by decide +kernel⟩, rfl, by decide +kernel, by decide, fun h => by cases h⟩
set_option maxRecDepth 100000 in
theorem mw_206 : MWok md_206 := ⟨List.mem_of_getElem? (i := 1540) rfl, List.mem_of_getElem? (i := 97) rfl, ⟨by decide +kernel, by decide +kernel⟩, rfl, by decide +kernel, by decide, fun h => by cases h⟩
set_option maxRecDepth 100000 in
theorem mw_207 : MWok md_207 := ⟨List.mem_of_getElem? (i := 1544) rfl, List.mem_of_getElem? (i := 97) rfl, ⟨by decide +kernel, by decide +kernel⟩, rfl, by decide +kernel, by decide, fun h => by cases h⟩
set_option maxRecDepth 100000 in
theorem mw_208 : MWok md_208 := ⟨List.mem_of_getElem? (i := 1548) rfl, List.mem_of_getElem? (i := 97) rfl, ⟨by decide +kernel, by decide +kernel⟩, rfl, by decide +kernel, by decide, fun h => by cases h⟩
set_option maxRecDepth 100000 in
theorem mw_209 : MWok md_209 := ⟨List.mem_of_getElem? (i := 1552) rfl, List.mem_of_getElem? (i := 97) rfl, ⟨by decide +kernel, by decide +kernel⟩, rfl, by decide +kernel, by decide, fun h => by cases h⟩
set_option maxRecDepth 100000 in
theorem mw_210 : MWok md_210 := ⟨List.mem_of_getElem? (i := 1556) rfl, List.mem_of_getElem? (i := 97) rfl, ⟨by decide +kernel, by decide +kernel⟩, rfl, by decide +kernel, by decide, fun h => by cases h⟩
set_option maxRecDepth 100000 in
theorem mw_211 : MWok md_211 := ⟨List.mem_of_getElem? (i := 1560) rfl, List.mem_of_getElem? (i := 97) rfl, ⟨by decide +kernel, by decide +kernel⟩, rfl, by decide +kernel, by decide, fun h => by cases h⟩
set_option maxRecDepth 100000 in
theorem mw_212 : MWok md_212 := ⟨List.mem_of_getElem? (i := 1564) rfl, List.mem_of_getElem? (i := 97) rfl, ⟨by decide +kernel, by decide +kernel⟩, rfl, by decide +kernel, by decide, fun h => by cases h⟩
set_option maxRecDepth 100000 in
theorem mw_213 : MWok md_213 := ⟨List.mem_of_getElem? (i := 1568) rfl, List.mem_of_getElem? (i := 97) rfl, ⟨by decide +kernel, by decide +kernel⟩, rfl, by decide +kernel, by decide, fun h => by cases h⟩
set_option maxRecDepth 100000 in
theorem mw_214 : MWok md_214 := ⟨List.mem_of_getElem? (i := 1572) rfl, List.mem_of_getElem? (i := 97) rfl, ⟨by decide +kernel, by decide +kernel⟩, rfl, by decide +kernel, by decide, fun h => by cases h⟩
set_option maxRecDepth 100000 in
theorem mw_215 : MWok md_215 := ⟨List.mem_of_getElem? (i := 1576) rfl, List.mem_of_getElem? (i := 97) rfl, ⟨by decide +kernel, by decide +kernel⟩, rfl, by decide +kernel, by decide, fun h => by cases h⟩
set_option maxRecDepth 100000 in
theorem mw_216 : MWok md_216 := ⟨List.mem_of_getElem? (i := 1580) rfl, List.mem_of_getElem? (i := 97) rfl, ⟨by decide +kernel, by decide +kernel⟩, rfl, by decide +kernel, by decide, fun h => by cases h⟩
set_option maxRecDepth 100000 in
theorem mw_217 : MWok md_217 := ⟨List.mem_of_getElem? (i := 1584) rfl, List.mem_of_getElem? (i := 97) rfl, ⟨by decide +kernel, by decide +kernel⟩, rfl, by decide +kernel, by decide, fun h => by cases h⟩
set_option maxRecDepth 100000 in
theorem mw_218 : MWok md_218 := ⟨List.mem_of_getElem? (i := 1588) rfl, List.mem_of_getElem? (i := 97) rfl, ⟨by decide +kernel, by decide +kernel⟩, rfl, by decide +kernel, by decide, fun h => by cases h⟩
set_option maxRecDepth 100000 in
theorem mw_219 : MWok md_219 := ⟨List.mem_of_getElem? (i := 1593) rfl, List.mem_of_getElem? (i := 97) rfl, ⟨by decide +kernel, by decide +kernel⟩, rfl, by decide +kernel, by decide, fun h => by cases h⟩
set_option maxRecDepth 100000 in
theorem mw_220 : MWok md_220 := ⟨List.mem_of_getElem? (i := 1597) rfl, List.mem_of_getElem? (i := 97) rfl, ⟨by decide +kernel, by decide +kernel⟩, rfl, by decide +kernel, by decide, fun h => by cases h⟩
set_option maxRecDepth 100000 in
theorem mw_221 : MWok md_221 := ⟨List.mem_of_getElem? (i := 1601) rfl, List.mem_of_getElem? (i := 97) rfl, ⟨by decide +kernel, by decide +kernel⟩, rfl, by decide +kernel, by decide, fun h => by cases h⟩
set_option maxRecDepth 100000 in
theorem mw_222 : MWok md_222 := ⟨List.mem_of_getElem? (i := 1606) rfl, List.mem_of_getElem? (i := 97) rfl, ⟨by decide +kernel, by decide +kernel⟩, rfl, by decide +kernel, by decide, fun h => by cases h⟩
set_option maxRecDepth 100000 in
theorem mw_223 : MWok md_223 := ⟨List.mem_of_getElem? (i := 1610) rfl, List.mem_of_getElem? (i := 97) rfl, ⟨by decide +kernel, by decide +kernel⟩, rfl, by decide +kernel, by decide, fun h => by cases h⟩
set_option maxRecDepth 100000 in
theorem mw_224 : MWok md_224 := ⟨List.mem_of_getElem? (i := 1614) rfl, List.mem_of_getElem? (i := 97) rfl, ⟨by decide +kernel, by decide +kernel⟩, rfl, by decide +kernel, by decide, fun h => by cases h⟩
set_option maxRecDepth 100000 in
theorem mw_225 : MWok md_225 := ⟨List.mem_of_getElem? (i := 1618) rfl, List.mem_of_getElem? (i := 97) rfl, ⟨by decide +kernel, by decide +kernel⟩, rfl, by decide +kernel, by decide, fun h => by cases h⟩
set_option maxRecDepth 100000 in
theorem mw_226 : MWok md_226 := ⟨List.mem_of_getElem? (i := 1622) rfl, List.mem_of_getElem? (i := 97) rfl, ⟨by decide +kernel, by decide +kernel⟩, rfl, by decide +kernel, by decide, fun h => by cases h⟩
set_option maxRecDepth 100000 in
theorem mw_227 : MWok md_227 := ⟨List.mem_of_getElem? (i := 1626) rfl, List.mem_of_getElem? (i := 97) rfl, ⟨by decide +kernel, by decide +kernel⟩, rfl, by decide +kernel, by decide, fun h => by cases h⟩
set_option maxRecDepth 100000 in
theorem mw_228 : MWok md_228 := ⟨List.mem_of_getElem? (i := 1631) rfl, List.mem_of_getElem? (i := 97) rfl, ⟨by decide +kernel, by decide +kernel⟩, rfl, by decide +kernel, by decide, fun h => by cases h⟩
set_option maxRecDepth 100000 in
theorem mw_229 : MWok md_229 := ⟨List.mem_of_getElem? (i := 1635) rfl, List.mem_of_getElem? (i := 97) rfl, ⟨by decide +kernel, by decide +kernel⟩, rfl, by decide +kernel, by decide, fun h => by cases h⟩
set_option maxRecDepth 100000 in
theorem mw_230 : MWok md_230 := ⟨List.mem_of_getElem? (i := 1639) rfl, List.mem_of_getElem? (i := 97) rfl, ⟨by decide +kernel, by decide +kernel⟩, rfl, by decide +kernel, by decide, fun h => by cases h⟩
set_option maxRecDepth 100000 in
theorem mw_231 : MWok md_231 := ⟨List.mem_of_getElem? (i := 1643) rfl, List.mem_of_getElem? (i := 97) rfl, ⟨by decide +kernel, by decide +kernel⟩, rfl, by decide +kernel, by decide, fun h => by cases h⟩
set_option maxRecDepth 100000 in
theorem mw_232 : MWok md_232 := ⟨List.mem_of_getElem? (i := 1646) rfl, List.mem_of_getElem? (i := 97) rfl, ⟨by decide +kernel, by decide +kernel⟩, rfl, by decide +kernel, by decide, fun h => by cases h⟩
set_option maxRecDepth 100000 in
theorem mw_233 : MWok md_233 := ⟨List.mem_of_getElem? (i := 1651) rfl, List.mem_of_getElem? (i := 97) rfl, ⟨by decide +kernel, by decide +kernel⟩, rfl, by decide +kernel, by decide, fun h => by cases h⟩
set_option maxRecDepth 100000 in
theorem mw_234 : MWok md_234 := ⟨List.mem_of_getElem? (i := 1655) rfl, List.mem_of_getElem? (i := 97) rfl, ⟨by decide +kernel, by decide +kernel⟩, rfl, by decide +kernel, by decide, fun h => by cases h⟩
set_option maxRecDepth 100000 in
theorem mw_235 : MWok md_235 := ⟨List.mem_of_getElem? (i := 1659) rfl, List.mem_of_getElem? (i := 97) rfl, ⟨by decide +kernel, by decide +kernel⟩, rfl, by decide +kernel, by decide, fun h => by cases h⟩
set_option maxRecDepth 100000 in
theorem mw_236 : MWok md_236 := ⟨List.mem_of_getElem? (i := 1663) rfl, List.mem_of_getElem? (i := 97) rfl, ⟨by decide +kernel, by decide +kernel⟩, rfl, by decide +kernel, by decide, fun h => by cases h⟩
set_option maxRecDepth 100000 in
theorem mw_237 : MWok md_237 := ⟨List.mem_of_getElem? (i := 1667) rfl, List.mem_of_getElem? (i := 97) rfl, ⟨by decide +kernel, by decide +kernel⟩, rfl, by decide +kernel, by decide, fun h => by cases h⟩
set_option maxRecDepth 100000 in
theorem mw_238 : MWok md_238 := ⟨List.mem_of_getElem? (i := 1670) rfl, List.mem_of_getElem? (i := 97) rfl, ⟨by decide +kernel, by decide +kernel⟩, rfl, by decide +kernel, by decide, fun h => by cases h⟩
set_option maxRecDepth 100000 in
theorem mw_239 : MWok md_239 := ⟨List.mem_of_getElem? (i := 1675) rfl, List.mem_of_getElem? (i := 97) rfl, ⟨by decide +kernel, by decide +kernel⟩, rfl, by decide +kernel, by decide, fun h => by cases h⟩
set_option maxRecDepth 100000 in
theorem mw_240 : MWok md_240 := ⟨List.mem_of_getElem? (i := 1679) rfl, List.mem_of_getElem? (i := 97) rfl, ⟨by decide +kernel, by decide +kernel⟩, rfl, by decide +kernel, by decide, fun h => by cases h⟩
set_option maxRecDepth 100000 in
theorem mw_241 : MWok md_241 := ⟨List.mem_of_getElem? (i := 1684) rfl, List.mem_of_getElem? (i := 97) rfl, ⟨by decide +kernel, by decide +kernel⟩, rfl, by decide +kernel, by decide, fun h => by cases h⟩
set_option maxRecDepth 100000 in
theorem mw_242 : MWok md_242 := ⟨List.mem_of_getElem? (i := 1688) rfl, List.mem_of_getElem? (i := 97) rfl, ⟨by decide +kernel, by decide +kernel⟩, rfl, by decide +kernel, by decide, fun h => by cases h⟩
set_option maxRecDepth 100000 in
theorem mw_243 : MWok md_243 := ⟨List.mem_of_getElem? (i := 1692) rfl, List.mem_of_getElem? (i := 97) rfl, ⟨by decide +kernel, by decide +kernel⟩, rfl, by decide +kernel, by decide, fun h => by cases h⟩
set_option maxRecDepth 100000 in
theorem mw_244 : MWok md_244 := ⟨List.mem_of_getElem? (i := 1696) rfl, List.mem_of_getElem? (i := 97) rfl, ⟨by decide +kernel, by decide +kernel⟩, rfl, by decide +kernel, by decide, fun h => by cases h⟩
set_option maxRecDepth 100000 in
theorem mw_245 : MWok md_245 := ⟨List.mem_of_getElem? (i := 1700) rfl, List.mem_of_getElem? (i := 97) rfl, ⟨by decide +kernel, by decide +kernel⟩, rfl, by decide +kernel, by decide, fun h => by cases h⟩
set_option maxRecDepth 100000 in
theorem mw_246 : MWok md_246 := ⟨List.mem_of_getElem? (i := 1703) rfl, List.mem_of_getElem? (i := 97) rfl, ⟨by decide +kernel, by decide +kernel⟩, rfl, by decide +kernel, by decide, fun h => by cases h⟩
set_option maxRecDepth 100000 in
theorem mw_247 : MWok md_247 := ⟨List.mem_of_getElem? (i := 1707) rfl, List.mem_of_getElem? (i := 97) rfl, ⟨by decide +kernel, by decide +kernel⟩, rfl, by decide +kernel, by decide, fun h => by cases h⟩
set_option maxRecDepth 100000 in
theorem mw_248 : MWok md_248 := ⟨List.mem_of_getElem? (i := 1711) rfl, List.mem_of_getElem? (i := 97) rfl, ⟨by decide +kernel, by decide +kernel⟩, rfl, by decide +kernel, by decide, fun h => by cases h⟩
set_option maxRecDepth 100000 in
theorem mw_249 : MWok md_249 := ⟨List.mem_of_getElem? (i := 1715) rfl, List.mem_of_getElem? (i := 97) rfl, ⟨by decide +kernel, by decide +kernel⟩, rfl, by decide +kernel, by decide, fun h => by cases h⟩
set_option maxRecDepth 100000 in
theorem mw_250 : MWok md_250 := ⟨List.mem_of_getElem? (i := 1720) rfl, List.mem_of_getElem? (i := 97) rfl, ⟨by decide +kernel, by decide +kernel⟩, rfl, by decide +kernel, by decide, fun h => by cases h⟩
set_option maxRecDepth 100000 in
theorem mw_251 : MWok md_251 := ⟨List.mem_of_getElem? (i := 1724) rfl, List.mem_of_getElem? (i := 97) rfl, ⟨by decide +kernel, by decide +kernel⟩, rfl, by decide +kernel, by decide, fun h => by cases h⟩
set_option maxRecDepth 100000 in
theorem mw_252 : MWok md_252 := ⟨List.mem_of_getElem? (i := 1728) rfl, List.mem_of_getElem? (i := 97) rfl, ⟨by decide +kernel, by decide +kernel⟩, rfl, by decide +kernel, by decide, fun h => by cases h⟩
set_option maxRecDepth 100000 in
theorem mw_253 : MWok md_253 := ⟨List.mem_of_getElem? (i := 1732) rfl, List.mem_of_getElem? (i := 97) rfl, ⟨by decide +kernel, by decide +kernel⟩, rfl, by decide +kernel, by decide, fun h => by cases h⟩
set_option maxRecDepth 100000 in
theorem mw_254 : MWok md_254 := ⟨List.mem_of_getElem? (i := 1736) rfl, List.mem_of_getElem? (i := 97) rfl, ⟨by decide +kernel, by decide +kernel⟩, rfl, by decide +kernel, by decide, fun h => by cases h⟩
set_option maxRecDepth 100000 in
theorem mw_255 : MWok md_255 := ⟨List.mem_of_getElem? (i := 1741) rfl, List.mem_of_getElem? (i := 97) rfl, ⟨by decide +kernel, by decide +kernel⟩, rfl, by decide +kernel, by decide, fun h => by cases h⟩
set_option maxRecDepth 100000 in
theorem mw_256 : MWok md_256 := ⟨List.mem_of_getElem? (i := 1745) rfl, List.mem_of_getElem? (i := 97) rfl, ⟨by decide +kernel, by decide +kernel⟩, rfl, by decide +kernel, by decide, fun h => by cases h⟩
set_option maxRecDepth 100000 in
theorem mw_257 : MWok md_257 := ⟨List.mem_of_getElem? (i := 1748) rfl, List.mem_of_getElem? (i := 97) rfl, ⟨by decide +kernel, by decide +kernel⟩, rfl, by decide +kernel, by decide, fun h => by cases h⟩
set_option maxRecDepth 100000 in
theorem mw_258 : MWok md_258 := ⟨List.mem_of_getElem? (i := 1752) rfl, List.mem_of_getElem? (i := 97) rfl, ⟨by decide +kernel, by decide +kernel⟩, rfl, by decide +kernel, by decide, fun h => by cases h⟩
set_option maxRecDepth 100000 in
theorem mw_259 : MWok md_259 := ⟨List.mem_of_getElem? (i := 1760) rfl, List.mem_of_getElem? (i := 97) rfl, ⟨by decide +kernel, by decide +kernel⟩, rfl, by decide +kernel, by decide, fun h => by cases h⟩
set_option maxRecDepth 100000 in
theorem mw_260 : MWok md_260 := ⟨List.mem_of_getElem? (i := 1765) rfl, List.mem_of_getElem? (i := 97) rfl, ⟨by decide +kernel, by decide +kernel⟩, rfl, by decide +kernel, by decide, fun h => by cases h⟩
set_option maxRecDepth 100000 in
theorem mw_261 : MWok md_261 := ⟨List.mem_of_getElem? (i := 1769) rfl, List.mem_of_getElem? (i := 97) rfl, ⟨by decide +kernel, by decide +kernel⟩, rfl, by decide +kernel, by decide, fun h => by cases h⟩
set_option maxRecDepth 100000 in
theorem mw_262 : MWok md_262 := ⟨List.mem_of_getElem? (i := 1774) rfl, List.mem_of_getElem? (i := 97) rfl, ⟨by decide +kernel, by decide +kernel⟩, rfl, by decide +kernel, by decide, fun h => by cases h⟩
