/-! LAYER 1, ShareEightModel: methods, facts (by program) -/
def mi_X12_near : MI := (cX12_near, 3, RX12, "near", (some .int), { frames := 0, cells := 0, slots := 0, locals := 0 })
def mi_X12_put : MI := (cX12_put, 3, RX12, "put", none, { frames := 0, cells := 0, slots := 0, locals := 0 })
def mi_X12_feed : MI := (cX12_feed, 6, RX12, "feed", (some .int), { frames := 1, cells := 0, slots := 0, locals := 22 })
def mi_X12_in : MI := (cX12_in, 3, RX12, "in", (some .boolean), { frames := 0, cells := 0, slots := 0, locals := 0 })
def mi_X12_end : MI := (cX12_end, 2, RX12, "end", (some .boolean), { frames := 1, cells := 0, slots := 0, locals := 22 })
def mi_X12_isLetter : MI := (cX12_isLetter, 1, RX12, "isLetter", (some .boolean), { frames := 1, cells := 0, slots := 0, locals := 22 })
def mi_X12_at : MI := (cX12_at, 2, RX12, "at", (some .int), { frames := 0, cells := 0, slots := 0, locals := 0 })
def mi_X12_isDigit : MI := (cX12_isDigit, 1, RX12, "isDigit", (some .boolean), { frames := 1, cells := 0, slots := 0, locals := 22 })
def mi_X12_fails : MI := (cX12_fails, 3, RX12, "fails", none, { frames := 0, cells := 0, slots := 0, locals := 0 })
def mi_X12_number : MI := (cX12_number, 5, RX12, "number", none, { frames := 1, cells := 0, slots := 0, locals := 22 })
def mi_X12_look : MI := (cX12_look, 4, RX12, "look", none, { frames := 4, cells := 0, slots := 0, locals := 91 })
def mi_X12_isNext : MI := (cX12_isNext, 3, RX12, "isNext", (some .boolean), { frames := 0, cells := 0, slots := 0, locals := 0 })
def mi_X12_take : MI := (cX12_take, 1, RX12, "take", none, { frames := 5, cells := 0, slots := 0, locals := 114 })
def mi_X12_find : MI := (cX12_find, 9, RX12, "find", (some .int), { frames := 4, cells := 0, slots := 0, locals := 85 })
def mi_X12_findTold : MI := (cX12_findTold, 6, RX12, "findTold", (some .int), { frames := 0, cells := 0, slots := 0, locals := 0 })
def mi_X12_tells : MI := (cX12_tells, 7, RX12, "tells", none, { frames := 5, cells := 0, slots := 0, locals := 113 })
def mi_X12_labels : MI := (cX12_labels, 3, RX12, "labels", none, { frames := 6, cells := 0, slots := 0, locals := 139 })
def mi_X12_isSign : MI := (cX12_isSign, 2, RX12, "isSign", (some .boolean), { frames := 0, cells := 0, slots := 0, locals := 0 })
def mi_X12_named : MI := (cX12_named, 3, RX12, "named", (some .int), { frames := 5, cells := 0, slots := 0, locals := 113 })
def mi_X12_part : MI := (cX12_part, 3, RX12, "part", (some .int), { frames := 6, cells := 0, slots := 0, locals := 135 })
def mi_X12_all : MI := (cX12_all, 5, RX12, "all", (some .int), { frames := 7, cells := 0, slots := 0, locals := 157 })
def mi_X12_asked : MI := (cX12_asked, 2, RX12, "asked", (some .int), { frames := 8, cells := 0, slots := 0, locals := 181 })
def mi_X12_lies : MI := (cX12_lies, 2, RX12, "lies", none, { frames := 1, cells := 0, slots := 0, locals := 22 })
def mi_X12_texts : MI := (cX12_texts, 9, RX12, "texts", none, { frames := 5, cells := 0, slots := 0, locals := 114 })
def mi_X12_again : MI := (cX12_again, 1, RX12, "again", none, { frames := 5, cells := 0, slots := 0, locals := 114 })
def mi_X12_beginsV : MI := (cX12_beginsV, 1, RX12, "beginsV", (some .boolean), { frames := 5, cells := 0, slots := 0, locals := 113 })
def mi_X12_told : MI := (cX12_told, 5, RX12, "told", none, { frames := 9, cells := 0, slots := 0, locals := 202 })
def mi_X12_literalFor : MI := (cX12_literalFor, 5, RX12, "literalFor", (some .int), { frames := 1, cells := 0, slots := 0, locals := 22 })
def mi_X12_literal : MI := (cX12_literal, 5, RX12, "literal", (some .int), { frames := 8, cells := 0, slots := 0, locals := 181 })
def mi_X12_memory : MI := (cX12_memory, 7, RX12, "memory", (some .int), { frames := 2, cells := 0, slots := 0, locals := 46 })
def mi_X12_word : MI := (cX12_word, 11, RX12, "word", none, { frames := 9, cells := 0, slots := 0, locals := 205 })
def mi_X12_one : MI := (cX12_one, 6, RX12, "one", none, { frames := 10, cells := 0, slots := 0, locals := 235 })
def mi_X12_line : MI := (cX12_line, 2, RX12, "line", none, { frames := 11, cells := 0, slots := 0, locals := 260 })
def mi_X12_pass : MI := (cX12_pass, 2, RX12, "pass", none, { frames := 12, cells := 0, slots := 0, locals := 281 })
def mi_X12_assemble : MI := (cX12_assemble, 3, RX12, "assemble", (some .int), { frames := 13, cells := 0, slots := 0, locals := 302 })
def mi_X12_fault : MI := (cX12_fault, 2, RX12, "fault", (some .int), { frames := 0, cells := 0, slots := 0, locals := 0 })
def mi_X12_made : MI := (cX12_made, 2, RX12, "made", (some .int), { frames := 1, cells := 0, slots := 0, locals := 22 })
def mi_X12_isUser : MI := (cX12_isUser, 2, RX12, "isUser", (some .boolean), { frames := 1, cells := 0, slots := 0, locals := 22 })
def mi_X12_rests : MI := (cX12_rests, 2, RX12, "rests", (some .boolean), { frames := 2, cells := 0, slots := 0, locals := 43 })
def mi_X12_isMoved : MI := (cX12_isMoved, 2, RX12, "isMoved", (some .boolean), { frames := 0, cells := 0, slots := 0, locals := 0 })
def mi_X12_nobodys : MI := (cX12_nobodys, 2, RX12, "nobodys", none, { frames := 0, cells := 0, slots := 0, locals := 0 })
def mi_X12_mount : MI := (cX12_mount, 3, RX12, "mount", (some .boolean), { frames := 3, cells := 0, slots := 0, locals := 64 })
def mi_X12_isWord : MI := (cX12_isWord, 1, RX12, "isWord", (some .boolean), { frames := 1, cells := 0, slots := 0, locals := 22 })
def mi_X12_becomesReady : MI := (cX12_becomesReady, 2, RX12, "becomesReady", none, { frames := 0, cells := 0, slots := 0, locals := 0 })
def mi_X12_begin : MI := (cX12_begin, 3, RX12, "begin", (some .boolean), { frames := 3, cells := 0, slots := 0, locals := 64 })
def mi_X12_leavesQueue : MI := (cX12_leavesQueue, 4, RX12, "leavesQueue", none, { frames := 0, cells := 0, slots := 0, locals := 0 })
def mi_X12_halt : MI := (cX12_halt, 2, RX12, "halt", (some .boolean), { frames := 2, cells := 0, slots := 0, locals := 43 })
def mi_X12_key : MI := (cX12_key, 3, RX12, "key", (some .boolean), { frames := 2, cells := 0, slots := 0, locals := 43 })
def mi_X12_set : MI := (cX12_set, 3, RX12, "set", (some .boolean), { frames := 2, cells := 0, slots := 0, locals := 43 })
def mi_X12_store : MI := (cX12_store, 4, RX12, "store", none, { frames := 0, cells := 0, slots := 0, locals := 0 })
def mi_X12_deposit : MI := (cX12_deposit, 4, RX12, "deposit", (some .boolean), { frames := 3, cells := 0, slots := 0, locals := 64 })
def mi_X12_clocks : MI := (cX12_clocks, 3, RX12, "clocks", none, { frames := 1, cells := 0, slots := 0, locals := 21 })
def mi_X12_load : MI := (cX12_load, 3, RX12, "load", (some .int), { frames := 0, cells := 0, slots := 0, locals := 0 })
def mi_X12_ends : MI := (cX12_ends, 2, RX12, "ends", none, { frames := 1, cells := 0, slots := 0, locals := 21 })
def mi_X12_moves : MI := (cX12_moves, 5, RX12, "moves", none, { frames := 2, cells := 0, slots := 0, locals := 42 })
def mi_X12_given : MI := (cX12_given, 2, RX12, "given", (some .int), { frames := 0, cells := 0, slots := 0, locals := 0 })
def mi_X12_starts : MI := (cX12_starts, 4, RX12, "starts", none, { frames := 0, cells := 0, slots := 0, locals := 0 })
def mi_X12_queuesTask : MI := (cX12_queuesTask, 4, RX12, "queuesTask", (some .boolean), { frames := 1, cells := 0, slots := 0, locals := 23 })
def mi_X12_blocksTask : MI := (cX12_blocksTask, 3, RX12, "blocksTask", (some .boolean), { frames := 1, cells := 0, slots := 0, locals := 23 })
def mi_X12_looksFor : MI := (cX12_looksFor, 1, RX12, "looksFor", none, { frames := 2, cells := 0, slots := 0, locals := 46 })
def mi_X12_isWrong : MI := (cX12_isWrong, 1, RX12, "isWrong", (some .boolean), { frames := 0, cells := 0, slots := 0, locals := 0 })
def mi_X12_mustWait : MI := (cX12_mustWait, 2, RX12, "mustWait", (some .boolean), { frames := 0, cells := 0, slots := 0, locals := 0 })
def mi_X12_skip : MI := (cX12_skip, 2, RX12, "skip", none, { frames := 0, cells := 0, slots := 0, locals := 0 })
def mi_X12_memory_ : MI := (cX12_memory_, 6, RX12, "memory", none, { frames := 1, cells := 0, slots := 0, locals := 23 })
def mi_X12_goes : MI := (cX12_goes, 3, RX12, "goes", none, { frames := 0, cells := 0, slots := 0, locals := 0 })
def mi_X12_device : MI := (cX12_device, 2, RX12, "device", (some .boolean), { frames := 1, cells := 0, slots := 0, locals := 22 })
def mi_X12_has : MI := (cX12_has, 2, RX12, "has", (some .boolean), { frames := 0, cells := 0, slots := 0, locals := 0 })
def mi_X12_first : MI := (cX12_first, 5, RX12, "first", none, { frames := 1, cells := 0, slots := 0, locals := 21 })
def mi_X12_second : MI := (cX12_second, 3, RX12, "second", none, { frames := 1, cells := 0, slots := 0, locals := 21 })
def mi_X12_word_ : MI := (cX12_word_, 3, RX12, "word", (some .int), { frames := 1, cells := 0, slots := 0, locals := 22 })
def mi_X12_third : MI := (cX12_third, 6, RX12, "third", none, { frames := 2, cells := 0, slots := 0, locals := 44 })
def mi_X12_step : MI := (cX12_step, 5, RX12, "step", none, { frames := 3, cells := 0, slots := 0, locals := 69 })
def mi_X12_processes : MI := (cX12_processes, 3, RX12, "processes", none, { frames := 4, cells := 0, slots := 0, locals := 93 })
def mi_X12_tick : MI := (cX12_tick, 2, RX12, "tick", none, { frames := 5, cells := 0, slots := 0, locals := 115 })
def mi_X12_run : MI := (cX12_run, 4, RX12, "run", (some .int), { frames := 6, cells := 0, slots := 0, locals := 136 })
def mi_X12_user : MI := (cX12_user, 4, RX12, "user", (some .int), { frames := 2, cells := 0, slots := 0, locals := 43 })
def mi_X12_look_ : MI := (cX12_look_, 2, RX12, "look", (some .int), { frames := 0, cells := 0, slots := 0, locals := 0 })
def mi_X12_word__ : MI := (cX12_word__, 3, RX12, "word", (some .int), { frames := 2, cells := 0, slots := 0, locals := 43 })
def mi_X12_core : MI := (cX12_core, 3, RX12, "core", (some .int), { frames := 2, cells := 0, slots := 0, locals := 42 })
def mi_X12_drum : MI := (cX12_drum, 3, RX12, "drum", (some .int), { frames := 2, cells := 0, slots := 0, locals := 43 })
def mi_X12_slot : MI := (cX12_slot, 3, RX12, "slot", (some .int), { frames := 1, cells := 0, slots := 0, locals := 22 })
def mi_X12_block : MI := (cX12_block, 4, RX12, "block", (some .int), { frames := 2, cells := 0, slots := 0, locals := 43 })
def mi_X12_paper : MI := (cX12_paper, 3, RX12, "paper", (some .int), { frames := 2, cells := 0, slots := 0, locals := 43 })
theorem inX12 : ∀ w ∈ u_ws RX12 TX12 79, w ∈ lw_ok := ok_list [1427, 1429, 1431, 1433, 1435, 1437, 1439, 1441, 1443, 1445, 1447, 1449, 1451, 1453, 1455, 1457, 1459, 1461, 1463, 1465, 1467, 1469, 1471, 1473, 1475, 1477, 1479, 1481, 1483, 1485, 1487, 1489, 1491, 1493, 1495, 1497, 1499, 1501, 1503, 1505, 1507, 1509, 1511, 1513, 1515, 1517, 1519, 1521, 1523, 1525, 1527, 1529, 1531, 1533, 1535, 1537, 1539, 1541, 1543, 1545, 1547, 1549, 1551, 1553, 1555, 1557, 1559, 1561, 1563, 1565, 1567, 1569, 1571, 1573, 1575, 1577, 1579, 1581, 1583] (by decide +kernel) (by decide +kernel)
theorem gf_X12_1 : GF RX12 1 12 0 := ⟨RX12, TX12, 79, rfl, by decide, inX12, rfl, Or.inl (ok6 148 (by decide +kernel) rfl)⟩
theorem gf_X12_7 : GF RX12 7 12 1 := ⟨RX12, TX12, 79, rfl, by decide, inX12, rfl, Or.inl (ok6 149 (by decide +kernel) rfl)⟩
theorem gf_X12_19 : GF RX12 19 12 5 := ⟨RX12, TX12, 79, rfl, by decide, inX12, rfl, Or.inl (ok6 153 (by decide +kernel) rfl)⟩
theorem gf_X12_22 : GF RX12 22 12 6 := ⟨RX12, TX12, 79, rfl, by decide, inX12, rfl, Or.inl (ok6 154 (by decide +kernel) rfl)⟩
theorem gf_X12_25 : GF RX12 25 12 3 := ⟨RX12, TX12, 79, rfl, by decide, inX12, rfl, Or.inl (ok6 151 (by decide +kernel) rfl)⟩
theorem gf_X12_28 : GF RX12 28 12 2 := ⟨RX12, TX12, 79, rfl, by decide, inX12, rfl, Or.inl (ok6 150 (by decide +kernel) rfl)⟩
theorem gf_X12_31 : GF RX12 31 12 4 := ⟨RX12, TX12, 79, rfl, by decide, inX12, rfl, Or.inl (ok6 152 (by decide +kernel) rfl)⟩
theorem gf_X12_34 : GF RX12 34 12 13 := ⟨RX12, TX12, 79, rfl, by decide, inX12, rfl, Or.inl (ok6 161 (by decide +kernel) rfl)⟩
theorem gf_X12_37 : GF RX12 37 12 12 := ⟨RX12, TX12, 79, rfl, by decide, inX12, rfl, Or.inl (ok6 160 (by decide +kernel) rfl)⟩
theorem gf_X12_40 : GF RX12 40 12 16 := ⟨RX12, TX12, 79, rfl, by decide, inX12, rfl, Or.inl (ok6 164 (by decide +kernel) rfl)⟩
theorem gf_X12_54 : GF RX12 54 12 15 := ⟨RX12, TX12, 79, rfl, by decide, inX12, rfl, Or.inl (ok6 163 (by decide +kernel) rfl)⟩
theorem gf_X12_64 : GF RX12 64 12 14 := ⟨RX12, TX12, 79, rfl, by decide, inX12, rfl, Or.inl (ok6 162 (by decide +kernel) rfl)⟩
theorem gf_X12_74 : GF RX12 74 12 10 := ⟨RX12, TX12, 79, rfl, by decide, inX12, rfl, Or.inl (ok6 158 (by decide +kernel) rfl)⟩
theorem gf_X12_92 : GF RX12 92 12 21 := ⟨RX12, TX12, 79, rfl, by decide, inX12, rfl, Or.inl (ok6 169 (by decide +kernel) rfl)⟩
theorem gf_X12_95 : GF RX12 95 12 18 := ⟨RX12, TX12, 79, rfl, by decide, inX12, rfl, Or.inl (ok6 166 (by decide +kernel) rfl)⟩
theorem gf_X12_98 : GF RX12 98 12 17 := ⟨RX12, TX12, 79, rfl, by decide, inX12, rfl, Or.inl (ok6 165 (by decide +kernel) rfl)⟩
theorem gf_X12_112 : GF RX12 112 12 9 := ⟨RX12, TX12, 79, rfl, by decide, inX12, rfl, Or.inl (ok6 157 (by decide +kernel) rfl)⟩
theorem gf_X12_116 : GF RX12 116 12 20 := ⟨RX12, TX12, 79, rfl, by decide, inX12, rfl, Or.inl (ok6 168 (by decide +kernel) rfl)⟩
theorem gf_X12_120 : GF RX12 120 12 19 := ⟨RX12, TX12, 79, rfl, by decide, inX12, rfl, Or.inl (ok6 167 (by decide +kernel) rfl)⟩
theorem gf_X12_129 : GF RX12 129 12 11 := ⟨RX12, TX12, 79, rfl, by decide, inX12, rfl, Or.inl (ok6 159 (by decide +kernel) rfl)⟩
theorem gf_X12_132 : GF RX12 132 12 30 := ⟨RX12, TX12, 79, rfl, by decide, inX12, rfl, Or.inl (ok6 178 (by decide +kernel) rfl)⟩
theorem gf_X12_141 : GF RX12 141 12 29 := ⟨RX12, TX12, 79, rfl, by decide, inX12, rfl, Or.inl (ok6 177 (by decide +kernel) rfl)⟩
theorem gf_X12_147 : GF RX12 147 12 28 := ⟨RX12, TX12, 79, rfl, by decide, inX12, rfl, Or.inl (ok6 176 (by decide +kernel) rfl)⟩
theorem gf_X12_166 : GF RX12 166 12 27 := ⟨RX12, TX12, 79, rfl, by decide, inX12, rfl, Or.inl (ok6 175 (by decide +kernel) rfl)⟩
theorem gf_X12_193 : GF RX12 193 12 24 := ⟨RX12, TX12, 79, rfl, by decide, inX12, rfl, Or.inl (ok6 172 (by decide +kernel) rfl)⟩
theorem gf_X12_196 : GF RX12 196 12 23 := ⟨RX12, TX12, 79, rfl, by decide, inX12, rfl, Or.inl (ok6 171 (by decide +kernel) rfl)⟩
theorem gf_X12_199 : GF RX12 199 12 22 := ⟨RX12, TX12, 79, rfl, by decide, inX12, rfl, Or.inl (ok6 170 (by decide +kernel) rfl)⟩
theorem gf_X12_213 : GF RX12 213 12 26 := ⟨RX12, TX12, 79, rfl, by decide, inX12, rfl, Or.inl (ok6 174 (by decide +kernel) rfl)⟩
theorem gf_X12_220 : GF RX12 220 12 7 := ⟨RX12, TX12, 79, rfl, by decide, inX12, rfl, Or.inl (ok6 155 (by decide +kernel) rfl)⟩
theorem gf_X12_223 : GF RX12 223 12 8 := ⟨RX12, TX12, 79, rfl, by decide, inX12, rfl, Or.inl (ok6 156 (by decide +kernel) rfl)⟩
theorem gf_X12_226 : GF RX12 226 12 25 := ⟨RX12, TX12, 79, rfl, by decide, inX12, rfl, Or.inl (ok6 173 (by decide +kernel) rfl)⟩
theorem gf_X12_234 : GF RX12 234 12 62 := ⟨RX12, TX12, 79, rfl, by decide, inX12, rfl, Or.inl (ok6 210 (by decide +kernel) rfl)⟩
theorem gf_X12_237 : GF RX12 237 12 64 := ⟨RX12, TX12, 79, rfl, by decide, inX12, rfl, Or.inl (ok6 212 (by decide +kernel) rfl)⟩
theorem gf_X12_243 : GF RX12 243 12 31 := ⟨RX12, TX12, 79, rfl, by decide, inX12, rfl, Or.inl (ok6 179 (by decide +kernel) rfl)⟩
theorem gf_X12_246 : GF RX12 246 12 32 := ⟨RX12, TX12, 79, rfl, by decide, inX12, rfl, Or.inl (ok6 180 (by decide +kernel) rfl)⟩
theorem gf_X12_249 : GF RX12 249 12 33 := ⟨RX12, TX12, 79, rfl, by decide, inX12, rfl, Or.inl (ok6 181 (by decide +kernel) rfl)⟩
theorem gf_X12_252 : GF RX12 252 12 34 := ⟨RX12, TX12, 79, rfl, by decide, inX12, rfl, Or.inl (ok6 182 (by decide +kernel) rfl)⟩
theorem gf_X12_257 : GF RX12 257 12 35 := ⟨RX12, TX12, 79, rfl, by decide, inX12, rfl, Or.inl (ok6 183 (by decide +kernel) rfl)⟩
theorem gf_X12_260 : GF RX12 260 12 36 := ⟨RX12, TX12, 79, rfl, by decide, inX12, rfl, Or.inl (ok6 184 (by decide +kernel) rfl)⟩
theorem gf_X12_263 : GF RX12 263 12 37 := ⟨RX12, TX12, 79, rfl, by decide, inX12, rfl, Or.inl (ok6 185 (by decide +kernel) rfl)⟩
theorem gf_X12_266 : GF RX12 266 12 38 := ⟨RX12, TX12, 79, rfl, by decide, inX12, rfl, Or.inl (ok6 186 (by decide +kernel) rfl)⟩
theorem gf_X12_269 : GF RX12 269 12 39 := ⟨RX12, TX12, 79, rfl, by decide, inX12, rfl, Or.inl (ok6 187 (by decide +kernel) rfl)⟩
theorem gf_X12_272 : GF RX12 272 12 40 := ⟨RX12, TX12, 79, rfl, by decide, inX12, rfl, Or.inl (ok6 188 (by decide +kernel) rfl)⟩
theorem gf_X12_275 : GF RX12 275 12 41 := ⟨RX12, TX12, 79, rfl, by decide, inX12, rfl, Or.inl (ok6 189 (by decide +kernel) rfl)⟩
theorem gf_X12_278 : GF RX12 278 12 42 := ⟨RX12, TX12, 79, rfl, by decide, inX12, rfl, Or.inl (ok6 190 (by decide +kernel) rfl)⟩
theorem gf_X12_281 : GF RX12 281 12 43 := ⟨RX12, TX12, 79, rfl, by decide, inX12, rfl, Or.inl (ok6 191 (by decide +kernel) rfl)⟩
theorem gf_X12_284 : GF RX12 284 12 44 := ⟨RX12, TX12, 79, rfl, by decide, inX12, rfl, Or.inl (ok6 192 (by decide +kernel) rfl)⟩
theorem gf_X12_287 : GF RX12 287 12 45 := ⟨RX12, TX12, 79, rfl, by decide, inX12, rfl, Or.inl (ok6 193 (by decide +kernel) rfl)⟩
theorem gf_X12_290 : GF RX12 290 12 46 := ⟨RX12, TX12, 79, rfl, by decide, inX12, rfl, Or.inl (ok6 194 (by decide +kernel) rfl)⟩
theorem gf_X12_293 : GF RX12 293 12 47 := ⟨RX12, TX12, 79, rfl, by decide, inX12, rfl, Or.inl (ok6 195 (by decide +kernel) rfl)⟩
theorem gf_X12_296 : GF RX12 296 12 48 := ⟨RX12, TX12, 79, rfl, by decide, inX12, rfl, Or.inl (ok6 196 (by decide +kernel) rfl)⟩
theorem gf_X12_299 : GF RX12 299 12 49 := ⟨RX12, TX12, 79, rfl, by decide, inX12, rfl, Or.inl (ok6 197 (by decide +kernel) rfl)⟩
theorem gf_X12_302 : GF RX12 302 12 50 := ⟨RX12, TX12, 79, rfl, by decide, inX12, rfl, Or.inl (ok6 198 (by decide +kernel) rfl)⟩
theorem gf_X12_305 : GF RX12 305 12 51 := ⟨RX12, TX12, 79, rfl, by decide, inX12, rfl, Or.inl (ok6 199 (by decide +kernel) rfl)⟩
theorem gf_X12_308 : GF RX12 308 12 52 := ⟨RX12, TX12, 79, rfl, by decide, inX12, rfl, Or.inl (ok6 200 (by decide +kernel) rfl)⟩
theorem gf_X12_311 : GF RX12 311 12 53 := ⟨RX12, TX12, 79, rfl, by decide, inX12, rfl, Or.inl (ok6 201 (by decide +kernel) rfl)⟩
theorem gf_X12_314 : GF RX12 314 12 54 := ⟨RX12, TX12, 79, rfl, by decide, inX12, rfl, Or.inl (ok6 202 (by decide +kernel) rfl)⟩
theorem gf_X12_317 : GF RX12 317 12 55 := ⟨RX12, TX12, 79, rfl, by decide, inX12, rfl, Or.inl (ok6 203 (by decide +kernel) rfl)⟩
theorem gf_X12_320 : GF RX12 320 12 56 := ⟨RX12, TX12, 79, rfl, by decide, inX12, rfl, Or.inl (ok6 204 (by decide +kernel) rfl)⟩
theorem gf_X12_323 : GF RX12 323 12 57 := ⟨RX12, TX12, 79, rfl, by decide, inX12, rfl, Or.inl (ok6 205 (by decide +kernel) rfl)⟩
theorem gf_X12_326 : GF RX12 326 12 58 := ⟨RX12, TX12, 79, rfl, by decide, inX12, rfl, Or.inl (ok6 206 (by decide +kernel) rfl)⟩
theorem gf_X12_329 : GF RX12 329 12 59 := ⟨RX12, TX12, 79, rfl, by decide, inX12, rfl, Or.inl (ok6 207 (by decide +kernel) rfl)⟩
theorem gf_X12_332 : GF RX12 332 12 60 := ⟨RX12, TX12, 79, rfl, by decide, inX12, rfl, Or.inl (ok6 208 (by decide +kernel) rfl)⟩
theorem gf_X12_335 : GF RX12 335 12 61 := ⟨RX12, TX12, 79, rfl, by decide, inX12, rfl, Or.inl (ok6 209 (by decide +kernel) rfl)⟩
theorem gf_X12_338 : GF RX12 338 12 63 := ⟨RX12, TX12, 79, rfl, by decide, inX12, rfl, Or.inl (ok6 211 (by decide +kernel) rfl)⟩
theorem gf_X12_344 : GF RX12 344 12 67 := ⟨RX12, TX12, 79, rfl, by decide, inX12, rfl, Or.inl (ok6 215 (by decide +kernel) rfl)⟩
theorem gf_X12_347 : GF RX12 347 12 68 := ⟨RX12, TX12, 79, rfl, by decide, inX12, rfl, Or.inl (ok6 216 (by decide +kernel) rfl)⟩
theorem gf_X12_372 : GF RX12 372 12 75 := ⟨RX12, TX12, 79, rfl, by decide, inX12, rfl, Or.inl (ok6 223 (by decide +kernel) rfl)⟩
theorem gf_X12_378 : GF RX12 378 12 66 := ⟨RX12, TX12, 79, rfl, by decide, inX12, rfl, Or.inl (ok6 214 (by decide +kernel) rfl)⟩
theorem gf_X12_393 : GF RX12 393 12 70 := ⟨RX12, TX12, 79, rfl, by decide, inX12, rfl, Or.inl (ok6 218 (by decide +kernel) rfl)⟩
theorem gf_X12_396 : GF RX12 396 12 69 := ⟨RX12, TX12, 79, rfl, by decide, inX12, rfl, Or.inl (ok6 217 (by decide +kernel) rfl)⟩
theorem gf_X12_405 : GF RX12 405 12 72 := ⟨RX12, TX12, 79, rfl, by decide, inX12, rfl, Or.inl (ok6 220 (by decide +kernel) rfl)⟩
theorem gf_X12_408 : GF RX12 408 12 71 := ⟨RX12, TX12, 79, rfl, by decide, inX12, rfl, Or.inl (ok6 219 (by decide +kernel) rfl)⟩
theorem gf_X12_411 : GF RX12 411 12 73 := ⟨RX12, TX12, 79, rfl, by decide, inX12, rfl, Or.inl (ok6 221 (by decide +kernel) rfl)⟩
theorem gf_X12_414 : GF RX12 414 12 77 := ⟨RX12, TX12, 79, rfl, by decide, inX12, rfl, Or.inl (ok6 225 (by decide +kernel) rfl)⟩
theorem gf_X12_429 : GF RX12 429 12 74 := ⟨RX12, TX12, 79, rfl, by decide, inX12, rfl, Or.inl (ok6 222 (by decide +kernel) rfl)⟩
theorem gf_X12_432 : GF RX12 432 12 65 := ⟨RX12, TX12, 79, rfl, by decide, inX12, rfl, Or.inl (ok6 213 (by decide +kernel) rfl)⟩
theorem gf_X12_438 : GF RX12 438 12 78 := ⟨RX12, TX12, 79, rfl, by decide, inX12, rfl, Or.inl (ok6 226 (by decide +kernel) rfl)⟩
theorem gf_X12_472 : GF RX12 472 12 76 := ⟨RX12, TX12, 79, rfl, by decide, inX12, rfl, Or.inl (ok6 224 (by decide +kernel) rfl)⟩
theorem pf_X12_7 (mn : String) : PF RX12 mn 7 12 1 .int := ⟨RX12, TX12, 79, tyX12, rfl, by decide, inX12, rfl, tyX12_ok, nmX12, tyX12_ok 1 (by decide), Or.inl ⟨rfl, Or.inl (ok6 149 (by decide +kernel) rfl)⟩⟩
theorem pf_X12_19 (mn : String) : PF RX12 mn 19 12 5 .int := ⟨RX12, TX12, 79, tyX12, rfl, by decide, inX12, rfl, tyX12_ok, nmX12, tyX12_ok 5 (by decide), Or.inl ⟨rfl, Or.inl (ok6 153 (by decide +kernel) rfl)⟩⟩
theorem pf_X12_22 (mn : String) : PF RX12 mn 22 12 6 .int := ⟨RX12, TX12, 79, tyX12, rfl, by decide, inX12, rfl, tyX12_ok, nmX12, tyX12_ok 6 (by decide), Or.inl ⟨rfl, Or.inl (ok6 154 (by decide +kernel) rfl)⟩⟩
theorem pf_X12_25 (mn : String) : PF RX12 mn 25 12 3 .int := ⟨RX12, TX12, 79, tyX12, rfl, by decide, inX12, rfl, tyX12_ok, nmX12, tyX12_ok 3 (by decide), Or.inl ⟨rfl, Or.inl (ok6 151 (by decide +kernel) rfl)⟩⟩
theorem pf_X12_31 (mn : String) : PF RX12 mn 31 12 4 .int := ⟨RX12, TX12, 79, tyX12, rfl, by decide, inX12, rfl, tyX12_ok, nmX12, tyX12_ok 4 (by decide), Or.inl ⟨rfl, Or.inl (ok6 152 (by decide +kernel) rfl)⟩⟩
theorem pf_X12_34 (mn : String) : PF RX12 mn 34 12 13 .int := ⟨RX12, TX12, 79, tyX12, rfl, by decide, inX12, rfl, tyX12_ok, nmX12, tyX12_ok 13 (by decide), Or.inl ⟨rfl, Or.inl (ok6 161 (by decide +kernel) rfl)⟩⟩
theorem pf_X12_37 (mn : String) : PF RX12 mn 37 12 12 .int := ⟨RX12, TX12, 79, tyX12, rfl, by decide, inX12, rfl, tyX12_ok, nmX12, tyX12_ok 12 (by decide), Or.inl ⟨rfl, Or.inl (ok6 160 (by decide +kernel) rfl)⟩⟩
theorem pf_X12_40 (mn : String) : PF RX12 mn 40 12 16 .int := ⟨RX12, TX12, 79, tyX12, rfl, by decide, inX12, rfl, tyX12_ok, nmX12, tyX12_ok 16 (by decide), Or.inl ⟨rfl, Or.inl (ok6 164 (by decide +kernel) rfl)⟩⟩
theorem pf_X12_54 (mn : String) : PF RX12 mn 54 12 15 .int := ⟨RX12, TX12, 79, tyX12, rfl, by decide, inX12, rfl, tyX12_ok, nmX12, tyX12_ok 15 (by decide), Or.inl ⟨rfl, Or.inl (ok6 163 (by decide +kernel) rfl)⟩⟩
theorem pf_X12_64 (mn : String) : PF RX12 mn 64 12 14 .int := ⟨RX12, TX12, 79, tyX12, rfl, by decide, inX12, rfl, tyX12_ok, nmX12, tyX12_ok 14 (by decide), Or.inl ⟨rfl, Or.inl (ok6 162 (by decide +kernel) rfl)⟩⟩
theorem pf_X12_74 (mn : String) : PF RX12 mn 74 12 10 .int := ⟨RX12, TX12, 79, tyX12, rfl, by decide, inX12, rfl, tyX12_ok, nmX12, tyX12_ok 10 (by decide), Or.inl ⟨rfl, Or.inl (ok6 158 (by decide +kernel) rfl)⟩⟩
theorem pf_X12_92 (mn : String) : PF RX12 mn 92 12 21 .int := ⟨RX12, TX12, 79, tyX12, rfl, by decide, inX12, rfl, tyX12_ok, nmX12, tyX12_ok 21 (by decide), Or.inl ⟨rfl, Or.inl (ok6 169 (by decide +kernel) rfl)⟩⟩
theorem pf_X12_112 (mn : String) : PF RX12 mn 112 12 9 .boolean := ⟨RX12, TX12, 79, tyX12, rfl, by decide, inX12, rfl, tyX12_ok, nmX12, tyX12_ok 9 (by decide), Or.inl ⟨rfl, Or.inl (ok6 157 (by decide +kernel) rfl)⟩⟩
theorem pf_X12_129 (mn : String) : PF RX12 mn 129 12 11 .int := ⟨RX12, TX12, 79, tyX12, rfl, by decide, inX12, rfl, tyX12_ok, nmX12, tyX12_ok 11 (by decide), Or.inl ⟨rfl, Or.inl (ok6 159 (by decide +kernel) rfl)⟩⟩
theorem pf_X12_132 (mn : String) : PF RX12 mn 132 12 30 .int := ⟨RX12, TX12, 79, tyX12, rfl, by decide, inX12, rfl, tyX12_ok, nmX12, tyX12_ok 30 (by decide), Or.inl ⟨rfl, Or.inl (ok6 178 (by decide +kernel) rfl)⟩⟩
theorem pf_X12_141 (mn : String) : PF RX12 mn 141 12 29 .boolean := ⟨RX12, TX12, 79, tyX12, rfl, by decide, inX12, rfl, tyX12_ok, nmX12, tyX12_ok 29 (by decide), Or.inl ⟨rfl, Or.inl (ok6 177 (by decide +kernel) rfl)⟩⟩
theorem pf_X12_147 (mn : String) : PF RX12 mn 147 12 28 .boolean := ⟨RX12, TX12, 79, tyX12, rfl, by decide, inX12, rfl, tyX12_ok, nmX12, tyX12_ok 28 (by decide), Or.inl ⟨rfl, Or.inl (ok6 176 (by decide +kernel) rfl)⟩⟩
theorem pf_X12_166 (mn : String) : PF RX12 mn 166 12 27 .int := ⟨RX12, TX12, 79, tyX12, rfl, by decide, inX12, rfl, tyX12_ok, nmX12, tyX12_ok 27 (by decide), Or.inl ⟨rfl, Or.inl (ok6 175 (by decide +kernel) rfl)⟩⟩
theorem pf_X12_220 (mn : String) : PF RX12 mn 220 12 7 .int := ⟨RX12, TX12, 79, tyX12, rfl, by decide, inX12, rfl, tyX12_ok, nmX12, tyX12_ok 7 (by decide), Or.inl ⟨rfl, Or.inl (ok6 155 (by decide +kernel) rfl)⟩⟩
theorem pf_X12_223 (mn : String) : PF RX12 mn 223 12 8 .int := ⟨RX12, TX12, 79, tyX12, rfl, by decide, inX12, rfl, tyX12_ok, nmX12, tyX12_ok 8 (by decide), Or.inl ⟨rfl, Or.inl (ok6 156 (by decide +kernel) rfl)⟩⟩
theorem pf_X12_237 (mn : String) : PF RX12 mn 237 12 64 .int := ⟨RX12, TX12, 79, tyX12, rfl, by decide, inX12, rfl, tyX12_ok, nmX12, tyX12_ok 64 (by decide), Or.inl ⟨rfl, Or.inl (ok6 212 (by decide +kernel) rfl)⟩⟩
theorem pf_X12_338 (mn : String) : PF RX12 mn 338 12 63 .int := ⟨RX12, TX12, 79, tyX12, rfl, by decide, inX12, rfl, tyX12_ok, nmX12, tyX12_ok 63 (by decide), Or.inl ⟨rfl, Or.inl (ok6 211 (by decide +kernel) rfl)⟩⟩
theorem pf_X12_344 (mn : String) : PF RX12 mn 344 12 67 .int := ⟨RX12, TX12, 79, tyX12, rfl, by decide, inX12, rfl, tyX12_ok, nmX12, tyX12_ok 67 (by decide), Or.inl ⟨rfl, Or.inl (ok6 215 (by decide +kernel) rfl)⟩⟩
theorem pf_X12_347 (mn : String) : PF RX12 mn 347 12 68 .int := ⟨RX12, TX12, 79, tyX12, rfl, by decide, inX12, rfl, tyX12_ok, nmX12, tyX12_ok 68 (by decide), Or.inl ⟨rfl, Or.inl (ok6 216 (by decide +kernel) rfl)⟩⟩
theorem pf_X12_372 (mn : String) : PF RX12 mn 372 12 75 .int := ⟨RX12, TX12, 79, tyX12, rfl, by decide, inX12, rfl, tyX12_ok, nmX12, tyX12_ok 75 (by decide), Or.inl ⟨rfl, Or.inl (ok6 223 (by decide +kernel) rfl)⟩⟩
theorem pf_X12_378 (mn : String) : PF RX12 mn 378 12 66 .int := ⟨RX12, TX12, 79, tyX12, rfl, by decide, inX12, rfl, tyX12_ok, nmX12, tyX12_ok 66 (by decide), Or.inl ⟨rfl, Or.inl (ok6 214 (by decide +kernel) rfl)⟩⟩
theorem pf_X12_393 (mn : String) : PF RX12 mn 393 12 70 .int := ⟨RX12, TX12, 79, tyX12, rfl, by decide, inX12, rfl, tyX12_ok, nmX12, tyX12_ok 70 (by decide), Or.inl ⟨rfl, Or.inl (ok6 218 (by decide +kernel) rfl)⟩⟩
theorem pf_X12_396 (mn : String) : PF RX12 mn 396 12 69 .int := ⟨RX12, TX12, 79, tyX12, rfl, by decide, inX12, rfl, tyX12_ok, nmX12, tyX12_ok 69 (by decide), Or.inl ⟨rfl, Or.inl (ok6 217 (by decide +kernel) rfl)⟩⟩
theorem pf_X12_405 (mn : String) : PF RX12 mn 405 12 72 .int := ⟨RX12, TX12, 79, tyX12, rfl, by decide, inX12, rfl, tyX12_ok, nmX12, tyX12_ok 72 (by decide), Or.inl ⟨rfl, Or.inl (ok6 220 (by decide +kernel) rfl)⟩⟩
theorem pf_X12_408 (mn : String) : PF RX12 mn 408 12 71 .int := ⟨RX12, TX12, 79, tyX12, rfl, by decide, inX12, rfl, tyX12_ok, nmX12, tyX12_ok 71 (by decide), Or.inl ⟨rfl, Or.inl (ok6 219 (by decide +kernel) rfl)⟩⟩
theorem pf_X12_411 (mn : String) : PF RX12 mn 411 12 73 .int := ⟨RX12, TX12, 79, tyX12, rfl, by decide, inX12, rfl, tyX12_ok, nmX12, tyX12_ok 73 (by decide), Or.inl ⟨rfl, Or.inl (ok6 221 (by decide +kernel) rfl)⟩⟩
theorem pf_X12_414 (mn : String) : PF RX12 mn 414 12 77 .boolean := ⟨RX12, TX12, 79, tyX12, rfl, by decide, inX12, rfl, tyX12_ok, nmX12, tyX12_ok 77 (by decide), Or.inl ⟨rfl, Or.inl (ok6 225 (by decide +kernel) rfl)⟩⟩
theorem pf_X12_429 (mn : String) : PF RX12 mn 429 12 74 .int := ⟨RX12, TX12, 79, tyX12, rfl, by decide, inX12, rfl, tyX12_ok, nmX12, tyX12_ok 74 (by decide), Or.inl ⟨rfl, Or.inl (ok6 222 (by decide +kernel) rfl)⟩⟩
theorem pf_X12_432 (mn : String) : PF RX12 mn 432 12 65 .int := ⟨RX12, TX12, 79, tyX12, rfl, by decide, inX12, rfl, tyX12_ok, nmX12, tyX12_ok 65 (by decide), Or.inl ⟨rfl, Or.inl (ok6 213 (by decide +kernel) rfl)⟩⟩
theorem pf_X12_438 (mn : String) : PF RX12 mn 438 12 78 .int := ⟨RX12, TX12, 79, tyX12, rfl, by decide, inX12, rfl, tyX12_ok, nmX12, tyX12_ok 78 (by decide), Or.inl ⟨rfl, Or.inl (ok6 226 (by decide +kernel) rfl)⟩⟩
theorem pf_X12_472 (mn : String) : PF RX12 mn 472 12 76 .int := ⟨RX12, TX12, 79, tyX12, rfl, by decide, inX12, rfl, tyX12_ok, nmX12, tyX12_ok 76 (by decide), Or.inl ⟨rfl, Or.inl (ok6 224 (by decide +kernel) rfl)⟩⟩
theorem cf_X12_11 : CfV RX12 11 12 yX12_put mi_X12_put 1 := ⟨⟨(ok5 236 rfl rfl), (ok1 19 (by decide +kernel) rfl), Or.inl (ok5 232 (by decide +kernel) rfl), by decide +kernel, by decide +kernel, by decide +kernel⟩, (ok5 234 (by decide +kernel) rfl), (sel_at 60 (by decide +kernel) (by decide +kernel)), _, _, rfl⟩
theorem cf_X12_15 : CfS RX12 15 yX12_in mi_X12_in 3 := ⟨⟨(ok6 3 rfl rfl), (ok1 19 (by decide +kernel) rfl), Or.inl (ok6 1 (by decide +kernel) rfl), by decide +kernel, by decide +kernel, by decide +kernel⟩, (ok6 2 (by decide +kernel) rfl)⟩
theorem cf_X12_43 : CfS RX12 43 yX12_isLetter mi_X12_isLetter 1 := ⟨⟨(ok6 22 rfl rfl), (ok1 19 (by decide +kernel) rfl), Or.inl (ok6 20 (by decide +kernel) rfl), by decide +kernel, by decide +kernel, by decide +kernel⟩, (ok6 21 (by decide +kernel) rfl)⟩
theorem cf_X12_47 : CfV RX12 47 12 yX12_at mi_X12_at 1 := ⟨⟨(ok6 26 rfl rfl), (ok1 19 (by decide +kernel) rfl), Or.inl (ok6 23 (by decide +kernel) rfl), by decide +kernel, by decide +kernel, by decide +kernel⟩, (ok6 25 (by decide +kernel) rfl), (sel_at 64 (by decide +kernel) (by decide +kernel)), _, _, rfl⟩
theorem cf_X12_51 : CfS RX12 51 yX12_isDigit mi_X12_isDigit 1 := ⟨⟨(ok6 29 rfl rfl), (ok1 19 (by decide +kernel) rfl), Or.inl (ok6 27 (by decide +kernel) rfl), by decide +kernel, by decide +kernel, by decide +kernel⟩, (ok6 28 (by decide +kernel) rfl)⟩
theorem cf_X12_57 : CfV RX12 57 12 yX12_fails mi_X12_fails 2 := ⟨⟨(ok6 33 rfl rfl), (ok1 19 (by decide +kernel) rfl), Or.inl (ok6 30 (by decide +kernel) rfl), by decide +kernel, by decide +kernel, by decide +kernel⟩, (ok6 32 (by decide +kernel) rfl), (sel_at 65 (by decide +kernel) (by decide +kernel)), _, _, rfl⟩
theorem cf_X12_61 : CfV RX12 61 12 yX12_number mi_X12_number 2 := ⟨⟨(ok6 37 rfl rfl), (ok1 19 (by decide +kernel) rfl), Or.inl (ok6 34 (by decide +kernel) rfl), by decide +kernel, by decide +kernel, by decide +kernel⟩, (ok6 36 (by decide +kernel) rfl), (sel_at 66 (by decide +kernel) (by decide +kernel)), _, _, rfl⟩
theorem cf_X12_69 : CfX RX12 69 yJ0_indexOf_0f7a4 mi_J0_indexOf_0f7a4 1 := ⟨⟨(ok3 106 rfl rfl), (ok1 4 (by decide +kernel) rfl), Or.inl (ok6 39 (by decide +kernel) rfl), by decide +kernel, by decide +kernel, by decide +kernel⟩, (ok3 104 (by decide +kernel) rfl), (ok3 105 (by decide +kernel) rfl), rfl⟩
theorem cf_X12_77 : CfV RX12 77 12 yX12_look mi_X12_look 0 := ⟨⟨(ok6 19 rfl rfl), (ok1 19 (by decide +kernel) rfl), Or.inl (ok6 16 (by decide +kernel) rfl), by decide +kernel, by decide +kernel, by decide +kernel⟩, (ok6 18 (by decide +kernel) rfl), (sel_at 63 (by decide +kernel) (by decide +kernel)), _, _, rfl⟩
theorem cf_X12_81 : CfX RX12 81 yJ0_length_8abf5 mi_J0_length_8abf5 0 := ⟨⟨(ok1 48 rfl rfl), (ok1 4 (by decide +kernel) rfl), Or.inl (ok6 60 (by decide +kernel) rfl), by decide +kernel, by decide +kernel, by decide +kernel⟩, (ok1 46 (by decide +kernel) rfl), (ok1 47 (by decide +kernel) rfl), rfl⟩
theorem cf_X12_85 : CfX RX12 85 yJ0_indexOf_7cf53 mi_J0_indexOf_7cf53 2 := ⟨⟨(ok3 110 rfl rfl), (ok1 4 (by decide +kernel) rfl), Or.inl (ok6 61 (by decide +kernel) rfl), by decide +kernel, by decide +kernel, by decide +kernel⟩, (ok3 108 (by decide +kernel) rfl), (ok3 109 (by decide +kernel) rfl), rfl⟩
theorem cf_X12_88 : CfX RX12 88 yJ0_charAt_5068e mi_J0_charAt_5068e 1 := ⟨⟨(ok1 58 rfl rfl), (ok1 4 (by decide +kernel) rfl), Or.inl (ok6 62 (by decide +kernel) rfl), by decide +kernel, by decide +kernel, by decide +kernel⟩, (ok1 56 (by decide +kernel) rfl), (ok1 57 (by decide +kernel) rfl), rfl⟩
theorem cf_X12_103 : CfS RX12 103 yX12_find mi_X12_find 4 := ⟨⟨(ok6 59 rfl rfl), (ok1 19 (by decide +kernel) rfl), Or.inl (ok6 57 (by decide +kernel) rfl), by decide +kernel, by decide +kernel, by decide +kernel⟩, (ok6 58 (by decide +kernel) rfl)⟩
theorem cf_X12_109 : CfV RX12 109 12 yX12_findTold mi_X12_findTold 2 := ⟨⟨(ok6 67 rfl rfl), (ok1 19 (by decide +kernel) rfl), Or.inl (ok6 64 (by decide +kernel) rfl), by decide +kernel, by decide +kernel, by decide +kernel⟩, (ok6 66 (by decide +kernel) rfl), (sel_at 71 (by decide +kernel) (by decide +kernel)), _, _, rfl⟩
theorem cf_X12_123 : CfV RX12 123 12 yX12_isSign mi_X12_isSign 1 := ⟨⟨(ok6 75 rfl rfl), (ok1 19 (by decide +kernel) rfl), Or.inl (ok6 72 (by decide +kernel) rfl), by decide +kernel, by decide +kernel, by decide +kernel⟩, (ok6 74 (by decide +kernel) rfl), (sel_at 73 (by decide +kernel) (by decide +kernel)), _, _, rfl⟩
theorem cf_X12_126 : CfV RX12 126 12 yX12_take mi_X12_take 0 := ⟨⟨(ok6 51 rfl rfl), (ok1 19 (by decide +kernel) rfl), Or.inl (ok6 48 (by decide +kernel) rfl), by decide +kernel, by decide +kernel, by decide +kernel⟩, (ok6 50 (by decide +kernel) rfl), (sel_at 69 (by decide +kernel) (by decide +kernel)), _, _, rfl⟩
theorem cf_X12_135 : CfV RX12 135 12 yX12_named mi_X12_named 0 := ⟨⟨(ok6 91 rfl rfl), (ok1 19 (by decide +kernel) rfl), Or.inl (ok6 88 (by decide +kernel) rfl), by decide +kernel, by decide +kernel, by decide +kernel⟩, (ok6 90 (by decide +kernel) rfl), (sel_at 77 (by decide +kernel) (by decide +kernel)), _, _, rfl⟩
theorem cf_X12_144 : CfV RX12 144 12 yX12_part mi_X12_part 0 := ⟨⟨(ok6 87 rfl rfl), (ok1 19 (by decide +kernel) rfl), Or.inl (ok6 84 (by decide +kernel) rfl), by decide +kernel, by decide +kernel, by decide +kernel⟩, (ok6 86 (by decide +kernel) rfl), (sel_at 76 (by decide +kernel) (by decide +kernel)), _, _, rfl⟩
theorem cf_X12_150 : CfV RX12 150 12 yX12_line mi_X12_line 0 := ⟨⟨(ok6 15 rfl rfl), (ok1 19 (by decide +kernel) rfl), Or.inl (ok6 12 (by decide +kernel) rfl), by decide +kernel, by decide +kernel, by decide +kernel⟩, (ok6 14 (by decide +kernel) rfl), (sel_at 62 (by decide +kernel) (by decide +kernel)), _, _, rfl⟩
theorem cf_X12_153 : CfV RX12 153 12 yX12_labels mi_X12_labels 0 := ⟨⟨(ok6 43 rfl rfl), (ok1 19 (by decide +kernel) rfl), Or.inl (ok6 40 (by decide +kernel) rfl), by decide +kernel, by decide +kernel, by decide +kernel⟩, (ok6 42 (by decide +kernel) rfl), (sel_at 67 (by decide +kernel) (by decide +kernel)), _, _, rfl⟩
theorem cf_X12_156 : CfV RX12 156 12 yX12_one mi_X12_one 0 := ⟨⟨(ok6 71 rfl rfl), (ok1 19 (by decide +kernel) rfl), Or.inl (ok6 68 (by decide +kernel) rfl), by decide +kernel, by decide +kernel, by decide +kernel⟩, (ok6 70 (by decide +kernel) rfl), (sel_at 72 (by decide +kernel) (by decide +kernel)), _, _, rfl⟩
theorem cf_X12_159 : CfV RX12 159 12 yX12_isNext mi_X12_isNext 1 := ⟨⟨(ok6 47 rfl rfl), (ok1 19 (by decide +kernel) rfl), Or.inl (ok6 44 (by decide +kernel) rfl), by decide +kernel, by decide +kernel, by decide +kernel⟩, (ok6 46 (by decide +kernel) rfl), (sel_at 68 (by decide +kernel) (by decide +kernel)), _, _, rfl⟩
theorem cf_X12_162 : CfV RX12 162 12 yX12_tells mi_X12_tells 4 := ⟨⟨(ok6 55 rfl rfl), (ok1 19 (by decide +kernel) rfl), Or.inl (ok6 52 (by decide +kernel) rfl), by decide +kernel, by decide +kernel, by decide +kernel⟩, (ok6 54 (by decide +kernel) rfl), (sel_at 70 (by decide +kernel) (by decide +kernel)), _, _, rfl⟩
theorem cf_X12_169 : CfV RX12 169 12 yX12_asked mi_X12_asked 0 := ⟨⟨(ok6 79 rfl rfl), (ok1 19 (by decide +kernel) rfl), Or.inl (ok6 76 (by decide +kernel) rfl), by decide +kernel, by decide +kernel, by decide +kernel⟩, (ok6 78 (by decide +kernel) rfl), (sel_at 74 (by decide +kernel) (by decide +kernel)), _, _, rfl⟩
theorem cf_X12_172 : CfV RX12 172 12 yX12_told mi_X12_told 1 := ⟨⟨(ok6 97 rfl rfl), (ok1 19 (by decide +kernel) rfl), Or.inl (ok6 94 (by decide +kernel) rfl), by decide +kernel, by decide +kernel, by decide +kernel⟩, (ok6 96 (by decide +kernel) rfl), (sel_at 78 (by decide +kernel) (by decide +kernel)), _, _, rfl⟩
theorem cf_X12_174 : CfV RX12 174 12 yX12_word mi_X12_word 0 := ⟨⟨(ok6 117 rfl rfl), (ok1 19 (by decide +kernel) rfl), Or.inl (ok6 114 (by decide +kernel) rfl), by decide +kernel, by decide +kernel, by decide +kernel⟩, (ok6 116 (by decide +kernel) rfl), (sel_at 83 (by decide +kernel) (by decide +kernel)), _, _, rfl⟩
theorem cf_X12_177 : CfV RX12 177 12 yX12_all mi_X12_all 0 := ⟨⟨(ok6 83 rfl rfl), (ok1 19 (by decide +kernel) rfl), Or.inl (ok6 80 (by decide +kernel) rfl), by decide +kernel, by decide +kernel, by decide +kernel⟩, (ok6 82 (by decide +kernel) rfl), (sel_at 75 (by decide +kernel) (by decide +kernel)), _, _, rfl⟩
theorem cf_X12_180 : CfV RX12 180 12 yX12_texts mi_X12_texts 1 := ⟨⟨(ok6 101 rfl rfl), (ok1 19 (by decide +kernel) rfl), Or.inl (ok6 98 (by decide +kernel) rfl), by decide +kernel, by decide +kernel, by decide +kernel⟩, (ok6 100 (by decide +kernel) rfl), (sel_at 79 (by decide +kernel) (by decide +kernel)), _, _, rfl⟩
theorem cf_X12_183 : CfV RX12 183 12 yX12_again mi_X12_again 0 := ⟨⟨(ok6 109 rfl rfl), (ok1 19 (by decide +kernel) rfl), Or.inl (ok6 106 (by decide +kernel) rfl), by decide +kernel, by decide +kernel, by decide +kernel⟩, (ok6 108 (by decide +kernel) rfl), (sel_at 81 (by decide +kernel) (by decide +kernel)), _, _, rfl⟩
theorem cf_X12_186 : CfV RX12 186 12 yX12_beginsV mi_X12_beginsV 0 := ⟨⟨(ok6 113 rfl rfl), (ok1 19 (by decide +kernel) rfl), Or.inl (ok6 110 (by decide +kernel) rfl), by decide +kernel, by decide +kernel, by decide +kernel⟩, (ok6 112 (by decide +kernel) rfl), (sel_at 82 (by decide +kernel) (by decide +kernel)), _, _, rfl⟩
theorem cf_X12_190 : CfV RX12 190 12 yX12_lies mi_X12_lies 1 := ⟨⟨(ok6 105 rfl rfl), (ok1 19 (by decide +kernel) rfl), Or.inl (ok6 102 (by decide +kernel) rfl), by decide +kernel, by decide +kernel, by decide +kernel⟩, (ok6 104 (by decide +kernel) rfl), (sel_at 80 (by decide +kernel) (by decide +kernel)), _, _, rfl⟩
theorem cf_X12_202 : CfV RX12 202 12 yX12_literal mi_X12_literal 0 := ⟨⟨(ok6 121 rfl rfl), (ok1 19 (by decide +kernel) rfl), Or.inl (ok6 118 (by decide +kernel) rfl), by decide +kernel, by decide +kernel, by decide +kernel⟩, (ok6 120 (by decide +kernel) rfl), (sel_at 84 (by decide +kernel) (by decide +kernel)), _, _, rfl⟩
theorem cf_X12_205 : CfV RX12 205 12 yX12_memory mi_X12_memory 4 := ⟨⟨(ok6 129 rfl rfl), (ok1 19 (by decide +kernel) rfl), Or.inl (ok6 126 (by decide +kernel) rfl), by decide +kernel, by decide +kernel, by decide +kernel⟩, (ok6 128 (by decide +kernel) rfl), (sel_at 86 (by decide +kernel) (by decide +kernel)), _, _, rfl⟩
theorem cf_X12_209 : CfV RX12 209 12 yX12_literalFor mi_X12_literalFor 3 := ⟨⟨(ok6 125 rfl rfl), (ok1 19 (by decide +kernel) rfl), Or.inl (ok6 122 (by decide +kernel) rfl), by decide +kernel, by decide +kernel, by decide +kernel⟩, (ok6 124 (by decide +kernel) rfl), (sel_at 85 (by decide +kernel) (by decide +kernel)), _, _, rfl⟩
theorem cf_X12_216 : CfV RX12 216 12 yX12_pass mi_X12_pass 1 := ⟨⟨(ok6 11 rfl rfl), (ok1 19 (by decide +kernel) rfl), Or.inl (ok6 8 (by decide +kernel) rfl), by decide +kernel, by decide +kernel, by decide +kernel⟩, (ok6 10 (by decide +kernel) rfl), (sel_at 61 (by decide +kernel) (by decide +kernel)), _, _, rfl⟩
theorem cf_X12_341 : CfV RX12 341 12 yX12_isUser mi_X12_isUser 1 := ⟨⟨(ok7 158 rfl rfl), (ok1 19 (by decide +kernel) rfl), Or.inl (ok7 155 (by decide +kernel) rfl), by decide +kernel, by decide +kernel, by decide +kernel⟩, (ok7 157 (by decide +kernel) rfl), (sel_at 88 (by decide +kernel) (by decide +kernel)), _, _, rfl⟩
theorem cf_X12_350 : CfV RX12 350 12 yX12_rests mi_X12_rests 1 := ⟨⟨(ok7 154 rfl rfl), (ok1 19 (by decide +kernel) rfl), Or.inl (ok7 151 (by decide +kernel) rfl), by decide +kernel, by decide +kernel, by decide +kernel⟩, (ok7 153 (by decide +kernel) rfl), (sel_at 87 (by decide +kernel) (by decide +kernel)), _, _, rfl⟩
theorem cf_X12_353 : CfV RX12 353 12 yX12_isMoved mi_X12_isMoved 1 := ⟨⟨(ok7 162 rfl rfl), (ok1 19 (by decide +kernel) rfl), Or.inl (ok7 159 (by decide +kernel) rfl), by decide +kernel, by decide +kernel, by decide +kernel⟩, (ok7 161 (by decide +kernel) rfl), (sel_at 89 (by decide +kernel) (by decide +kernel)), _, _, rfl⟩
theorem cf_X12_356 : CfV RX12 356 12 yX12_nobodys mi_X12_nobodys 1 := ⟨⟨(ok7 166 rfl rfl), (ok1 19 (by decide +kernel) rfl), Or.inl (ok7 163 (by decide +kernel) rfl), by decide +kernel, by decide +kernel, by decide +kernel⟩, (ok7 165 (by decide +kernel) rfl), (sel_at 90 (by decide +kernel) (by decide +kernel)), _, _, rfl⟩
theorem cf_X12_359 : CfS RX12 359 yX12_isWord mi_X12_isWord 1 := ⟨⟨(ok7 173 rfl rfl), (ok1 19 (by decide +kernel) rfl), Or.inl (ok7 171 (by decide +kernel) rfl), by decide +kernel, by decide +kernel, by decide +kernel⟩, (ok7 172 (by decide +kernel) rfl)⟩
theorem cf_X12_362 : CfV RX12 362 12 yX12_becomesReady mi_X12_becomesReady 1 := ⟨⟨(ok7 177 rfl rfl), (ok1 19 (by decide +kernel) rfl), Or.inl (ok7 174 (by decide +kernel) rfl), by decide +kernel, by decide +kernel, by decide +kernel⟩, (ok7 176 (by decide +kernel) rfl), (sel_at 91 (by decide +kernel) (by decide +kernel)), _, _, rfl⟩
theorem cf_X12_365 : CfV RX12 365 12 yX12_leavesQueue mi_X12_leavesQueue 1 := ⟨⟨(ok7 185 rfl rfl), (ok1 19 (by decide +kernel) rfl), Or.inl (ok7 182 (by decide +kernel) rfl), by decide +kernel, by decide +kernel, by decide +kernel⟩, (ok7 184 (by decide +kernel) rfl), (sel_at 92 (by decide +kernel) (by decide +kernel)), _, _, rfl⟩
theorem cf_X12_368 : CfV RX12 368 12 yX12_store mi_X12_store 3 := ⟨⟨(ok7 201 rfl rfl), (ok1 19 (by decide +kernel) rfl), Or.inl (ok7 198 (by decide +kernel) rfl), by decide +kernel, by decide +kernel, by decide +kernel⟩, (ok7 200 (by decide +kernel) rfl), (sel_at 93 (by decide +kernel) (by decide +kernel)), _, _, rfl⟩
theorem cf_X12_375 : CfV RX12 375 12 yX12_tick mi_X12_tick 0 := ⟨⟨(ok7 209 rfl rfl), (ok1 19 (by decide +kernel) rfl), Or.inl (ok7 206 (by decide +kernel) rfl), by decide +kernel, by decide +kernel, by decide +kernel⟩, (ok7 208 (by decide +kernel) rfl), (sel_at 94 (by decide +kernel) (by decide +kernel)), _, _, rfl⟩
theorem cf_X12_381 : CfV RX12 381 12 yX12_clocks mi_X12_clocks 1 := ⟨⟨(ok7 213 rfl rfl), (ok1 19 (by decide +kernel) rfl), Or.inl (ok7 210 (by decide +kernel) rfl), by decide +kernel, by decide +kernel, by decide +kernel⟩, (ok7 212 (by decide +kernel) rfl), (sel_at 95 (by decide +kernel) (by decide +kernel)), _, _, rfl⟩
theorem cf_X12_384 : CfV RX12 384 12 yX12_moves mi_X12_moves 0 := ⟨⟨(ok7 217 rfl rfl), (ok1 19 (by decide +kernel) rfl), Or.inl (ok7 214 (by decide +kernel) rfl), by decide +kernel, by decide +kernel, by decide +kernel⟩, (ok7 216 (by decide +kernel) rfl), (sel_at 96 (by decide +kernel) (by decide +kernel)), _, _, rfl⟩
theorem cf_X12_387 : CfV RX12 387 12 yX12_looksFor mi_X12_looksFor 0 := ⟨⟨(ok7 229 rfl rfl), (ok1 19 (by decide +kernel) rfl), Or.inl (ok7 226 (by decide +kernel) rfl), by decide +kernel, by decide +kernel, by decide +kernel⟩, (ok7 228 (by decide +kernel) rfl), (sel_at 99 (by decide +kernel) (by decide +kernel)), _, _, rfl⟩
theorem cf_X12_390 : CfV RX12 390 12 yX12_processes mi_X12_processes 0 := ⟨⟨(ok8 9 rfl rfl), (ok1 19 (by decide +kernel) rfl), Or.inl (ok8 6 (by decide +kernel) rfl), by decide +kernel, by decide +kernel, by decide +kernel⟩, (ok8 8 (by decide +kernel) rfl), (sel_at 104 (by decide +kernel) (by decide +kernel)), _, _, rfl⟩
theorem cf_X12_399 : CfV RX12 399 12 yX12_load mi_X12_load 2 := ⟨⟨(ok7 221 rfl rfl), (ok1 19 (by decide +kernel) rfl), Or.inl (ok7 218 (by decide +kernel) rfl), by decide +kernel, by decide +kernel, by decide +kernel⟩, (ok7 220 (by decide +kernel) rfl), (sel_at 97 (by decide +kernel) (by decide +kernel)), _, _, rfl⟩
theorem cf_X12_402 : CfV RX12 402 12 yX12_ends mi_X12_ends 1 := ⟨⟨(ok7 225 rfl rfl), (ok1 19 (by decide +kernel) rfl), Or.inl (ok7 222 (by decide +kernel) rfl), by decide +kernel, by decide +kernel, by decide +kernel⟩, (ok7 224 (by decide +kernel) rfl), (sel_at 98 (by decide +kernel) (by decide +kernel)), _, _, rfl⟩
theorem cf_X12_417 : CfV RX12 417 12 yX12_queuesTask mi_X12_queuesTask 0 := ⟨⟨(ok7 233 rfl rfl), (ok1 19 (by decide +kernel) rfl), Or.inl (ok7 230 (by decide +kernel) rfl), by decide +kernel, by decide +kernel, by decide +kernel⟩, (ok7 232 (by decide +kernel) rfl), (sel_at 100 (by decide +kernel) (by decide +kernel)), _, _, rfl⟩
theorem cf_X12_420 : CfV RX12 420 12 yX12_blocksTask mi_X12_blocksTask 0 := ⟨⟨(ok8 5 rfl rfl), (ok1 19 (by decide +kernel) rfl), Or.inl (ok8 2 (by decide +kernel) rfl), by decide +kernel, by decide +kernel, by decide +kernel⟩, (ok8 4 (by decide +kernel) rfl), (sel_at 103 (by decide +kernel) (by decide +kernel)), _, _, rfl⟩
theorem cf_X12_423 : CfV RX12 423 12 yX12_starts mi_X12_starts 3 := ⟨⟨(ok8 1 rfl rfl), (ok1 19 (by decide +kernel) rfl), Or.inl (ok7 238 (by decide +kernel) rfl), by decide +kernel, by decide +kernel, by decide +kernel⟩, (ok8 0 (by decide +kernel) rfl), (sel_at 102 (by decide +kernel) (by decide +kernel)), _, _, rfl⟩
theorem cf_X12_426 : CfV RX12 426 12 yX12_given mi_X12_given 0 := ⟨⟨(ok7 237 rfl rfl), (ok1 19 (by decide +kernel) rfl), Or.inl (ok7 234 (by decide +kernel) rfl), by decide +kernel, by decide +kernel, by decide +kernel⟩, (ok7 236 (by decide +kernel) rfl), (sel_at 101 (by decide +kernel) (by decide +kernel)), _, _, rfl⟩
theorem cf_X12_435 : CfV RX12 435 12 yX12_step mi_X12_step 1 := ⟨⟨(ok8 13 rfl rfl), (ok1 19 (by decide +kernel) rfl), Or.inl (ok8 10 (by decide +kernel) rfl), by decide +kernel, by decide +kernel, by decide +kernel⟩, (ok8 12 (by decide +kernel) rfl), (sel_at 105 (by decide +kernel) (by decide +kernel)), _, _, rfl⟩
theorem cf_X12_441 : CfV RX12 441 12 yX12_isWrong mi_X12_isWrong 0 := ⟨⟨(ok8 17 rfl rfl), (ok1 19 (by decide +kernel) rfl), Or.inl (ok8 14 (by decide +kernel) rfl), by decide +kernel, by decide +kernel, by decide +kernel⟩, (ok8 16 (by decide +kernel) rfl), (sel_at 106 (by decide +kernel) (by decide +kernel)), _, _, rfl⟩
theorem cf_X12_444 : CfV RX12 444 12 yX12_mustWait mi_X12_mustWait 1 := ⟨⟨(ok8 21 rfl rfl), (ok1 19 (by decide +kernel) rfl), Or.inl (ok8 18 (by decide +kernel) rfl), by decide +kernel, by decide +kernel, by decide +kernel⟩, (ok8 20 (by decide +kernel) rfl), (sel_at 107 (by decide +kernel) (by decide +kernel)), _, _, rfl⟩
theorem cf_X12_447 : CfV RX12 447 12 yX12_memory_ mi_X12_memory_ 3 := ⟨⟨(ok8 25 rfl rfl), (ok1 19 (by decide +kernel) rfl), Or.inl (ok8 22 (by decide +kernel) rfl), by decide +kernel, by decide +kernel, by decide +kernel⟩, (ok8 24 (by decide +kernel) rfl), (sel_at 108 (by decide +kernel) (by decide +kernel)), _, _, rfl⟩
theorem cf_X12_449 : CfV RX12 449 12 yX12_device mi_X12_device 1 := ⟨⟨(ok8 33 rfl rfl), (ok1 19 (by decide +kernel) rfl), Or.inl (ok8 30 (by decide +kernel) rfl), by decide +kernel, by decide +kernel, by decide +kernel⟩, (ok8 32 (by decide +kernel) rfl), (sel_at 110 (by decide +kernel) (by decide +kernel)), _, _, rfl⟩
theorem cf_X12_452 : CfV RX12 452 12 yX12_first mi_X12_first 1 := ⟨⟨(ok8 41 rfl rfl), (ok1 19 (by decide +kernel) rfl), Or.inl (ok8 38 (by decide +kernel) rfl), by decide +kernel, by decide +kernel, by decide +kernel⟩, (ok8 40 (by decide +kernel) rfl), (sel_at 112 (by decide +kernel) (by decide +kernel)), _, _, rfl⟩
theorem cf_X12_455 : CfV RX12 455 12 yX12_second mi_X12_second 1 := ⟨⟨(ok8 49 rfl rfl), (ok1 19 (by decide +kernel) rfl), Or.inl (ok8 46 (by decide +kernel) rfl), by decide +kernel, by decide +kernel, by decide +kernel⟩, (ok8 48 (by decide +kernel) rfl), (sel_at 114 (by decide +kernel) (by decide +kernel)), _, _, rfl⟩
theorem cf_X12_457 : CfV RX12 457 12 yX12_third mi_X12_third 1 := ⟨⟨(ok8 53 rfl rfl), (ok1 19 (by decide +kernel) rfl), Or.inl (ok8 50 (by decide +kernel) rfl), by decide +kernel, by decide +kernel, by decide +kernel⟩, (ok8 52 (by decide +kernel) rfl), (sel_at 115 (by decide +kernel) (by decide +kernel)), _, _, rfl⟩
theorem cf_X12_460 : CfV RX12 460 12 yX12_skip mi_X12_skip 1 := ⟨⟨(ok8 29 rfl rfl), (ok1 19 (by decide +kernel) rfl), Or.inl (ok8 26 (by decide +kernel) rfl), by decide +kernel, by decide +kernel, by decide +kernel⟩, (ok8 28 (by decide +kernel) rfl), (sel_at 109 (by decide +kernel) (by decide +kernel)), _, _, rfl⟩
theorem cf_X12_463 : CfV RX12 463 12 yX12_has mi_X12_has 1 := ⟨⟨(ok8 45 rfl rfl), (ok1 19 (by decide +kernel) rfl), Or.inl (ok8 42 (by decide +kernel) rfl), by decide +kernel, by decide +kernel, by decide +kernel⟩, (ok8 44 (by decide +kernel) rfl), (sel_at 113 (by decide +kernel) (by decide +kernel)), _, _, rfl⟩
theorem cf_X12_466 : CfV RX12 466 12 yX12_word_ mi_X12_word_ 1 := ⟨⟨(ok8 57 rfl rfl), (ok1 19 (by decide +kernel) rfl), Or.inl (ok8 54 (by decide +kernel) rfl), by decide +kernel, by decide +kernel, by decide +kernel⟩, (ok8 56 (by decide +kernel) rfl), (sel_at 116 (by decide +kernel) (by decide +kernel)), _, _, rfl⟩
theorem cf_X12_469 : CfV RX12 469 12 yX12_goes mi_X12_goes 1 := ⟨⟨(ok8 37 rfl rfl), (ok1 19 (by decide +kernel) rfl), Or.inl (ok8 34 (by decide +kernel) rfl), by decide +kernel, by decide +kernel, by decide +kernel⟩, (ok8 36 (by decide +kernel) rfl), (sel_at 111 (by decide +kernel) (by decide +kernel)), _, _, rfl⟩
theorem gs_X12_138 : Cond.fieldLink RX12 138 "ShareEightModel" "CODES" "[I" ∈ lw_ok := (ok6 92 (by decide +kernel) rfl)
theorem kc_X12_468 : Cond.constant RX12 468 (16777215) ∈ lw_ok := (ok8 58 (by decide +kernel) rfl)
theorem mx_X12_475 : Cond.methodLink RX12 475 Lib.Math.min.name ∈ lw_ok ∧ Cond.static Lib.Math.min.name ∈ lw_ok ∧ Cond.initialized "java/lang/Math" ∈ lw_ok ∧ Cond.code Lib.Math.min.name Lib.Math.min.code 2 (some .int) ∈ lw_ok := ⟨(ok8 91 (by decide +kernel) rfl), (ok1 216 (by decide +kernel) rfl), (ok1 12 (by decide +kernel) rfl), (ok1 217 rfl rfl)⟩
theorem rm_X12_feed_X12_put : Rm mi_X12_feed mi_X12_put 0 0 := ⟨⟨Nat.le_of_ble_eq_true rfl, Nat.le_of_ble_eq_true rfl⟩, Nat.le_of_ble_eq_true rfl, Nat.le_of_ble_eq_true rfl⟩
theorem rm_X12_end_X12_in : Rm mi_X12_end mi_X12_in 0 0 := ⟨⟨Nat.le_of_ble_eq_true rfl, Nat.le_of_ble_eq_true rfl⟩, Nat.le_of_ble_eq_true rfl, Nat.le_of_ble_eq_true rfl⟩
theorem rm_X12_isLetter_X12_in : Rm mi_X12_isLetter mi_X12_in 0 0 := ⟨⟨Nat.le_of_ble_eq_true rfl, Nat.le_of_ble_eq_true rfl⟩, Nat.le_of_ble_eq_true rfl, Nat.le_of_ble_eq_true rfl⟩
theorem rm_X12_isDigit_X12_in : Rm mi_X12_isDigit mi_X12_in 0 0 := ⟨⟨Nat.le_of_ble_eq_true rfl, Nat.le_of_ble_eq_true rfl⟩, Nat.le_of_ble_eq_true rfl, Nat.le_of_ble_eq_true rfl⟩
theorem rm_X12_number_X12_fails : Rm mi_X12_number mi_X12_fails 0 0 := ⟨⟨Nat.le_of_ble_eq_true rfl, Nat.le_of_ble_eq_true rfl⟩, Nat.le_of_ble_eq_true rfl, Nat.le_of_ble_eq_true rfl⟩
theorem rm_X12_look_X12_at : Rm mi_X12_look mi_X12_at 0 0 := ⟨⟨Nat.le_of_ble_eq_true rfl, Nat.le_of_ble_eq_true rfl⟩, Nat.le_of_ble_eq_true rfl, Nat.le_of_ble_eq_true rfl⟩
theorem rm_X12_look_X12_fails : Rm mi_X12_look mi_X12_fails 0 0 := ⟨⟨Nat.le_of_ble_eq_true rfl, Nat.le_of_ble_eq_true rfl⟩, Nat.le_of_ble_eq_true rfl, Nat.le_of_ble_eq_true rfl⟩
theorem rm_X12_look_X12_in : Rm mi_X12_look mi_X12_in 0 0 := ⟨⟨Nat.le_of_ble_eq_true rfl, Nat.le_of_ble_eq_true rfl⟩, Nat.le_of_ble_eq_true rfl, Nat.le_of_ble_eq_true rfl⟩
theorem rm_X12_look_X12_isDigit : Rm mi_X12_look mi_X12_isDigit 0 0 := ⟨⟨Nat.le_of_ble_eq_true rfl, Nat.le_of_ble_eq_true rfl⟩, Nat.le_of_ble_eq_true rfl, Nat.le_of_ble_eq_true rfl⟩
theorem rm_X12_look_X12_isLetter : Rm mi_X12_look mi_X12_isLetter 0 0 := ⟨⟨Nat.le_of_ble_eq_true rfl, Nat.le_of_ble_eq_true rfl⟩, Nat.le_of_ble_eq_true rfl, Nat.le_of_ble_eq_true rfl⟩
theorem rm_X12_look_X12_number : Rm mi_X12_look mi_X12_number 0 0 := ⟨⟨Nat.le_of_ble_eq_true rfl, Nat.le_of_ble_eq_true rfl⟩, Nat.le_of_ble_eq_true rfl, Nat.le_of_ble_eq_true rfl⟩
theorem rm_X12_look_J0_indexOf_0f7a4 : Rm mi_X12_look mi_J0_indexOf_0f7a4 0 0 := ⟨⟨Nat.le_of_ble_eq_true rfl, Nat.le_of_ble_eq_true rfl⟩, Nat.le_of_ble_eq_true rfl, Nat.le_of_ble_eq_true rfl⟩
theorem rm_X12_take_X12_look : Rm mi_X12_take mi_X12_look 0 0 := ⟨⟨Nat.le_of_ble_eq_true rfl, Nat.le_of_ble_eq_true rfl⟩, Nat.le_of_ble_eq_true rfl, Nat.le_of_ble_eq_true rfl⟩
theorem rm_X12_find_J0_charAt_5068e : Rm mi_X12_find mi_J0_charAt_5068e 0 0 := ⟨⟨Nat.le_of_ble_eq_true rfl, Nat.le_of_ble_eq_true rfl⟩, Nat.le_of_ble_eq_true rfl, Nat.le_of_ble_eq_true rfl⟩
theorem rm_X12_find_J0_indexOf_7cf53 : Rm mi_X12_find mi_J0_indexOf_7cf53 0 0 := ⟨⟨Nat.le_of_ble_eq_true rfl, Nat.le_of_ble_eq_true rfl⟩, Nat.le_of_ble_eq_true rfl, Nat.le_of_ble_eq_true rfl⟩
theorem rm_X12_find_J0_length_8abf5 : Rm mi_X12_find mi_J0_length_8abf5 0 0 := ⟨⟨Nat.le_of_ble_eq_true rfl, Nat.le_of_ble_eq_true rfl⟩, Nat.le_of_ble_eq_true rfl, Nat.le_of_ble_eq_true rfl⟩
theorem rm_X12_tells_X12_fails : Rm mi_X12_tells mi_X12_fails 0 0 := ⟨⟨Nat.le_of_ble_eq_true rfl, Nat.le_of_ble_eq_true rfl⟩, Nat.le_of_ble_eq_true rfl, Nat.le_of_ble_eq_true rfl⟩
theorem rm_X12_tells_X12_find : Rm mi_X12_tells mi_X12_find 0 0 := ⟨⟨Nat.le_of_ble_eq_true rfl, Nat.le_of_ble_eq_true rfl⟩, Nat.le_of_ble_eq_true rfl, Nat.le_of_ble_eq_true rfl⟩
theorem rm_X12_tells_X12_findTold : Rm mi_X12_tells mi_X12_findTold 0 0 := ⟨⟨Nat.le_of_ble_eq_true rfl, Nat.le_of_ble_eq_true rfl⟩, Nat.le_of_ble_eq_true rfl, Nat.le_of_ble_eq_true rfl⟩
theorem rm_X12_labels_X12_isNext : Rm mi_X12_labels mi_X12_isNext 0 0 := ⟨⟨Nat.le_of_ble_eq_true rfl, Nat.le_of_ble_eq_true rfl⟩, Nat.le_of_ble_eq_true rfl, Nat.le_of_ble_eq_true rfl⟩
theorem rm_X12_labels_X12_take : Rm mi_X12_labels mi_X12_take 0 0 := ⟨⟨Nat.le_of_ble_eq_true rfl, Nat.le_of_ble_eq_true rfl⟩, Nat.le_of_ble_eq_true rfl, Nat.le_of_ble_eq_true rfl⟩
theorem rm_X12_labels_X12_tells : Rm mi_X12_labels mi_X12_tells 0 0 := ⟨⟨Nat.le_of_ble_eq_true rfl, Nat.le_of_ble_eq_true rfl⟩, Nat.le_of_ble_eq_true rfl, Nat.le_of_ble_eq_true rfl⟩
theorem rm_X12_named_X12_fails : Rm mi_X12_named mi_X12_fails 0 0 := ⟨⟨Nat.le_of_ble_eq_true rfl, Nat.le_of_ble_eq_true rfl⟩, Nat.le_of_ble_eq_true rfl, Nat.le_of_ble_eq_true rfl⟩
theorem rm_X12_named_X12_find : Rm mi_X12_named mi_X12_find 0 0 := ⟨⟨Nat.le_of_ble_eq_true rfl, Nat.le_of_ble_eq_true rfl⟩, Nat.le_of_ble_eq_true rfl, Nat.le_of_ble_eq_true rfl⟩
theorem rm_X12_named_X12_findTold : Rm mi_X12_named mi_X12_findTold 0 0 := ⟨⟨Nat.le_of_ble_eq_true rfl, Nat.le_of_ble_eq_true rfl⟩, Nat.le_of_ble_eq_true rfl, Nat.le_of_ble_eq_true rfl⟩
theorem rm_X12_part_X12_fails : Rm mi_X12_part mi_X12_fails 0 0 := ⟨⟨Nat.le_of_ble_eq_true rfl, Nat.le_of_ble_eq_true rfl⟩, Nat.le_of_ble_eq_true rfl, Nat.le_of_ble_eq_true rfl⟩
theorem rm_X12_part_X12_find : Rm mi_X12_part mi_X12_find 0 0 := ⟨⟨Nat.le_of_ble_eq_true rfl, Nat.le_of_ble_eq_true rfl⟩, Nat.le_of_ble_eq_true rfl, Nat.le_of_ble_eq_true rfl⟩
theorem rm_X12_part_X12_isSign : Rm mi_X12_part mi_X12_isSign 0 0 := ⟨⟨Nat.le_of_ble_eq_true rfl, Nat.le_of_ble_eq_true rfl⟩, Nat.le_of_ble_eq_true rfl, Nat.le_of_ble_eq_true rfl⟩
theorem rm_X12_part_X12_named : Rm mi_X12_part mi_X12_named 0 0 := ⟨⟨Nat.le_of_ble_eq_true rfl, Nat.le_of_ble_eq_true rfl⟩, Nat.le_of_ble_eq_true rfl, Nat.le_of_ble_eq_true rfl⟩
theorem rm_X12_part_X12_take : Rm mi_X12_part mi_X12_take 0 0 := ⟨⟨Nat.le_of_ble_eq_true rfl, Nat.le_of_ble_eq_true rfl⟩, Nat.le_of_ble_eq_true rfl, Nat.le_of_ble_eq_true rfl⟩
theorem rm_X12_all_X12_isSign : Rm mi_X12_all mi_X12_isSign 0 0 := ⟨⟨Nat.le_of_ble_eq_true rfl, Nat.le_of_ble_eq_true rfl⟩, Nat.le_of_ble_eq_true rfl, Nat.le_of_ble_eq_true rfl⟩
theorem rm_X12_all_X12_part : Rm mi_X12_all mi_X12_part 0 0 := ⟨⟨Nat.le_of_ble_eq_true rfl, Nat.le_of_ble_eq_true rfl⟩, Nat.le_of_ble_eq_true rfl, Nat.le_of_ble_eq_true rfl⟩
theorem rm_X12_all_X12_take : Rm mi_X12_all mi_X12_take 0 0 := ⟨⟨Nat.le_of_ble_eq_true rfl, Nat.le_of_ble_eq_true rfl⟩, Nat.le_of_ble_eq_true rfl, Nat.le_of_ble_eq_true rfl⟩
theorem rm_X12_asked_X12_all : Rm mi_X12_asked mi_X12_all 0 0 := ⟨⟨Nat.le_of_ble_eq_true rfl, Nat.le_of_ble_eq_true rfl⟩, Nat.le_of_ble_eq_true rfl, Nat.le_of_ble_eq_true rfl⟩
theorem rm_X12_lies_X12_fails : Rm mi_X12_lies mi_X12_fails 0 0 := ⟨⟨Nat.le_of_ble_eq_true rfl, Nat.le_of_ble_eq_true rfl⟩, Nat.le_of_ble_eq_true rfl, Nat.le_of_ble_eq_true rfl⟩
theorem rm_X12_texts_X12_fails : Rm mi_X12_texts mi_X12_fails 0 0 := ⟨⟨Nat.le_of_ble_eq_true rfl, Nat.le_of_ble_eq_true rfl⟩, Nat.le_of_ble_eq_true rfl, Nat.le_of_ble_eq_true rfl⟩
theorem rm_X12_texts_X12_in : Rm mi_X12_texts mi_X12_in 0 0 := ⟨⟨Nat.le_of_ble_eq_true rfl, Nat.le_of_ble_eq_true rfl⟩, Nat.le_of_ble_eq_true rfl, Nat.le_of_ble_eq_true rfl⟩
theorem rm_X12_texts_X12_lies : Rm mi_X12_texts mi_X12_lies 0 0 := ⟨⟨Nat.le_of_ble_eq_true rfl, Nat.le_of_ble_eq_true rfl⟩, Nat.le_of_ble_eq_true rfl, Nat.le_of_ble_eq_true rfl⟩
theorem rm_X12_texts_X12_look : Rm mi_X12_texts mi_X12_look 0 0 := ⟨⟨Nat.le_of_ble_eq_true rfl, Nat.le_of_ble_eq_true rfl⟩, Nat.le_of_ble_eq_true rfl, Nat.le_of_ble_eq_true rfl⟩
theorem rm_X12_again_X12_look : Rm mi_X12_again mi_X12_look 0 0 := ⟨⟨Nat.le_of_ble_eq_true rfl, Nat.le_of_ble_eq_true rfl⟩, Nat.le_of_ble_eq_true rfl, Nat.le_of_ble_eq_true rfl⟩
theorem rm_X12_beginsV_X12_find : Rm mi_X12_beginsV mi_X12_find 0 0 := ⟨⟨Nat.le_of_ble_eq_true rfl, Nat.le_of_ble_eq_true rfl⟩, Nat.le_of_ble_eq_true rfl, Nat.le_of_ble_eq_true rfl⟩
theorem rm_X12_told_X12_again : Rm mi_X12_told mi_X12_again 0 0 := ⟨⟨Nat.le_of_ble_eq_true rfl, Nat.le_of_ble_eq_true rfl⟩, Nat.le_of_ble_eq_true rfl, Nat.le_of_ble_eq_true rfl⟩
theorem rm_X12_told_X12_asked : Rm mi_X12_told mi_X12_asked 0 0 := ⟨⟨Nat.le_of_ble_eq_true rfl, Nat.le_of_ble_eq_true rfl⟩, Nat.le_of_ble_eq_true rfl, Nat.le_of_ble_eq_true rfl⟩
theorem rm_X12_told_X12_beginsV : Rm mi_X12_told mi_X12_beginsV 0 0 := ⟨⟨Nat.le_of_ble_eq_true rfl, Nat.le_of_ble_eq_true rfl⟩, Nat.le_of_ble_eq_true rfl, Nat.le_of_ble_eq_true rfl⟩
theorem rm_X12_told_X12_fails : Rm mi_X12_told mi_X12_fails 0 0 := ⟨⟨Nat.le_of_ble_eq_true rfl, Nat.le_of_ble_eq_true rfl⟩, Nat.le_of_ble_eq_true rfl, Nat.le_of_ble_eq_true rfl⟩
theorem rm_X12_told_X12_lies : Rm mi_X12_told mi_X12_lies 0 0 := ⟨⟨Nat.le_of_ble_eq_true rfl, Nat.le_of_ble_eq_true rfl⟩, Nat.le_of_ble_eq_true rfl, Nat.le_of_ble_eq_true rfl⟩
theorem rm_X12_told_X12_take : Rm mi_X12_told mi_X12_take 0 0 := ⟨⟨Nat.le_of_ble_eq_true rfl, Nat.le_of_ble_eq_true rfl⟩, Nat.le_of_ble_eq_true rfl, Nat.le_of_ble_eq_true rfl⟩
theorem rm_X12_told_X12_texts : Rm mi_X12_told mi_X12_texts 0 0 := ⟨⟨Nat.le_of_ble_eq_true rfl, Nat.le_of_ble_eq_true rfl⟩, Nat.le_of_ble_eq_true rfl, Nat.le_of_ble_eq_true rfl⟩
theorem rm_X12_literalFor_X12_fails : Rm mi_X12_literalFor mi_X12_fails 0 0 := ⟨⟨Nat.le_of_ble_eq_true rfl, Nat.le_of_ble_eq_true rfl⟩, Nat.le_of_ble_eq_true rfl, Nat.le_of_ble_eq_true rfl⟩
theorem rm_X12_literal_X12_all : Rm mi_X12_literal mi_X12_all 0 0 := ⟨⟨Nat.le_of_ble_eq_true rfl, Nat.le_of_ble_eq_true rfl⟩, Nat.le_of_ble_eq_true rfl, Nat.le_of_ble_eq_true rfl⟩
theorem rm_X12_literal_X12_isSign : Rm mi_X12_literal mi_X12_isSign 0 0 := ⟨⟨Nat.le_of_ble_eq_true rfl, Nat.le_of_ble_eq_true rfl⟩, Nat.le_of_ble_eq_true rfl, Nat.le_of_ble_eq_true rfl⟩
theorem rm_X12_literal_X12_literalFor : Rm mi_X12_literal mi_X12_literalFor 0 0 := ⟨⟨Nat.le_of_ble_eq_true rfl, Nat.le_of_ble_eq_true rfl⟩, Nat.le_of_ble_eq_true rfl, Nat.le_of_ble_eq_true rfl⟩
theorem rm_X12_literal_X12_take : Rm mi_X12_literal mi_X12_take 0 0 := ⟨⟨Nat.le_of_ble_eq_true rfl, Nat.le_of_ble_eq_true rfl⟩, Nat.le_of_ble_eq_true rfl, Nat.le_of_ble_eq_true rfl⟩
theorem rm_X12_memory_X12_fails : Rm mi_X12_memory mi_X12_fails 0 0 := ⟨⟨Nat.le_of_ble_eq_true rfl, Nat.le_of_ble_eq_true rfl⟩, Nat.le_of_ble_eq_true rfl, Nat.le_of_ble_eq_true rfl⟩
theorem rm_X12_memory_X12_literalFor : Rm mi_X12_memory mi_X12_literalFor 0 0 := ⟨⟨Nat.le_of_ble_eq_true rfl, Nat.le_of_ble_eq_true rfl⟩, Nat.le_of_ble_eq_true rfl, Nat.le_of_ble_eq_true rfl⟩
theorem rm_X12_word_X12_all : Rm mi_X12_word mi_X12_all 0 0 := ⟨⟨Nat.le_of_ble_eq_true rfl, Nat.le_of_ble_eq_true rfl⟩, Nat.le_of_ble_eq_true rfl, Nat.le_of_ble_eq_true rfl⟩
theorem rm_X12_word_X12_beginsV : Rm mi_X12_word mi_X12_beginsV 0 0 := ⟨⟨Nat.le_of_ble_eq_true rfl, Nat.le_of_ble_eq_true rfl⟩, Nat.le_of_ble_eq_true rfl, Nat.le_of_ble_eq_true rfl⟩
theorem rm_X12_word_X12_fails : Rm mi_X12_word mi_X12_fails 0 0 := ⟨⟨Nat.le_of_ble_eq_true rfl, Nat.le_of_ble_eq_true rfl⟩, Nat.le_of_ble_eq_true rfl, Nat.le_of_ble_eq_true rfl⟩
theorem rm_X12_word_X12_in : Rm mi_X12_word mi_X12_in 0 0 := ⟨⟨Nat.le_of_ble_eq_true rfl, Nat.le_of_ble_eq_true rfl⟩, Nat.le_of_ble_eq_true rfl, Nat.le_of_ble_eq_true rfl⟩
theorem rm_X12_word_X12_isSign : Rm mi_X12_word mi_X12_isSign 0 0 := ⟨⟨Nat.le_of_ble_eq_true rfl, Nat.le_of_ble_eq_true rfl⟩, Nat.le_of_ble_eq_true rfl, Nat.le_of_ble_eq_true rfl⟩
theorem rm_X12_word_X12_lies : Rm mi_X12_word mi_X12_lies 0 0 := ⟨⟨Nat.le_of_ble_eq_true rfl, Nat.le_of_ble_eq_true rfl⟩, Nat.le_of_ble_eq_true rfl, Nat.le_of_ble_eq_true rfl⟩
theorem rm_X12_word_X12_literal : Rm mi_X12_word mi_X12_literal 0 0 := ⟨⟨Nat.le_of_ble_eq_true rfl, Nat.le_of_ble_eq_true rfl⟩, Nat.le_of_ble_eq_true rfl, Nat.le_of_ble_eq_true rfl⟩
theorem rm_X12_word_X12_memory : Rm mi_X12_word mi_X12_memory 0 0 := ⟨⟨Nat.le_of_ble_eq_true rfl, Nat.le_of_ble_eq_true rfl⟩, Nat.le_of_ble_eq_true rfl, Nat.le_of_ble_eq_true rfl⟩
theorem rm_X12_one_X12_asked : Rm mi_X12_one mi_X12_asked 0 0 := ⟨⟨Nat.le_of_ble_eq_true rfl, Nat.le_of_ble_eq_true rfl⟩, Nat.le_of_ble_eq_true rfl, Nat.le_of_ble_eq_true rfl⟩
theorem rm_X12_one_X12_find : Rm mi_X12_one mi_X12_find 0 0 := ⟨⟨Nat.le_of_ble_eq_true rfl, Nat.le_of_ble_eq_true rfl⟩, Nat.le_of_ble_eq_true rfl, Nat.le_of_ble_eq_true rfl⟩
theorem rm_X12_one_X12_findTold : Rm mi_X12_one mi_X12_findTold 0 0 := ⟨⟨Nat.le_of_ble_eq_true rfl, Nat.le_of_ble_eq_true rfl⟩, Nat.le_of_ble_eq_true rfl, Nat.le_of_ble_eq_true rfl⟩
theorem rm_X12_one_X12_isNext : Rm mi_X12_one mi_X12_isNext 0 0 := ⟨⟨Nat.le_of_ble_eq_true rfl, Nat.le_of_ble_eq_true rfl⟩, Nat.le_of_ble_eq_true rfl, Nat.le_of_ble_eq_true rfl⟩
theorem rm_X12_one_X12_isSign : Rm mi_X12_one mi_X12_isSign 0 0 := ⟨⟨Nat.le_of_ble_eq_true rfl, Nat.le_of_ble_eq_true rfl⟩, Nat.le_of_ble_eq_true rfl, Nat.le_of_ble_eq_true rfl⟩
theorem rm_X12_one_X12_take : Rm mi_X12_one mi_X12_take 0 0 := ⟨⟨Nat.le_of_ble_eq_true rfl, Nat.le_of_ble_eq_true rfl⟩, Nat.le_of_ble_eq_true rfl, Nat.le_of_ble_eq_true rfl⟩
theorem rm_X12_one_X12_tells : Rm mi_X12_one mi_X12_tells 0 0 := ⟨⟨Nat.le_of_ble_eq_true rfl, Nat.le_of_ble_eq_true rfl⟩, Nat.le_of_ble_eq_true rfl, Nat.le_of_ble_eq_true rfl⟩
theorem rm_X12_one_X12_told : Rm mi_X12_one mi_X12_told 0 0 := ⟨⟨Nat.le_of_ble_eq_true rfl, Nat.le_of_ble_eq_true rfl⟩, Nat.le_of_ble_eq_true rfl, Nat.le_of_ble_eq_true rfl⟩
theorem rm_X12_one_X12_word : Rm mi_X12_one mi_X12_word 0 0 := ⟨⟨Nat.le_of_ble_eq_true rfl, Nat.le_of_ble_eq_true rfl⟩, Nat.le_of_ble_eq_true rfl, Nat.le_of_ble_eq_true rfl⟩
theorem rm_X12_line_X12_fails : Rm mi_X12_line mi_X12_fails 0 0 := ⟨⟨Nat.le_of_ble_eq_true rfl, Nat.le_of_ble_eq_true rfl⟩, Nat.le_of_ble_eq_true rfl, Nat.le_of_ble_eq_true rfl⟩
theorem rm_X12_line_X12_isSign : Rm mi_X12_line mi_X12_isSign 0 0 := ⟨⟨Nat.le_of_ble_eq_true rfl, Nat.le_of_ble_eq_true rfl⟩, Nat.le_of_ble_eq_true rfl, Nat.le_of_ble_eq_true rfl⟩
theorem rm_X12_line_X12_labels : Rm mi_X12_line mi_X12_labels 0 0 := ⟨⟨Nat.le_of_ble_eq_true rfl, Nat.le_of_ble_eq_true rfl⟩, Nat.le_of_ble_eq_true rfl, Nat.le_of_ble_eq_true rfl⟩
theorem rm_X12_line_X12_look : Rm mi_X12_line mi_X12_look 0 0 := ⟨⟨Nat.le_of_ble_eq_true rfl, Nat.le_of_ble_eq_true rfl⟩, Nat.le_of_ble_eq_true rfl, Nat.le_of_ble_eq_true rfl⟩
theorem rm_X12_line_X12_one : Rm mi_X12_line mi_X12_one 0 0 := ⟨⟨Nat.le_of_ble_eq_true rfl, Nat.le_of_ble_eq_true rfl⟩, Nat.le_of_ble_eq_true rfl, Nat.le_of_ble_eq_true rfl⟩
theorem rm_X12_line_X12_take : Rm mi_X12_line mi_X12_take 0 0 := ⟨⟨Nat.le_of_ble_eq_true rfl, Nat.le_of_ble_eq_true rfl⟩, Nat.le_of_ble_eq_true rfl, Nat.le_of_ble_eq_true rfl⟩
theorem rm_X12_pass_X12_line : Rm mi_X12_pass mi_X12_line 0 0 := ⟨⟨Nat.le_of_ble_eq_true rfl, Nat.le_of_ble_eq_true rfl⟩, Nat.le_of_ble_eq_true rfl, Nat.le_of_ble_eq_true rfl⟩
theorem rm_X12_assemble_X12_pass : Rm mi_X12_assemble mi_X12_pass 0 0 := ⟨⟨Nat.le_of_ble_eq_true rfl, Nat.le_of_ble_eq_true rfl⟩, Nat.le_of_ble_eq_true rfl, Nat.le_of_ble_eq_true rfl⟩
theorem rm_X12_made_X12_in : Rm mi_X12_made mi_X12_in 0 0 := ⟨⟨Nat.le_of_ble_eq_true rfl, Nat.le_of_ble_eq_true rfl⟩, Nat.le_of_ble_eq_true rfl, Nat.le_of_ble_eq_true rfl⟩
theorem rm_X12_isUser_X12_in : Rm mi_X12_isUser mi_X12_in 0 0 := ⟨⟨Nat.le_of_ble_eq_true rfl, Nat.le_of_ble_eq_true rfl⟩, Nat.le_of_ble_eq_true rfl, Nat.le_of_ble_eq_true rfl⟩
theorem rm_X12_rests_X12_isUser : Rm mi_X12_rests mi_X12_isUser 0 0 := ⟨⟨Nat.le_of_ble_eq_true rfl, Nat.le_of_ble_eq_true rfl⟩, Nat.le_of_ble_eq_true rfl, Nat.le_of_ble_eq_true rfl⟩
theorem rm_X12_mount_X12_isMoved : Rm mi_X12_mount mi_X12_isMoved 0 0 := ⟨⟨Nat.le_of_ble_eq_true rfl, Nat.le_of_ble_eq_true rfl⟩, Nat.le_of_ble_eq_true rfl, Nat.le_of_ble_eq_true rfl⟩
theorem rm_X12_mount_X12_nobodys : Rm mi_X12_mount mi_X12_nobodys 0 0 := ⟨⟨Nat.le_of_ble_eq_true rfl, Nat.le_of_ble_eq_true rfl⟩, Nat.le_of_ble_eq_true rfl, Nat.le_of_ble_eq_true rfl⟩
theorem rm_X12_mount_X12_rests : Rm mi_X12_mount mi_X12_rests 0 0 := ⟨⟨Nat.le_of_ble_eq_true rfl, Nat.le_of_ble_eq_true rfl⟩, Nat.le_of_ble_eq_true rfl, Nat.le_of_ble_eq_true rfl⟩
theorem rm_X12_isWord_X12_in : Rm mi_X12_isWord mi_X12_in 0 0 := ⟨⟨Nat.le_of_ble_eq_true rfl, Nat.le_of_ble_eq_true rfl⟩, Nat.le_of_ble_eq_true rfl, Nat.le_of_ble_eq_true rfl⟩
theorem rm_X12_begin_X12_becomesReady : Rm mi_X12_begin mi_X12_becomesReady 0 0 := ⟨⟨Nat.le_of_ble_eq_true rfl, Nat.le_of_ble_eq_true rfl⟩, Nat.le_of_ble_eq_true rfl, Nat.le_of_ble_eq_true rfl⟩
theorem rm_X12_begin_X12_isWord : Rm mi_X12_begin mi_X12_isWord 0 0 := ⟨⟨Nat.le_of_ble_eq_true rfl, Nat.le_of_ble_eq_true rfl⟩, Nat.le_of_ble_eq_true rfl, Nat.le_of_ble_eq_true rfl⟩
theorem rm_X12_begin_X12_rests : Rm mi_X12_begin mi_X12_rests 0 0 := ⟨⟨Nat.le_of_ble_eq_true rfl, Nat.le_of_ble_eq_true rfl⟩, Nat.le_of_ble_eq_true rfl, Nat.le_of_ble_eq_true rfl⟩
theorem rm_X12_halt_X12_in : Rm mi_X12_halt mi_X12_in 0 0 := ⟨⟨Nat.le_of_ble_eq_true rfl, Nat.le_of_ble_eq_true rfl⟩, Nat.le_of_ble_eq_true rfl, Nat.le_of_ble_eq_true rfl⟩
theorem rm_X12_halt_X12_isUser : Rm mi_X12_halt mi_X12_isUser 0 0 := ⟨⟨Nat.le_of_ble_eq_true rfl, Nat.le_of_ble_eq_true rfl⟩, Nat.le_of_ble_eq_true rfl, Nat.le_of_ble_eq_true rfl⟩
theorem rm_X12_halt_X12_leavesQueue : Rm mi_X12_halt mi_X12_leavesQueue 0 0 := ⟨⟨Nat.le_of_ble_eq_true rfl, Nat.le_of_ble_eq_true rfl⟩, Nat.le_of_ble_eq_true rfl, Nat.le_of_ble_eq_true rfl⟩
theorem rm_X12_key_X12_becomesReady : Rm mi_X12_key mi_X12_becomesReady 0 0 := ⟨⟨Nat.le_of_ble_eq_true rfl, Nat.le_of_ble_eq_true rfl⟩, Nat.le_of_ble_eq_true rfl, Nat.le_of_ble_eq_true rfl⟩
theorem rm_X12_key_X12_in : Rm mi_X12_key mi_X12_in 0 0 := ⟨⟨Nat.le_of_ble_eq_true rfl, Nat.le_of_ble_eq_true rfl⟩, Nat.le_of_ble_eq_true rfl, Nat.le_of_ble_eq_true rfl⟩
theorem rm_X12_key_X12_isUser : Rm mi_X12_key mi_X12_isUser 0 0 := ⟨⟨Nat.le_of_ble_eq_true rfl, Nat.le_of_ble_eq_true rfl⟩, Nat.le_of_ble_eq_true rfl, Nat.le_of_ble_eq_true rfl⟩
theorem rm_X12_set_X12_isUser : Rm mi_X12_set mi_X12_isUser 0 0 := ⟨⟨Nat.le_of_ble_eq_true rfl, Nat.le_of_ble_eq_true rfl⟩, Nat.le_of_ble_eq_true rfl, Nat.le_of_ble_eq_true rfl⟩
theorem rm_X12_set_X12_isWord : Rm mi_X12_set mi_X12_isWord 0 0 := ⟨⟨Nat.le_of_ble_eq_true rfl, Nat.le_of_ble_eq_true rfl⟩, Nat.le_of_ble_eq_true rfl, Nat.le_of_ble_eq_true rfl⟩
theorem rm_X12_deposit_X12_isMoved : Rm mi_X12_deposit mi_X12_isMoved 0 0 := ⟨⟨Nat.le_of_ble_eq_true rfl, Nat.le_of_ble_eq_true rfl⟩, Nat.le_of_ble_eq_true rfl, Nat.le_of_ble_eq_true rfl⟩
theorem rm_X12_deposit_X12_isWord : Rm mi_X12_deposit mi_X12_isWord 0 0 := ⟨⟨Nat.le_of_ble_eq_true rfl, Nat.le_of_ble_eq_true rfl⟩, Nat.le_of_ble_eq_true rfl, Nat.le_of_ble_eq_true rfl⟩
theorem rm_X12_deposit_X12_rests : Rm mi_X12_deposit mi_X12_rests 0 0 := ⟨⟨Nat.le_of_ble_eq_true rfl, Nat.le_of_ble_eq_true rfl⟩, Nat.le_of_ble_eq_true rfl, Nat.le_of_ble_eq_true rfl⟩
theorem rm_X12_deposit_X12_store : Rm mi_X12_deposit mi_X12_store 0 0 := ⟨⟨Nat.le_of_ble_eq_true rfl, Nat.le_of_ble_eq_true rfl⟩, Nat.le_of_ble_eq_true rfl, Nat.le_of_ble_eq_true rfl⟩
theorem rm_X12_clocks_X12_becomesReady : Rm mi_X12_clocks mi_X12_becomesReady 0 0 := ⟨⟨Nat.le_of_ble_eq_true rfl, Nat.le_of_ble_eq_true rfl⟩, Nat.le_of_ble_eq_true rfl, Nat.le_of_ble_eq_true rfl⟩
theorem rm_X12_ends_X12_becomesReady : Rm mi_X12_ends mi_X12_becomesReady 0 0 := ⟨⟨Nat.le_of_ble_eq_true rfl, Nat.le_of_ble_eq_true rfl⟩, Nat.le_of_ble_eq_true rfl, Nat.le_of_ble_eq_true rfl⟩
theorem rm_X12_ends_X12_nobodys : Rm mi_X12_ends mi_X12_nobodys 0 0 := ⟨⟨Nat.le_of_ble_eq_true rfl, Nat.le_of_ble_eq_true rfl⟩, Nat.le_of_ble_eq_true rfl, Nat.le_of_ble_eq_true rfl⟩
theorem rm_X12_moves_X12_ends : Rm mi_X12_moves mi_X12_ends 0 0 := ⟨⟨Nat.le_of_ble_eq_true rfl, Nat.le_of_ble_eq_true rfl⟩, Nat.le_of_ble_eq_true rfl, Nat.le_of_ble_eq_true rfl⟩
theorem rm_X12_moves_X12_load : Rm mi_X12_moves mi_X12_load 0 0 := ⟨⟨Nat.le_of_ble_eq_true rfl, Nat.le_of_ble_eq_true rfl⟩, Nat.le_of_ble_eq_true rfl, Nat.le_of_ble_eq_true rfl⟩
theorem rm_X12_moves_X12_store : Rm mi_X12_moves mi_X12_store 0 0 := ⟨⟨Nat.le_of_ble_eq_true rfl, Nat.le_of_ble_eq_true rfl⟩, Nat.le_of_ble_eq_true rfl, Nat.le_of_ble_eq_true rfl⟩
theorem rm_X12_queuesTask_X12_given : Rm mi_X12_queuesTask mi_X12_given 0 0 := ⟨⟨Nat.le_of_ble_eq_true rfl, Nat.le_of_ble_eq_true rfl⟩, Nat.le_of_ble_eq_true rfl, Nat.le_of_ble_eq_true rfl⟩
theorem rm_X12_queuesTask_X12_nobodys : Rm mi_X12_queuesTask mi_X12_nobodys 0 0 := ⟨⟨Nat.le_of_ble_eq_true rfl, Nat.le_of_ble_eq_true rfl⟩, Nat.le_of_ble_eq_true rfl, Nat.le_of_ble_eq_true rfl⟩
theorem rm_X12_queuesTask_X12_starts : Rm mi_X12_queuesTask mi_X12_starts 0 0 := ⟨⟨Nat.le_of_ble_eq_true rfl, Nat.le_of_ble_eq_true rfl⟩, Nat.le_of_ble_eq_true rfl, Nat.le_of_ble_eq_true rfl⟩
theorem rm_X12_blocksTask_X12_starts : Rm mi_X12_blocksTask mi_X12_starts 0 0 := ⟨⟨Nat.le_of_ble_eq_true rfl, Nat.le_of_ble_eq_true rfl⟩, Nat.le_of_ble_eq_true rfl, Nat.le_of_ble_eq_true rfl⟩
theorem rm_X12_looksFor_X12_blocksTask : Rm mi_X12_looksFor mi_X12_blocksTask 0 0 := ⟨⟨Nat.le_of_ble_eq_true rfl, Nat.le_of_ble_eq_true rfl⟩, Nat.le_of_ble_eq_true rfl, Nat.le_of_ble_eq_true rfl⟩
theorem rm_X12_looksFor_X12_queuesTask : Rm mi_X12_looksFor mi_X12_queuesTask 0 0 := ⟨⟨Nat.le_of_ble_eq_true rfl, Nat.le_of_ble_eq_true rfl⟩, Nat.le_of_ble_eq_true rfl, Nat.le_of_ble_eq_true rfl⟩
theorem rm_X12_memory__X12_in : Rm mi_X12_memory_ mi_X12_in 0 0 := ⟨⟨Nat.le_of_ble_eq_true rfl, Nat.le_of_ble_eq_true rfl⟩, Nat.le_of_ble_eq_true rfl, Nat.le_of_ble_eq_true rfl⟩
theorem rm_X12_memory__X12_load : Rm mi_X12_memory_ mi_X12_load 0 0 := ⟨⟨Nat.le_of_ble_eq_true rfl, Nat.le_of_ble_eq_true rfl⟩, Nat.le_of_ble_eq_true rfl, Nat.le_of_ble_eq_true rfl⟩
theorem rm_X12_memory__X12_skip : Rm mi_X12_memory_ mi_X12_skip 0 0 := ⟨⟨Nat.le_of_ble_eq_true rfl, Nat.le_of_ble_eq_true rfl⟩, Nat.le_of_ble_eq_true rfl, Nat.le_of_ble_eq_true rfl⟩
theorem rm_X12_memory__X12_store : Rm mi_X12_memory_ mi_X12_store 0 0 := ⟨⟨Nat.le_of_ble_eq_true rfl, Nat.le_of_ble_eq_true rfl⟩, Nat.le_of_ble_eq_true rfl, Nat.le_of_ble_eq_true rfl⟩
theorem rm_X12_device_X12_goes : Rm mi_X12_device mi_X12_goes 0 0 := ⟨⟨Nat.le_of_ble_eq_true rfl, Nat.le_of_ble_eq_true rfl⟩, Nat.le_of_ble_eq_true rfl, Nat.le_of_ble_eq_true rfl⟩
theorem rm_X12_device_X12_skip : Rm mi_X12_device mi_X12_skip 0 0 := ⟨⟨Nat.le_of_ble_eq_true rfl, Nat.le_of_ble_eq_true rfl⟩, Nat.le_of_ble_eq_true rfl, Nat.le_of_ble_eq_true rfl⟩
theorem rm_X12_first_X12_has : Rm mi_X12_first mi_X12_has 0 0 := ⟨⟨Nat.le_of_ble_eq_true rfl, Nat.le_of_ble_eq_true rfl⟩, Nat.le_of_ble_eq_true rfl, Nat.le_of_ble_eq_true rfl⟩
theorem rm_X12_second_X12_has : Rm mi_X12_second mi_X12_has 0 0 := ⟨⟨Nat.le_of_ble_eq_true rfl, Nat.le_of_ble_eq_true rfl⟩, Nat.le_of_ble_eq_true rfl, Nat.le_of_ble_eq_true rfl⟩
theorem rm_X12_second_X12_skip : Rm mi_X12_second mi_X12_skip 0 0 := ⟨⟨Nat.le_of_ble_eq_true rfl, Nat.le_of_ble_eq_true rfl⟩, Nat.le_of_ble_eq_true rfl, Nat.le_of_ble_eq_true rfl⟩
theorem rm_X12_word__X12_load : Rm mi_X12_word_ mi_X12_load 0 0 := ⟨⟨Nat.le_of_ble_eq_true rfl, Nat.le_of_ble_eq_true rfl⟩, Nat.le_of_ble_eq_true rfl, Nat.le_of_ble_eq_true rfl⟩
theorem rm_X12_third_X12_has : Rm mi_X12_third mi_X12_has 0 0 := ⟨⟨Nat.le_of_ble_eq_true rfl, Nat.le_of_ble_eq_true rfl⟩, Nat.le_of_ble_eq_true rfl, Nat.le_of_ble_eq_true rfl⟩
theorem rm_X12_third_X12_word_ : Rm mi_X12_third mi_X12_word_ 0 0 := ⟨⟨Nat.le_of_ble_eq_true rfl, Nat.le_of_ble_eq_true rfl⟩, Nat.le_of_ble_eq_true rfl, Nat.le_of_ble_eq_true rfl⟩
theorem rm_X12_step_X12_device : Rm mi_X12_step mi_X12_device 0 0 := ⟨⟨Nat.le_of_ble_eq_true rfl, Nat.le_of_ble_eq_true rfl⟩, Nat.le_of_ble_eq_true rfl, Nat.le_of_ble_eq_true rfl⟩
theorem rm_X12_step_X12_first : Rm mi_X12_step mi_X12_first 0 0 := ⟨⟨Nat.le_of_ble_eq_true rfl, Nat.le_of_ble_eq_true rfl⟩, Nat.le_of_ble_eq_true rfl, Nat.le_of_ble_eq_true rfl⟩
theorem rm_X12_step_X12_isWrong : Rm mi_X12_step mi_X12_isWrong 0 0 := ⟨⟨Nat.le_of_ble_eq_true rfl, Nat.le_of_ble_eq_true rfl⟩, Nat.le_of_ble_eq_true rfl, Nat.le_of_ble_eq_true rfl⟩
theorem rm_X12_step_X12_load : Rm mi_X12_step mi_X12_load 0 0 := ⟨⟨Nat.le_of_ble_eq_true rfl, Nat.le_of_ble_eq_true rfl⟩, Nat.le_of_ble_eq_true rfl, Nat.le_of_ble_eq_true rfl⟩
theorem rm_X12_step_X12_memory_ : Rm mi_X12_step mi_X12_memory_ 0 0 := ⟨⟨Nat.le_of_ble_eq_true rfl, Nat.le_of_ble_eq_true rfl⟩, Nat.le_of_ble_eq_true rfl, Nat.le_of_ble_eq_true rfl⟩
theorem rm_X12_step_X12_mustWait : Rm mi_X12_step mi_X12_mustWait 0 0 := ⟨⟨Nat.le_of_ble_eq_true rfl, Nat.le_of_ble_eq_true rfl⟩, Nat.le_of_ble_eq_true rfl, Nat.le_of_ble_eq_true rfl⟩
theorem rm_X12_step_X12_second : Rm mi_X12_step mi_X12_second 0 0 := ⟨⟨Nat.le_of_ble_eq_true rfl, Nat.le_of_ble_eq_true rfl⟩, Nat.le_of_ble_eq_true rfl, Nat.le_of_ble_eq_true rfl⟩
theorem rm_X12_step_X12_third : Rm mi_X12_step mi_X12_third 0 0 := ⟨⟨Nat.le_of_ble_eq_true rfl, Nat.le_of_ble_eq_true rfl⟩, Nat.le_of_ble_eq_true rfl, Nat.le_of_ble_eq_true rfl⟩
theorem rm_X12_processes_X12_becomesReady : Rm mi_X12_processes mi_X12_becomesReady 0 0 := ⟨⟨Nat.le_of_ble_eq_true rfl, Nat.le_of_ble_eq_true rfl⟩, Nat.le_of_ble_eq_true rfl, Nat.le_of_ble_eq_true rfl⟩
theorem rm_X12_processes_X12_leavesQueue : Rm mi_X12_processes mi_X12_leavesQueue 0 0 := ⟨⟨Nat.le_of_ble_eq_true rfl, Nat.le_of_ble_eq_true rfl⟩, Nat.le_of_ble_eq_true rfl, Nat.le_of_ble_eq_true rfl⟩
theorem rm_X12_processes_X12_step : Rm mi_X12_processes mi_X12_step 0 0 := ⟨⟨Nat.le_of_ble_eq_true rfl, Nat.le_of_ble_eq_true rfl⟩, Nat.le_of_ble_eq_true rfl, Nat.le_of_ble_eq_true rfl⟩
theorem rm_X12_tick_X12_clocks : Rm mi_X12_tick mi_X12_clocks 0 0 := ⟨⟨Nat.le_of_ble_eq_true rfl, Nat.le_of_ble_eq_true rfl⟩, Nat.le_of_ble_eq_true rfl, Nat.le_of_ble_eq_true rfl⟩
theorem rm_X12_tick_X12_looksFor : Rm mi_X12_tick mi_X12_looksFor 0 0 := ⟨⟨Nat.le_of_ble_eq_true rfl, Nat.le_of_ble_eq_true rfl⟩, Nat.le_of_ble_eq_true rfl, Nat.le_of_ble_eq_true rfl⟩
theorem rm_X12_tick_X12_moves : Rm mi_X12_tick mi_X12_moves 0 0 := ⟨⟨Nat.le_of_ble_eq_true rfl, Nat.le_of_ble_eq_true rfl⟩, Nat.le_of_ble_eq_true rfl, Nat.le_of_ble_eq_true rfl⟩
theorem rm_X12_tick_X12_processes : Rm mi_X12_tick mi_X12_processes 0 0 := ⟨⟨Nat.le_of_ble_eq_true rfl, Nat.le_of_ble_eq_true rfl⟩, Nat.le_of_ble_eq_true rfl, Nat.le_of_ble_eq_true rfl⟩
theorem rm_X12_run_X12_in : Rm mi_X12_run mi_X12_in 0 0 := ⟨⟨Nat.le_of_ble_eq_true rfl, Nat.le_of_ble_eq_true rfl⟩, Nat.le_of_ble_eq_true rfl, Nat.le_of_ble_eq_true rfl⟩
theorem rm_X12_run_X12_tick : Rm mi_X12_run mi_X12_tick 0 0 := ⟨⟨Nat.le_of_ble_eq_true rfl, Nat.le_of_ble_eq_true rfl⟩, Nat.le_of_ble_eq_true rfl, Nat.le_of_ble_eq_true rfl⟩
theorem rm_X12_user_X12_isUser : Rm mi_X12_user mi_X12_isUser 0 0 := ⟨⟨Nat.le_of_ble_eq_true rfl, Nat.le_of_ble_eq_true rfl⟩, Nat.le_of_ble_eq_true rfl, Nat.le_of_ble_eq_true rfl⟩
theorem rm_X12_word___X12_isUser : Rm mi_X12_word__ mi_X12_isUser 0 0 := ⟨⟨Nat.le_of_ble_eq_true rfl, Nat.le_of_ble_eq_true rfl⟩, Nat.le_of_ble_eq_true rfl, Nat.le_of_ble_eq_true rfl⟩
theorem rm_X12_word___X12_isWord : Rm mi_X12_word__ mi_X12_isWord 0 0 := ⟨⟨Nat.le_of_ble_eq_true rfl, Nat.le_of_ble_eq_true rfl⟩, Nat.le_of_ble_eq_true rfl, Nat.le_of_ble_eq_true rfl⟩
theorem rm_X12_core_X12_in : Rm mi_X12_core mi_X12_in 0 0 := ⟨⟨Nat.le_of_ble_eq_true rfl, Nat.le_of_ble_eq_true rfl⟩, Nat.le_of_ble_eq_true rfl, Nat.le_of_ble_eq_true rfl⟩
theorem rm_X12_core_X12_isWord : Rm mi_X12_core mi_X12_isWord 0 0 := ⟨⟨Nat.le_of_ble_eq_true rfl, Nat.le_of_ble_eq_true rfl⟩, Nat.le_of_ble_eq_true rfl, Nat.le_of_ble_eq_true rfl⟩
theorem rm_X12_drum_X12_isUser : Rm mi_X12_drum mi_X12_isUser 0 0 := ⟨⟨Nat.le_of_ble_eq_true rfl, Nat.le_of_ble_eq_true rfl⟩, Nat.le_of_ble_eq_true rfl, Nat.le_of_ble_eq_true rfl⟩
theorem rm_X12_drum_X12_isWord : Rm mi_X12_drum mi_X12_isWord 0 0 := ⟨⟨Nat.le_of_ble_eq_true rfl, Nat.le_of_ble_eq_true rfl⟩, Nat.le_of_ble_eq_true rfl, Nat.le_of_ble_eq_true rfl⟩
theorem rm_X12_slot_X12_in : Rm mi_X12_slot mi_X12_in 0 0 := ⟨⟨Nat.le_of_ble_eq_true rfl, Nat.le_of_ble_eq_true rfl⟩, Nat.le_of_ble_eq_true rfl, Nat.le_of_ble_eq_true rfl⟩
theorem rm_X12_block_X12_in : Rm mi_X12_block mi_X12_in 0 0 := ⟨⟨Nat.le_of_ble_eq_true rfl, Nat.le_of_ble_eq_true rfl⟩, Nat.le_of_ble_eq_true rfl, Nat.le_of_ble_eq_true rfl⟩
theorem rm_X12_block_X12_isUser : Rm mi_X12_block mi_X12_isUser 0 0 := ⟨⟨Nat.le_of_ble_eq_true rfl, Nat.le_of_ble_eq_true rfl⟩, Nat.le_of_ble_eq_true rfl, Nat.le_of_ble_eq_true rfl⟩
theorem rm_X12_paper_X12_in : Rm mi_X12_paper mi_X12_in 0 0 := ⟨⟨Nat.le_of_ble_eq_true rfl, Nat.le_of_ble_eq_true rfl⟩, Nat.le_of_ble_eq_true rfl, Nat.le_of_ble_eq_true rfl⟩
theorem rm_X12_paper_X12_isUser : Rm mi_X12_paper mi_X12_isUser 0 0 := ⟨⟨Nat.le_of_ble_eq_true rfl, Nat.le_of_ble_eq_true rfl⟩, Nat.le_of_ble_eq_true rfl, Nat.le_of_ble_eq_true rfl⟩
