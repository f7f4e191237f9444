section GLAW
variable {p : Program} {l : Launch} {e : Env} {R : Room} {s : State} {m : MethodId} {args : Array Value} {below : List Frame} {meth : Method} {c : Code} {g : GB} {nL : Nat} {Q : State → Prop} {cells slots : Nat}
variable {cc : ByteArray} {own : String} {pc pc' : Nat} {lv : List (Nat × Value)} {M : Mem} {rest : List Value}
theorem G_sld {b L : Nat} {xs : Nat → Int32} {i : Int32} (K : KF p l s m args meth c g cc nL own) (hX : va_X b L xs s s.heap) (hbl : b < s.heap.size) (hbA : ¬ AS g s.heap.size b) (d : dc cc pc pc' .iaload 1) (hin : vp_in i L) (k : GG p l e R s m args below meth c g nL Q cells slots pc' lv (.int (xs i.toNatClampNeg) :: rest) M) : GG p l e R s m args below meth c g nL Q cells slots pc lv (.int i :: .ref b :: rest) M := by
  obtain ⟨d, rfl⟩ := d
  exact fun H locs ls hP hS hl => va_sld K.1.1 K.1.2.1 hX hbl hbA hS hin d (k H locs ls hP hS hl)
theorem G_slen {b L : Nat} {xs : Nat → Int32} (K : KF p l s m args meth c g cc nL own) (hX : va_X b L xs s s.heap) (hbl : b < s.heap.size) (hbA : ¬ AS g s.heap.size b) (d : dc cc pc pc' .arraylength 1) (k : GG p l e R s m args below meth c g nL Q cells slots pc' lv (.int (nI L) :: rest) M) : GG p l e R s m args below meth c g nL Q cells slots pc lv (.ref b :: rest) M := by
  obtain ⟨d, rfl⟩ := d
  exact fun H locs ls hP hS hl => va_slen K.1.1 K.1.2.1 hX hbl hbA hS d (k H locs ls hP hS hl)
end GLAW
theorem yd_X12_feed : ydN yX12_feed 5 := ⟨by decide, by decide, by decide +kernel⟩
theorem yd_X11_feed : ydN yX11_feed 5 := ⟨by decide, by decide, by decide +kernel⟩
theorem wv_439 : wdV "KeptWellLaw" 136 yX11_feed cX11_feed 6 (some .int) := ⟨wd_439, wd_440, wd_441, wd_1, wd_442⟩
theorem wv_1640 : wdV "KeptWellLaw" 139 yX12_feed cX12_feed 7 (some .int) := ⟨wd_1640, wd_1641, wd_1642, wd_14, wd_1643⟩
theorem yd_X11_end : ydN yX11_end 1 := ⟨by decide, by decide, by decide +kernel⟩
theorem yd_X12_end : ydN yX12_end 1 := ⟨by decide, by decide, by decide +kernel⟩
theorem wv_455 : wdV "KeptWellLaw" 140 yX11_end cX11_end 2 (some .boolean) := ⟨wd_455, wd_456, wd_457, wd_1, wd_458⟩
theorem wv_1644 : wdV "KeptWellLaw" 143 yX12_end cX12_end 2 (some .boolean) := ⟨wd_1644, wd_1645, wd_1646, wd_14, wd_1647⟩
theorem yd_L_acts : ydN yL_acts 2 := ⟨by decide, by decide, by decide +kernel⟩
theorem yd_X12_acts : ydN yX12_acts 1 := ⟨by decide, by decide, by decide +kernel⟩
theorem wv_646 : wdH "KeptWellLaw" 144 yL_acts cL_acts 3 (some .int) [(0, 5, 8, 13)] := ⟨wd_646, wd_647, wd_0, wd_648⟩
theorem wv_1613 : wdV "KeptWellLaw" 149 yX12_acts cX12_acts 2 none := ⟨wd_1613, wd_1614, wd_1615, wd_14, wd_1616⟩
theorem yd_X12_bring : ydN yX12_bring 4 := ⟨by decide, by decide, by decide +kernel⟩
theorem yd_L_bring : ydN yL_bring 5 := ⟨by decide, by decide, by decide +kernel⟩
theorem wv_723 : wdH "KeptWellLaw" 150 yL_bring cL_bring 6 (some .int) [(0, 9, 12, 19), (0, 9, 16, 13)] := ⟨wd_723, wd_724, wd_0, wd_725⟩
theorem wv_1624 : wdV "KeptWellLaw" 153 yX12_bring cX12_bring 5 none := ⟨wd_1624, wd_1625, wd_1626, wd_14, wd_1627⟩
theorem yd_L_tomorrow : ydN yL_tomorrow 3 := ⟨by decide, by decide, by decide +kernel⟩
theorem yd_X12_tomorrow : ydN yX12_tomorrow 2 := ⟨by decide, by decide, by decide +kernel⟩
theorem wv_755 : wdH "KeptWellLaw" 154 yL_tomorrow cL_tomorrow 4 (some .int) [(0, 6, 9, 13)] := ⟨wd_755, wd_756, wd_0, wd_757⟩
theorem wv_1636 : wdV "KeptWellLaw" 157 yX12_tomorrow cX12_tomorrow 3 none := ⟨wd_1636, wd_1637, wd_1638, wd_14, wd_1639⟩
theorem yd_L_way : ydN yL_way 2 := ⟨by decide, by decide, by decide +kernel⟩
theorem yd_X12_way : ydN yX12_way 0 := ⟨by decide, by decide, by decide +kernel⟩
theorem wv_762 : wdH "KeptWellLaw" 158 yL_way cL_way 3 (some .int) [(0, 8, 11, 13), (0, 8, 14, 29)] := ⟨wd_762, wd_763, wd_0, wd_764⟩
theorem wv_1652 : wdV "KeptWellLaw" 161 yX12_way cX12_way 4 (some .int) := ⟨wd_1652, wd_1653, wd_1654, wd_14, wd_1655⟩
theorem yd_X12_fault : ydN yX12_fault 0 := ⟨by decide, by decide, by decide +kernel⟩
theorem yd_X11_fault : ydN yX11_fault 0 := ⟨by decide, by decide, by decide +kernel⟩
theorem wv_459 : wdV "KeptWellLaw" 162 yX11_fault cX11_fault 1 (some .int) := ⟨wd_459, wd_460, wd_461, wd_1, wd_462⟩
theorem wv_1648 : wdV "KeptWellLaw" 165 yX12_fault cX12_fault 1 (some .int) := ⟨wd_1648, wd_1649, wd_1650, wd_14, wd_1651⟩
theorem yd_X12_mood : ydN yX12_mood 3 := ⟨by decide, by decide, by decide +kernel⟩
theorem yd_L_mood : ydN yL_mood 5 := ⟨by decide, by decide, by decide +kernel⟩
theorem wv_890 : wdH "KeptWellLaw" 166 yL_mood cL_mood 6 (some .int) [(0, 12, 15, 19), (0, 12, 19, 35)] := ⟨wd_890, wd_891, wd_0, wd_892⟩
theorem wv_1705 : wdV "KeptWellLaw" 169 yX12_mood cX12_mood 4 (some .int) := ⟨wd_1705, wd_1706, wd_1707, wd_14, wd_1708⟩
theorem yd_X12_worth : ydN yX12_worth 6 := ⟨by decide, by decide, by decide +kernel⟩
theorem yd_L_worth : ydN yL_worth 8 := ⟨by decide, by decide, by decide +kernel⟩
theorem wv_929 : wdH "KeptWellLaw" 170 yL_worth cL_worth 9 (some .int) [(0, 17, 20, 19), (0, 17, 24, 41)] := ⟨wd_929, wd_930, wd_0, wd_931⟩
theorem wv_1733 : wdV "KeptWellLaw" 173 yX12_worth cX12_worth 8 (some .long) := ⟨wd_1733, wd_1734, wd_1735, wd_14, wd_1736⟩
theorem yd_X12_hold : ydN yX12_hold 2 := ⟨by decide, by decide, by decide +kernel⟩
theorem yd_L_hold : ydN yL_hold 4 := ⟨by decide, by decide, by decide +kernel⟩
theorem wv_983 : wdH "KeptWellLaw" 174 yL_hold cL_hold 5 (some .int) [(0, 17, 20, 19), (0, 17, 24, 41)] := ⟨wd_983, wd_984, wd_0, wd_985⟩
theorem wv_1781 : wdV "KeptWellLaw" 177 yX12_hold cX12_hold 3 (some .boolean) := ⟨wd_1781, wd_1782, wd_1783, wd_14, wd_1784⟩
theorem yd_X12_first : ydN yX12_first 2 := ⟨by decide, by decide, by decide +kernel⟩
theorem yd_L_first : ydN yL_first 4 := ⟨by decide, by decide, by decide +kernel⟩
theorem wv_995 : wdH "KeptWellLaw" 178 yL_first cL_first 5 (some .int) [(0, 10, 13, 19), (0, 10, 17, 41)] := ⟨wd_995, wd_996, wd_0, wd_997⟩
theorem wv_1797 : wdV "KeptWellLaw" 180 yX12_first cX12_first 3 (some .int) := ⟨wd_1797, wd_1798, wd_1799, wd_14, wd_1800⟩
theorem yd_X12_best : ydN yX12_best 3 := ⟨by decide, by decide, by decide +kernel⟩
theorem yd_L_best : ydN yL_best 5 := ⟨by decide, by decide, by decide +kernel⟩
theorem wv_1002 : wdH "KeptWellLaw" 181 yL_best cL_best 6 (some .int) [(0, 12, 15, 19), (0, 12, 19, 41)] := ⟨wd_1002, wd_1003, wd_0, wd_1004⟩
theorem wv_1801 : wdV "KeptWellLaw" 183 yX12_best cX12_best 4 (some .int) := ⟨wd_1801, wd_1802, wd_1803, wd_14, wd_1804⟩
theorem yd_L_answer : ydN yL_answer 6 := ⟨by decide, by decide, by decide +kernel⟩
theorem yd_X12_answer : ydN yX12_answer 4 := ⟨by decide, by decide, by decide +kernel⟩
theorem wv_1049 : wdH "KeptWellLaw" 184 yL_answer cL_answer 7 (some .int) [(0, 13, 16, 19), (0, 13, 20, 41)] := ⟨wd_1049, wd_1050, wd_0, wd_1051⟩
theorem wv_1813 : wdV "KeptWellLaw" 187 yX12_answer cX12_answer 5 (some .long) := ⟨wd_1813, wd_1814, wd_1815, wd_14, wd_1816⟩
theorem yd_L_least : ydN yL_least 4 := ⟨by decide, by decide, by decide +kernel⟩
theorem yd_X12_least : ydN yX12_least 2 := ⟨by decide, by decide, by decide +kernel⟩
theorem wv_1061 : wdH "KeptWellLaw" 188 yL_least cL_least 5 (some .int) [(0, 10, 13, 19)] := ⟨wd_1061, wd_1062, wd_0, wd_1063⟩
theorem wv_1817 : wdV "KeptWellLaw" 191 yX12_least cX12_least 3 (some .int) := ⟨wd_1817, wd_1818, wd_1819, wd_14, wd_1820⟩
theorem yd_X12_lots : ydN yX12_lots 2 := ⟨by decide, by decide, by decide +kernel⟩
theorem yd_L_lots : ydN yL_lots 4 := ⟨by decide, by decide, by decide +kernel⟩
theorem wv_1077 : wdH "KeptWellLaw" 192 yL_lots cL_lots 5 (some .int) [(0, 9, 12, 19)] := ⟨wd_1077, wd_1078, wd_0, wd_1079⟩
theorem wv_1838 : wdV "KeptWellLaw" 194 yX12_lots cX12_lots 6 (some .long) := ⟨wd_1838, wd_1839, wd_1840, wd_14, wd_1841⟩
theorem yd_X11_once : ydN yX11_once 0 := ⟨by decide, by decide, by decide +kernel⟩
theorem yd_X12_once : ydN yX12_once 0 := ⟨by decide, by decide, by decide +kernel⟩
theorem wv_564 : wdV "KeptWellLaw" 195 yX11_once cX11_once 1 (some .int) := ⟨wd_564, wd_565, wd_566, wd_1, wd_567⟩
theorem wv_1858 : wdV "KeptWellLaw" 198 yX12_once cX12_once 4 (some .int) := ⟨wd_1858, wd_1859, wd_1860, wd_14, wd_1861⟩
theorem yd_X11_corner : ydN yX11_corner 2 := ⟨by decide, by decide, by decide +kernel⟩
theorem yd_X12_corner : ydN yX12_corner 2 := ⟨by decide, by decide, by decide +kernel⟩
theorem wv_582 : wdV "KeptWellLaw" 199 yX11_corner cX11_corner 3 (some .int) := ⟨wd_582, wd_583, wd_584, wd_1, wd_585⟩
theorem wv_1862 : wdV "KeptWellLaw" 202 yX12_corner cX12_corner 3 (some .int) := ⟨wd_1862, wd_1863, wd_1864, wd_14, wd_1865⟩
theorem yd_X12_in : ydN yX12_in 4 := ⟨by decide, by decide, by decide +kernel⟩
theorem yd_L_in : ydN yL_in 6 := ⟨by decide, by decide, by decide +kernel⟩
theorem wv_1119 : wdH "KeptWellLaw" 203 yL_in cL_in 7 (some .int) [(0, 21, 24, 13)] := ⟨wd_1119, wd_1120, wd_0, wd_1121⟩
theorem wv_1876 : wdV "KeptWellLaw" 205 yX12_in cX12_in 5 (some .boolean) := ⟨wd_1876, wd_1877, wd_1878, wd_14, wd_1879⟩
theorem yd_L_mild : ydN yL_mild 6 := ⟨by decide, by decide, by decide +kernel⟩
theorem yd_X12_mild : ydN yX12_mild 4 := ⟨by decide, by decide, by decide +kernel⟩
theorem wv_1144 : wdH "KeptWellLaw" 206 yL_mild cL_mild 7 (some .int) [(0, 14, 17, 19)] := ⟨wd_1144, wd_1145, wd_0, wd_1146⟩
theorem wv_1887 : wdV "KeptWellLaw" 209 yX12_mild cX12_mild 11 (some .int) := ⟨wd_1887, wd_1888, wd_1889, wd_14, wd_1890⟩
theorem yd_L_edge : ydN yL_edge 5 := ⟨by decide, by decide, by decide +kernel⟩
theorem yd_X12_edge : ydN yX12_edge 3 := ⟨by decide, by decide, by decide +kernel⟩
theorem wv_1167 : wdH "KeptWellLaw" 210 yL_edge cL_edge 6 (some .int) [(0, 12, 15, 19), (0, 12, 19, 13), (0, 12, 23, 41)] := ⟨wd_1167, wd_1168, wd_0, wd_1169⟩
theorem wv_1902 : wdV "KeptWellLaw" 212 yX12_edge cX12_edge 8 (some .int) := ⟨wd_1902, wd_1903, wd_1904, wd_14, wd_1905⟩
theorem yd_X11_together : ydN yX11_together 0 := ⟨by decide, by decide, by decide +kernel⟩
theorem yd_X12_together : ydN yX12_together 0 := ⟨by decide, by decide, by decide +kernel⟩
theorem wv_463 : wdV "KeptWellLaw" 213 yX11_together cX11_together 1 (some .int) := ⟨wd_463, wd_464, wd_465, wd_1, wd_466⟩
theorem wv_1906 : wdV "KeptWellLaw" 216 yX12_together cX12_together 8 (some .int) := ⟨wd_1906, wd_1907, wd_1908, wd_14, wd_1909⟩
theorem yd_L_mistakes : ydN yL_mistakes 3 := ⟨by decide, by decide, by decide +kernel⟩
theorem yd_X12_mistakes : ydN yX12_mistakes 2 := ⟨by decide, by decide, by decide +kernel⟩
theorem wv_1179 : wdH "KeptWellLaw" 217 yL_mistakes cL_mistakes 4 (some .int) [(0, 6, 9, 13)] := ⟨wd_1179, wd_1180, wd_0, wd_1181⟩
theorem wv_1914 : wdV "KeptWellLaw" 219 yX12_mistakes cX12_mistakes 3 none := ⟨wd_1914, wd_1915, wd_1916, wd_14, wd_1917⟩
theorem yd_X12_doubt : ydN yX12_doubt 5 := ⟨by decide, by decide, by decide +kernel⟩
theorem yd_X12_thrown : ydN yX12_thrown 0 := ⟨by decide, by decide, by decide +kernel⟩
theorem yd_L_doubt : ydN yL_doubt 7 := ⟨by decide, by decide, by decide +kernel⟩
theorem wv_1186 : wdH "KeptWellLaw" 220 yL_doubt cL_doubt 8 (some .int) [(0, 15, 18, 19), (0, 15, 22, 41)] := ⟨wd_1186, wd_1187, wd_0, wd_1188⟩
theorem wv_1918 : wdV "KeptWellLaw" 223 yX12_doubt cX12_doubt 12 (some .long) := ⟨wd_1918, wd_1919, wd_1920, wd_14, wd_1921⟩
theorem wv_1470 : wdV "KeptWellLaw" 224 yX12_thrown cX12_thrown 1 (some .int) := ⟨wd_1470, wd_1471, wd_1472, wd_14, wd_1473⟩
theorem yd_L_row : ydN yL_row 2 := ⟨by decide, by decide, by decide +kernel⟩
theorem yd_X12_row : ydN yX12_row 0 := ⟨by decide, by decide, by decide +kernel⟩
theorem wv_1225 : wdH "KeptWellLaw" 227 yL_row cL_row 3 (some .int) [(0, 8, 11, 13)] := ⟨wd_1225, wd_1226, wd_0, wd_1227⟩
theorem wv_1926 : wdV "KeptWellLaw" 229 yX12_row cX12_row 3 (some .int) := ⟨wd_1926, wd_1927, wd_1928, wd_14, wd_1929⟩
theorem yd_L_judge : ydN yL_judge 4 := ⟨by decide, by decide, by decide +kernel⟩
theorem yd_X12_judge : ydN yX12_judge 2 := ⟨by decide, by decide, by decide +kernel⟩
theorem wv_1237 : wdH "KeptWellLaw" 230 yL_judge cL_judge 5 (some .int) [(0, 10, 13, 19), (0, 10, 17, 41)] := ⟨wd_1237, wd_1238, wd_0, wd_1239⟩
theorem wv_1930 : wdV "KeptWellLaw" 232 yX12_judge cX12_judge 8 (some .int) := ⟨wd_1930, wd_1931, wd_1932, wd_14, wd_1933⟩
theorem yd_X12_brought : ydN yX12_brought 1 := ⟨by decide, by decide, by decide +kernel⟩
theorem yd_L_brought : ydN yL_brought 3 := ⟨by decide, by decide, by decide +kernel⟩
theorem wv_1263 : wdH "KeptWellLaw" 233 yL_brought cL_brought 4 (some .int) [(0, 9, 12, 19)] := ⟨wd_1263, wd_1264, wd_0, wd_1265⟩
theorem wv_1938 : wdV "KeptWellLaw" 236 yX12_brought cX12_brought 4 (some .int) := ⟨wd_1938, wd_1939, wd_1940, wd_14, wd_1941⟩
theorem yd_X12_drawn : ydN yX12_drawn 5 := ⟨by decide, by decide, by decide +kernel⟩
theorem yd_L_drawn : ydN yL_drawn 7 := ⟨by decide, by decide, by decide +kernel⟩
theorem wv_1275 : wdH "KeptWellLaw" 237 yL_drawn cL_drawn 8 (some .int) [(0, 16, 19, 19), (0, 16, 23, 13), (0, 16, 27, 41), (0, 16, 31, 35)] := ⟨wd_1275, wd_1276, wd_0, wd_1277⟩
theorem wv_1942 : wdV "KeptWellLaw" 240 yX12_drawn cX12_drawn 14 (some .int) := ⟨wd_1942, wd_1943, wd_1944, wd_14, wd_1945⟩
theorem yd_L_field : ydN yL_field 3 := ⟨by decide, by decide, by decide +kernel⟩
theorem yd_X12_field : ydN yX12_field 2 := ⟨by decide, by decide, by decide +kernel⟩
theorem wv_1291 : wdH "KeptWellLaw" 241 yL_field cL_field 4 (some .int) [(0, 6, 9, 19), (0, 6, 12, 13)] := ⟨wd_1291, wd_1292, wd_0, wd_1293⟩
theorem wv_1951 : wdV "KeptWellLaw" 243 yX12_field cX12_field 3 none := ⟨wd_1951, wd_1952, wd_1953, wd_14, wd_1954⟩
theorem yd_X12_rounds : ydN yX12_rounds 1 := ⟨by decide, by decide, by decide +kernel⟩
theorem yd_L_rounds : ydN yL_rounds 2 := ⟨by decide, by decide, by decide +kernel⟩
theorem wv_1299 : wdH "KeptWellLaw" 244 yL_rounds cL_rounds 3 (some .int) [(0, 5, 8, 13)] := ⟨wd_1299, wd_1300, wd_0, wd_1301⟩
theorem wv_1955 : wdV "KeptWellLaw" 246 yX12_rounds cX12_rounds 2 none := ⟨wd_1955, wd_1956, wd_1957, wd_14, wd_1958⟩
theorem yd_X12_meet : ydN yX12_meet 2 := ⟨by decide, by decide, by decide +kernel⟩
theorem yd_L_meet : ydN yL_meet 4 := ⟨by decide, by decide, by decide +kernel⟩
theorem wv_1306 : wdH "KeptWellLaw" 247 yL_meet cL_meet 5 (some .int) [(0, 10, 13, 19), (0, 10, 17, 41)] := ⟨wd_1306, wd_1307, wd_0, wd_1308⟩
theorem wv_1959 : wdV "KeptWellLaw" 249 yX12_meet cX12_meet 3 (some .int) := ⟨wd_1959, wd_1960, wd_1961, wd_14, wd_1962⟩
theorem yd_X12_grow : ydN yX12_grow 1 := ⟨by decide, by decide, by decide +kernel⟩
theorem yd_L_grow : ydN yL_grow 3 := ⟨by decide, by decide, by decide +kernel⟩
theorem wv_1317 : wdH "KeptWellLaw" 250 yL_grow cL_grow 4 (some .int) [(0, 9, 12, 13)] := ⟨wd_1317, wd_1318, wd_0, wd_1319⟩
theorem wv_1967 : wdV "KeptWellLaw" 252 yX12_grow cX12_grow 4 (some .int) := ⟨wd_1967, wd_1968, wd_1969, wd_14, wd_1970⟩
theorem yd_X12_beings : ydN yX12_beings 1 := ⟨by decide, by decide, by decide +kernel⟩
theorem yd_L_beings : ydN yL_beings 3 := ⟨by decide, by decide, by decide +kernel⟩
theorem wv_1367 : wdH "KeptWellLaw" 253 yL_beings cL_beings 4 (some .int) [(0, 9, 12, 19)] := ⟨wd_1367, wd_1368, wd_0, wd_1369⟩
theorem wv_1975 : wdV "KeptWellLaw" 255 yX12_beings cX12_beings 2 (some .int) := ⟨wd_1975, wd_1976, wd_1977, wd_14, wd_1978⟩
theorem yd_X12_stays : ydN yX12_stays 1 := ⟨by decide, by decide, by decide +kernel⟩
theorem yd_L_stays : ydN yL_stays 3 := ⟨by decide, by decide, by decide +kernel⟩
theorem wv_1374 : wdH "KeptWellLaw" 256 yL_stays cL_stays 4 (some .int) [(0, 16, 19, 19), (0, 16, 22, 41)] := ⟨wd_1374, wd_1375, wd_0, wd_1376⟩
theorem wv_1979 : wdV "KeptWellLaw" 258 yX12_stays cX12_stays 6 (some .boolean) := ⟨wd_1979, wd_1980, wd_1981, wd_14, wd_1982⟩
theorem yd_X12_all : ydN yX12_all 2 := ⟨by decide, by decide, by decide +kernel⟩
theorem yd_L_all : ydN yL_all 4 := ⟨by decide, by decide, by decide +kernel⟩
theorem wv_1389 : wdH "KeptWellLaw" 259 yL_all cL_all 5 (some .int) [(0, 10, 13, 19), (0, 10, 17, 41), (0, 10, 21, 35)] := ⟨wd_1389, wd_1390, wd_0, wd_1391⟩
theorem wv_1983 : wdV "KeptWellLaw" 261 yX12_all cX12_all 8 (some .int) := ⟨wd_1983, wd_1984, wd_1985, wd_14, wd_1986⟩
theorem yd_L_begin : ydN yL_begin 4 := ⟨by decide, by decide, by decide +kernel⟩
theorem yd_X12_begin : ydN yX12_begin 2 := ⟨by decide, by decide, by decide +kernel⟩
theorem wv_1405 : wdH "KeptWellLaw" 262 yL_begin cL_begin 5 (some .int) [(0, 10, 13, 19), (0, 10, 17, 41)] := ⟨wd_1405, wd_1406, wd_0, wd_1407⟩
theorem wv_1991 : wdV "KeptWellLaw" 264 yX12_begin cX12_begin 11 (some .int) := ⟨wd_1991, wd_1992, wd_1993, wd_14, wd_1994⟩
theorem yd_X12_villager : ydN yX12_villager 2 := ⟨by decide, by decide, by decide +kernel⟩
theorem yd_L_villager : ydN yL_villager 4 := ⟨by decide, by decide, by decide +kernel⟩
theorem wv_1423 : wdH "KeptWellLaw" 265 yL_villager cL_villager 5 (some .int) [(0, 10, 13, 13), (0, 10, 17, 29)] := ⟨wd_1423, wd_1424, wd_0, wd_1425⟩
theorem wv_1995 : wdV "KeptWellLaw" 267 yX12_villager cX12_villager 4 (some .int) := ⟨wd_1995, wd_1996, wd_1997, wd_14, wd_1998⟩
theorem yd_L_villageEdge : ydN yL_villageEdge 4 := ⟨by decide, by decide, by decide +kernel⟩
theorem yd_X12_villageEdge : ydN yX12_villageEdge 2 := ⟨by decide, by decide, by decide +kernel⟩
theorem wv_1430 : wdH "KeptWellLaw" 268 yL_villageEdge cL_villageEdge 5 (some .int) [(0, 10, 13, 19)] := ⟨wd_1430, wd_1431, wd_0, wd_1432⟩
theorem wv_1999 : wdV "KeptWellLaw" 270 yX12_villageEdge cX12_villageEdge 3 (some .int) := ⟨wd_1999, wd_2000, wd_2001, wd_14, wd_2002⟩
theorem yd_X12_village : ydN yX12_village 1 := ⟨by decide, by decide, by decide +kernel⟩
theorem yd_L_village : ydN yL_village 3 := ⟨by decide, by decide, by decide +kernel⟩
theorem wv_1443 : wdH "KeptWellLaw" 271 yL_village cL_village 4 (some .int) [(0, 9, 12, 35)] := ⟨wd_1443, wd_1444, wd_0, wd_1445⟩
theorem wv_2007 : wdV "KeptWellLaw" 273 yX12_village cX12_village 5 (some .int) := ⟨wd_2007, wd_2008, wd_2009, wd_14, wd_2010⟩
theorem yd_X11_image : ydN yX11_image 0 := ⟨by decide, by decide, by decide +kernel⟩
theorem yd_X12_image : ydN yX12_image 0 := ⟨by decide, by decide, by decide +kernel⟩
theorem wv_616 : wdV "KeptWellLaw" 274 yX11_image cX11_image 1 none := ⟨wd_616, wd_617, wd_618, wd_1, wd_619⟩
theorem wv_1605 : wdV "KeptWellLaw" 277 yX12_image cX12_image 2 none := ⟨wd_1605, wd_1606, wd_1607, wd_14, wd_1608⟩
theorem yd_X11_back : ydN yX11_back 0 := ⟨by decide, by decide, by decide +kernel⟩
theorem yd_X12_back : ydN yX12_back 0 := ⟨by decide, by decide, by decide +kernel⟩
theorem wv_629 : wdV "KeptWellLaw" 278 yX11_back cX11_back 1 (some .boolean) := ⟨wd_629, wd_630, wd_631, wd_1, wd_632⟩
theorem wv_1609 : wdV "KeptWellLaw" 282 yX12_back cX12_back 2 (some .boolean) := ⟨wd_1609, wd_1610, wd_1611, wd_14, wd_1612⟩
theorem yd_X12_count : ydN yX12_count 1 := ⟨by decide, by decide, by decide +kernel⟩
theorem yd_X11_count : ydN yX11_count 1 := ⟨by decide, by decide, by decide +kernel⟩
theorem wv_633 : wdV "KeptWellLaw" 283 yX11_count cX11_count 2 (some .int) := ⟨wd_633, wd_634, wd_635, wd_1, wd_636⟩
theorem wv_2019 : wdV "KeptWellLaw" 286 yX12_count cX12_count 4 (some .int) := ⟨wd_2019, wd_2020, wd_2021, wd_14, wd_2022⟩
def F_LAWc_0 (xs : Nat → Int32) (L : Nat) (x4 : Int32) (M : Mem) : Option Mem :=
  if inb (x4 + 1) L then if inb (x4 + 2) L then if inb (x4 + 3) L then if inb (x4 + 4) L then if inb (x4 + 5) L then (F_KW_feed (xs (x4 + 1).toNatClampNeg) (xs (x4 + 2).toNatClampNeg) (xs (x4 + 3).toNatClampNeg) (xs (x4 + 4).toNatClampNeg) (xs (x4 + 5).toNatClampNeg) M).bind fun r1 => if inb (x4 + 1) L then if inb (x4 + 2) L then if inb (x4 + 3) L then if inb (x4 + 4) L then if inb (x4 + 5) L then (F_MO_feed (xs (x4 + 1).toNatClampNeg) (xs (x4 + 2).toNatClampNeg) (xs (x4 + 3).toNatClampNeg) (xs (x4 + 4).toNatClampNeg) (xs (x4 + 5).toNatClampNeg) r1.2).bind fun r2 => some r2.2 else none else none else none else none else none else none else none else none else none else none
set_option maxRecDepth 100000 in
set_option maxHeartbeats 8000000 in
theorem K_LAWc_0 {p : Program} {l : Launch} {e : Env} {s : State} {m : MethodId} {args : Array Value} {below : List Frame} {meth : Method} {c : Code} {g : GB} {Q : State → Prop} {b L : Nat} {xs : Nat → Int32} (K : KF p l s m args meth c g code 8 "KeptWellLaw") (htr : l.stackTraces = false) (hX : va_X b L xs s s.heap) (hbl : b < s.heap.size) (hbA : ¬ AS g s.heap.size b) (C S : Nat) (hC : C + 8 ≤ 601024) (hS : S + 48 ≤ 7293034) (x4 : Int32) (M : Mem) (PHI : Mem → Prop) (hnext : ∀ M, PHI M → GG p l e room_1 s m args below meth c g 8 Q (C + 8) (S + 48) 1998 [(0, .ref b), (1, .ref (g.2.1 0)), (2, .ref (g.2.1 94)), (3, .ref (g.2.1 121)), (4, .int x4)] [] M) (h : wpO (F_LAWc_0 xs L x4 M) PHI) : GG p l e room_1 s m args below meth c g 8 Q C S 220 [(0, .ref b), (1, .ref (g.2.1 0)), (2, .ref (g.2.1 94)), (3, .ref (g.2.1 121)), (4, .int x4)] [] M := by
  unfold F_LAWc_0 at h
  refine G_aload_n rfl 1 rfl K dL_220 ?_
  refine G_aload_n rfl 0 rfl K dL_221 ?_
  refine G_iload 4 rfl K dL_222 ?_
  refine G_iconst (v := 1) rfl K dL_224 ?_
  refine G_iadd K dL_225 ?_
  obtain ⟨hin, h⟩ := wpO_g h
  refine G_sld K hX hbl hbA dL_226 hin ?_
  refine G_aload_n rfl 0 rfl K dL_227 ?_
  refine G_iload 4 rfl K dL_228 ?_
  refine G_iconst (v := 2) rfl K dL_230 ?_
  refine G_iadd K dL_231 ?_
  obtain ⟨hin, h⟩ := wpO_g h
  refine G_sld K hX hbl hbA dL_232 hin ?_
  refine G_aload_n rfl 0 rfl K dL_233 ?_
  refine G_iload 4 rfl K dL_234 ?_
  refine G_iconst (v := 3) rfl K dL_236 ?_
  refine G_iadd K dL_237 ?_
  obtain ⟨hin, h⟩ := wpO_g h
  refine G_sld K hX hbl hbA dL_238 hin ?_
  refine G_aload_n rfl 0 rfl K dL_239 ?_
  refine G_iload 4 rfl K dL_240 ?_
  refine G_iconst (v := 4) rfl K dL_242 ?_
  refine G_iadd K dL_243 ?_
  obtain ⟨hin, h⟩ := wpO_g h
  refine G_sld K hX hbl hbA dL_244 hin ?_
  refine G_aload_n rfl 0 rfl K dL_245 ?_
  refine G_iload 4 rfl K dL_246 ?_
  refine G_iconst (v := 5) rfl K dL_248 ?_
  refine G_iadd K dL_249 ?_
  obtain ⟨hin, h⟩ := wpO_g h
  refine G_sld K hX hbl hbA dL_250 hin ?_
  obtain ⟨r1, e1, h⟩ := wpO_bind h
  refine G_callVi (ci := 11) [.int (xs (x4 + 1).toNatClampNeg), .int (xs (x4 + 2).toNatClampNeg), .int (xs (x4 + 3).toNatClampNeg), .int (xs (x4 + 4).toNatClampNeg), .int (xs (x4 + 5).toNatClampNeg)] [] K dL_251 wv_439 yd_X11_feed (Nat.le_of_ble_eq_true rfl) (sh_0 _ _) rfl (by decide) ⟨by show C + 0 + 0 ≤ 601024; omega, by show S + 0 + 0 ≤ 7293034; omega⟩ rfl rfl (Nat.le_of_ble_eq_true rfl) (K_KW_feed l g htr (xs (x4 + 1).toNatClampNeg) (xs (x4 + 2).toNatClampNeg) (xs (x4 + 3).toNatClampNeg) (xs (x4 + 4).toNatClampNeg) (xs (x4 + 5).toNatClampNeg) M _ _ e1) ?_
  refine G_pop rfl K dL_254 ?_
  refine G_aload_n rfl 2 rfl K dL_255 ?_
  refine G_aload_n rfl 0 rfl K dL_256 ?_
  refine G_iload 4 rfl K dL_257 ?_
  refine G_iconst (v := 1) rfl K dL_259 ?_
  refine G_iadd K dL_260 ?_
  obtain ⟨hin, h⟩ := wpO_g h
  refine G_sld K hX hbl hbA dL_261 hin ?_
  refine G_aload_n rfl 0 rfl K dL_262 ?_
  refine G_iload 4 rfl K dL_263 ?_
  refine G_iconst (v := 2) rfl K dL_265 ?_
  refine G_iadd K dL_266 ?_
  obtain ⟨hin, h⟩ := wpO_g h
  refine G_sld K hX hbl hbA dL_267 hin ?_
  refine G_aload_n rfl 0 rfl K dL_268 ?_
  refine G_iload 4 rfl K dL_269 ?_
  refine G_iconst (v := 3) rfl K dL_271 ?_
  refine G_iadd K dL_272 ?_
  obtain ⟨hin, h⟩ := wpO_g h
  refine G_sld K hX hbl hbA dL_273 hin ?_
  refine G_aload_n rfl 0 rfl K dL_274 ?_
  refine G_iload 4 rfl K dL_275 ?_
  refine G_iconst (v := 4) rfl K dL_277 ?_
  refine G_iadd K dL_278 ?_
  obtain ⟨hin, h⟩ := wpO_g h
  refine G_sld K hX hbl hbA dL_279 hin ?_
  refine G_aload_n rfl 0 rfl K dL_280 ?_
  refine G_iload 4 rfl K dL_281 ?_
  refine G_iconst (v := 5) rfl K dL_283 ?_
  refine G_iadd K dL_284 ?_
  obtain ⟨hin, h⟩ := wpO_g h
  refine G_sld K hX hbl hbA dL_285 hin ?_
  obtain ⟨r2, e2, h⟩ := wpO_bind h
  refine G_callVi (ci := 12) [.int (xs (x4 + 1).toNatClampNeg), .int (xs (x4 + 2).toNatClampNeg), .int (xs (x4 + 3).toNatClampNeg), .int (xs (x4 + 4).toNatClampNeg), .int (xs (x4 + 5).toNatClampNeg)] [] K dL_286 wv_1640 yd_X12_feed (Nat.le_of_ble_eq_true rfl) (sh_94 _ _) rfl (by decide) ⟨by show C + 0 + 0 ≤ 601024; omega, by show S + 0 + 0 ≤ 7293034; omega⟩ rfl rfl (Nat.le_of_ble_eq_true rfl) (K_MO_feed l g htr (xs (x4 + 1).toNatClampNeg) (xs (x4 + 2).toNatClampNeg) (xs (x4 + 3).toNatClampNeg) (xs (x4 + 4).toNatClampNeg) (xs (x4 + 5).toNatClampNeg) r1.2 _ _ e2) ?_
  refine G_pop rfl K dL_289 ?_
  refine G_goto (tgt := 1998) K dL_290 (by decide) ?_
  exact G_wide (k := C + 8) (n := S + 48) (by show C + 0 ≤ C + 8; omega) (by show S + 0 ≤ S + 48; omega) (hnext r2.2 (wpO_some h))
def F_LAWc_1 (xs : Nat → Int32) (L : Nat) (x4 : Int32) (M : Mem) : Option Mem :=
  if inb (x4 + 1) L then (F_KW_end (xs (x4 + 1).toNatClampNeg) M).bind fun r1 => if inb (x4 + 1) L then (F_MO_end (xs (x4 + 1).toNatClampNeg) r1.2).bind fun r2 => some r2.2 else none else none
set_option maxRecDepth 100000 in
set_option maxHeartbeats 8000000 in
theorem K_LAWc_1 {p : Program} {l : Launch} {e : Env} {s : State} {m : MethodId} {args : Array Value} {below : List Frame} {meth : Method} {c : Code} {g : GB} {Q : State → Prop} {b L : Nat} {xs : Nat → Int32} (K : KF p l s m args meth c g code 8 "KeptWellLaw") (htr : l.stackTraces = false) (hX : va_X b L xs s s.heap) (hbl : b < s.heap.size) (hbA : ¬ AS g s.heap.size b) (C S : Nat) (hC : C + 8 ≤ 601024) (hS : S + 48 ≤ 7293034) (x4 : Int32) (M : Mem) (PHI : Mem → Prop) (hnext : ∀ M, PHI M → GG p l e room_1 s m args below meth c g 8 Q (C + 8) (S + 48) 1998 [(0, .ref b), (1, .ref (g.2.1 0)), (2, .ref (g.2.1 94)), (3, .ref (g.2.1 121)), (4, .int x4)] [] M) (h : wpO (F_LAWc_1 xs L x4 M) PHI) : GG p l e room_1 s m args below meth c g 8 Q C S 293 [(0, .ref b), (1, .ref (g.2.1 0)), (2, .ref (g.2.1 94)), (3, .ref (g.2.1 121)), (4, .int x4)] [] M := by
  unfold F_LAWc_1 at h
  refine G_aload_n rfl 1 rfl K dL_293 ?_
  refine G_aload_n rfl 0 rfl K dL_294 ?_
  refine G_iload 4 rfl K dL_295 ?_
  refine G_iconst (v := 1) rfl K dL_297 ?_
  refine G_iadd K dL_298 ?_
  obtain ⟨hin, h⟩ := wpO_g h
  refine G_sld K hX hbl hbA dL_299 hin ?_
  obtain ⟨r1, e1, h⟩ := wpO_bind h
  refine G_callVi (ci := 11) [.int (xs (x4 + 1).toNatClampNeg)] [] K dL_300 wv_455 yd_X11_end (Nat.le_of_ble_eq_true rfl) (sh_0 _ _) rfl (by decide) ⟨by show C + 0 + 0 ≤ 601024; omega, by show S + 0 + 0 ≤ 7293034; omega⟩ rfl rfl (Nat.le_of_ble_eq_true rfl) (K_KW_end l g htr (xs (x4 + 1).toNatClampNeg) M _ _ e1) ?_
  refine G_pop rfl K dL_303 ?_
  refine G_aload_n rfl 2 rfl K dL_304 ?_
  refine G_aload_n rfl 0 rfl K dL_305 ?_
  refine G_iload 4 rfl K dL_306 ?_
  refine G_iconst (v := 1) rfl K dL_308 ?_
  refine G_iadd K dL_309 ?_
  obtain ⟨hin, h⟩ := wpO_g h
  refine G_sld K hX hbl hbA dL_310 hin ?_
  obtain ⟨r2, e2, h⟩ := wpO_bind h
  refine G_callVi (ci := 12) [.int (xs (x4 + 1).toNatClampNeg)] [] K dL_311 wv_1644 yd_X12_end (Nat.le_of_ble_eq_true rfl) (sh_94 _ _) rfl (by decide) ⟨by show C + 0 + 0 ≤ 601024; omega, by show S + 0 + 0 ≤ 7293034; omega⟩ rfl rfl (Nat.le_of_ble_eq_true rfl) (K_MO_end l g htr (xs (x4 + 1).toNatClampNeg) r1.2 _ _ e2) ?_
  refine G_pop rfl K dL_314 ?_
  refine G_goto (tgt := 1998) K dL_315 (by decide) ?_
  exact G_wide (k := C + 8) (n := S + 48) (by show C + 0 ≤ C + 8; omega) (by show S + 0 ≤ S + 48; omega) (hnext r2.2 (wpO_some h))
def F_LAWc_2 (xs : Nat → Int32) (L : Nat) (x4 : Int32) (M : Mem) : Option Mem :=
  if inb (x4 + 1) L then (F_LAW_acts (xs (x4 + 1).toNatClampNeg) M).bind fun r1 => if inb (x4 + 1) L then (F_MO_acts (xs (x4 + 1).toNatClampNeg) r1.2).bind fun r2 => some r2 else none else none
set_option maxRecDepth 100000 in
set_option maxHeartbeats 8000000 in
theorem K_LAWc_2 {p : Program} {l : Launch} {e : Env} {s : State} {m : MethodId} {args : Array Value} {below : List Frame} {meth : Method} {c : Code} {g : GB} {Q : State → Prop} {b L : Nat} {xs : Nat → Int32} (K : KF p l s m args meth c g code 8 "KeptWellLaw") (htr : l.stackTraces = false) (hX : va_X b L xs s s.heap) (hbl : b < s.heap.size) (hbA : ¬ AS g s.heap.size b) (C S : Nat) (hC : C + 8 ≤ 601024) (hS : S + 48 ≤ 7293034) (x4 : Int32) (M : Mem) (PHI : Mem → Prop) (hnext : ∀ M, PHI M → GG p l e room_1 s m args below meth c g 8 Q (C + 8) (S + 48) 1998 [(0, .ref b), (1, .ref (g.2.1 0)), (2, .ref (g.2.1 94)), (3, .ref (g.2.1 121)), (4, .int x4)] [] M) (h : wpO (F_LAWc_2 xs L x4 M) PHI) : GG p l e room_1 s m args below meth c g 8 Q C S 318 [(0, .ref b), (1, .ref (g.2.1 0)), (2, .ref (g.2.1 94)), (3, .ref (g.2.1 121)), (4, .int x4)] [] M := by
  unfold F_LAWc_2 at h
  refine G_aload_n rfl 1 rfl K dL_318 ?_
  refine G_aload_n rfl 0 rfl K dL_319 ?_
  refine G_iload 4 rfl K dL_320 ?_
  refine G_iconst (v := 1) rfl K dL_322 ?_
  refine G_iadd K dL_323 ?_
  obtain ⟨hin, h⟩ := wpO_g h
  refine G_sld K hX hbl hbA dL_324 hin ?_
  obtain ⟨r1, e1, h⟩ := wpO_bind h
  refine G_callH [.ref (g.2.1 0), .int (xs (x4 + 1).toNatClampNeg)] [] K dL_325 wv_646 yd_L_acts (by decide) ⟨by show C + 0 + 1 ≤ 601024; omega, by show S + 0 + 6 ≤ 7293034; omega⟩ rfl rfl (Nat.le_of_ble_eq_true rfl) (K_LAW_acts l g htr (xs (x4 + 1).toNatClampNeg) M _ _ e1) ?_
  refine G_istore K dL_328 (Nat.le_of_ble_eq_true rfl) rfl ?_
  refine G_aload_n rfl 3 rfl K dL_330 ?_
  refine G_aload_n rfl 1 rfl K dL_331 ?_
  refine G_iload 5 rfl K dL_332 ?_
  refine G_iconst (v := 1) rfl K dL_334 ?_
  refine G_iadd K dL_335 ?_
  obtain ⟨hin, h⟩ := wpO_g h
  refine G_sld K hX hbl hbA dL_336 hin ?_
  obtain ⟨r2, e2, h⟩ := wpO_bind h
  refine G_callVv (ci := 12) [.int (xs (x4 + 1).toNatClampNeg)] [] K dL_337 wv_1613 yd_X12_acts (Nat.le_of_ble_eq_true rfl) (sh_94 _ _) rfl (by decide) ⟨by show C + 1 + 0 ≤ 601024; omega, by show S + 6 + 0 ≤ 7293034; omega⟩ rfl rfl (Nat.le_of_ble_eq_true rfl) (K_MO_acts l g htr (xs (x4 + 1).toNatClampNeg) r1.2 _ e2) ?_
  refine G_goto (tgt := 1998) K dL_340 (by decide) ?_
  exact G_wide (k := C + 8) (n := S + 48) (by show C + 1 ≤ C + 8; omega) (by show S + 6 ≤ S + 48; omega) (G_lv (lv' := [(0, .ref b), (1, .ref (g.2.1 0)), (2, .ref (g.2.1 94)), (3, .ref (g.2.1 121)), (4, .int x4)]) [1, 2, 3, 4, 5] rfl (hnext r2 (wpO_some h)))
def F_LAWc_3 (xs : Nat → Int32) (L : Nat) (x4 : Int32) (M : Mem) : Option Mem :=
  if inb (x4 + 1) L then if inb (x4 + 2) L then if inb (x4 + 3) L then if inb (x4 + 4) L then (F_LAW_bring (xs (x4 + 1).toNatClampNeg) (xs (x4 + 2).toNatClampNeg) (xs (x4 + 3).toNatClampNeg) (xs (x4 + 4).toNatClampNeg) M).bind fun r1 => if inb (x4 + 1) L then if inb (x4 + 2) L then if inb (x4 + 3) L then if inb (x4 + 4) L then (F_MO_bring (xs (x4 + 1).toNatClampNeg) (xs (x4 + 2).toNatClampNeg) (xs (x4 + 3).toNatClampNeg) (xs (x4 + 4).toNatClampNeg) r1.2).bind fun r2 => some r2 else none else none else none else none else none else none else none else none
set_option maxRecDepth 100000 in
set_option maxHeartbeats 8000000 in
theorem K_LAWc_3 {p : Program} {l : Launch} {e : Env} {s : State} {m : MethodId} {args : Array Value} {below : List Frame} {meth : Method} {c : Code} {g : GB} {Q : State → Prop} {b L : Nat} {xs : Nat → Int32} (K : KF p l s m args meth c g code 8 "KeptWellLaw") (htr : l.stackTraces = false) (hX : va_X b L xs s s.heap) (hbl : b < s.heap.size) (hbA : ¬ AS g s.heap.size b) (C S : Nat) (hC : C + 8 ≤ 601024) (hS : S + 48 ≤ 7293034) (x4 : Int32) (M : Mem) (PHI : Mem → Prop) (hnext : ∀ M, PHI M → GG p l e room_1 s m args below meth c g 8 Q (C + 8) (S + 48) 1998 [(0, .ref b), (1, .ref (g.2.1 0)), (2, .ref (g.2.1 94)), (3, .ref (g.2.1 121)), (4, .int x4)] [] M) (h : wpO (F_LAWc_3 xs L x4 M) PHI) : GG p l e room_1 s m args below meth c g 8 Q C S 343 [(0, .ref b), (1, .ref (g.2.1 0)), (2, .ref (g.2.1 94)), (3, .ref (g.2.1 121)), (4, .int x4)] [] M := by
  unfold F_LAWc_3 at h
  refine G_aload_n rfl 1 rfl K dL_343 ?_
  refine G_aload_n rfl 0 rfl K dL_344 ?_
  refine G_iload 4 rfl K dL_345 ?_
  refine G_iconst (v := 1) rfl K dL_347 ?_
  refine G_iadd K dL_348 ?_
  obtain ⟨hin, h⟩ := wpO_g h
  refine G_sld K hX hbl hbA dL_349 hin ?_
  refine G_aload_n rfl 0 rfl K dL_350 ?_
  refine G_iload 4 rfl K dL_351 ?_
  refine G_iconst (v := 2) rfl K dL_353 ?_
  refine G_iadd K dL_354 ?_
  obtain ⟨hin, h⟩ := wpO_g h
  refine G_sld K hX hbl hbA dL_355 hin ?_
  refine G_aload_n rfl 0 rfl K dL_356 ?_
  refine G_iload 4 rfl K dL_357 ?_
  refine G_iconst (v := 3) rfl K dL_359 ?_
  refine G_iadd K dL_360 ?_
  obtain ⟨hin, h⟩ := wpO_g h
  refine G_sld K hX hbl hbA dL_361 hin ?_
  refine G_aload_n rfl 0 rfl K dL_362 ?_
  refine G_iload 4 rfl K dL_363 ?_
  refine G_iconst (v := 4) rfl K dL_365 ?_
  refine G_iadd K dL_366 ?_
  obtain ⟨hin, h⟩ := wpO_g h
  refine G_sld K hX hbl hbA dL_367 hin ?_
  obtain ⟨r1, e1, h⟩ := wpO_bind h
  refine G_callH [.ref (g.2.1 0), .int (xs (x4 + 1).toNatClampNeg), .int (xs (x4 + 2).toNatClampNeg), .int (xs (x4 + 3).toNatClampNeg), .int (xs (x4 + 4).toNatClampNeg)] [] K dL_368 wv_723 yd_L_bring (by decide) ⟨by show C + 0 + 4 ≤ 601024; omega, by show S + 0 + 24 ≤ 7293034; omega⟩ rfl rfl (Nat.le_of_ble_eq_true rfl) (K_LAW_bring l g htr (xs (x4 + 1).toNatClampNeg) (xs (x4 + 2).toNatClampNeg) (xs (x4 + 3).toNatClampNeg) (xs (x4 + 4).toNatClampNeg) M _ _ e1) ?_
  refine G_istore K dL_371 (Nat.le_of_ble_eq_true rfl) rfl ?_
  refine G_aload_n rfl 3 rfl K dL_373 ?_
  refine G_aload_n rfl 1 rfl K dL_374 ?_
  refine G_iload 5 rfl K dL_375 ?_
  refine G_iconst (v := 1) rfl K dL_377 ?_
  refine G_iadd K dL_378 ?_
  obtain ⟨hin, h⟩ := wpO_g h
  refine G_sld K hX hbl hbA dL_379 hin ?_
  refine G_aload_n rfl 1 rfl K dL_380 ?_
  refine G_iload 5 rfl K dL_381 ?_
  refine G_iconst (v := 2) rfl K dL_383 ?_
  refine G_iadd K dL_384 ?_
  obtain ⟨hin, h⟩ := wpO_g h
  refine G_sld K hX hbl hbA dL_385 hin ?_
  refine G_aload_n rfl 1 rfl K dL_386 ?_
  refine G_iload 5 rfl K dL_387 ?_
  refine G_iconst (v := 3) rfl K dL_389 ?_
  refine G_iadd K dL_390 ?_
  obtain ⟨hin, h⟩ := wpO_g h
  refine G_sld K hX hbl hbA dL_391 hin ?_
  refine G_aload_n rfl 1 rfl K dL_392 ?_
  refine G_iload 5 rfl K dL_393 ?_
  refine G_iconst (v := 4) rfl K dL_395 ?_
  refine G_iadd K dL_396 ?_
  obtain ⟨hin, h⟩ := wpO_g h
  refine G_sld K hX hbl hbA dL_397 hin ?_
  obtain ⟨r2, e2, h⟩ := wpO_bind h
  refine G_callVv (ci := 12) [.int (xs (x4 + 1).toNatClampNeg), .int (xs (x4 + 2).toNatClampNeg), .int (xs (x4 + 3).toNatClampNeg), .int (xs (x4 + 4).toNatClampNeg)] [] K dL_398 wv_1624 yd_X12_bring (Nat.le_of_ble_eq_true rfl) (sh_94 _ _) rfl (by decide) ⟨by show C + 4 + 0 ≤ 601024; omega, by show S + 24 + 0 ≤ 7293034; omega⟩ rfl rfl (Nat.le_of_ble_eq_true rfl) (K_MO_bring l g htr (xs (x4 + 1).toNatClampNeg) (xs (x4 + 2).toNatClampNeg) (xs (x4 + 3).toNatClampNeg) (xs (x4 + 4).toNatClampNeg) r1.2 _ e2) ?_
  refine G_goto (tgt := 1998) K dL_401 (by decide) ?_
  exact G_wide (k := C + 8) (n := S + 48) (by show C + 4 ≤ C + 8; omega) (by show S + 24 ≤ S + 48; omega) (G_lv (lv' := [(0, .ref b), (1, .ref (g.2.1 0)), (2, .ref (g.2.1 94)), (3, .ref (g.2.1 121)), (4, .int x4)]) [1, 2, 3, 4, 5] rfl (hnext r2 (wpO_some h)))
def F_LAWc_4 (xs : Nat → Int32) (L : Nat) (x4 : Int32) (M : Mem) : Option Mem :=
  if inb (x4 + 1) L then if inb (x4 + 2) L then (F_LAW_tomorrow (xs (x4 + 1).toNatClampNeg) (xs (x4 + 2).toNatClampNeg) M).bind fun r1 => if inb (x4 + 1) L then if inb (x4 + 2) L then (F_MO_tomorrow (xs (x4 + 1).toNatClampNeg) (xs (x4 + 2).toNatClampNeg) r1.2).bind fun r2 => some r2 else none else none else none else none
set_option maxRecDepth 100000 in
set_option maxHeartbeats 8000000 in
theorem K_LAWc_4 {p : Program} {l : Launch} {e : Env} {s : State} {m : MethodId} {args : Array Value} {below : List Frame} {meth : Method} {c : Code} {g : GB} {Q : State → Prop} {b L : Nat} {xs : Nat → Int32} (K : KF p l s m args meth c g code 8 "KeptWellLaw") (htr : l.stackTraces = false) (hX : va_X b L xs s s.heap) (hbl : b < s.heap.size) (hbA : ¬ AS g s.heap.size b) (C S : Nat) (hC : C + 8 ≤ 601024) (hS : S + 48 ≤ 7293034) (x4 : Int32) (M : Mem) (PHI : Mem → Prop) (hnext : ∀ M, PHI M → GG p l e room_1 s m args below meth c g 8 Q (C + 8) (S + 48) 1998 [(0, .ref b), (1, .ref (g.2.1 0)), (2, .ref (g.2.1 94)), (3, .ref (g.2.1 121)), (4, .int x4)] [] M) (h : wpO (F_LAWc_4 xs L x4 M) PHI) : GG p l e room_1 s m args below meth c g 8 Q C S 404 [(0, .ref b), (1, .ref (g.2.1 0)), (2, .ref (g.2.1 94)), (3, .ref (g.2.1 121)), (4, .int x4)] [] M := by
  unfold F_LAWc_4 at h
  refine G_aload_n rfl 1 rfl K dL_404 ?_
  refine G_aload_n rfl 0 rfl K dL_405 ?_
  refine G_iload 4 rfl K dL_406 ?_
  refine G_iconst (v := 1) rfl K dL_408 ?_
  refine G_iadd K dL_409 ?_
  obtain ⟨hin, h⟩ := wpO_g h
  refine G_sld K hX hbl hbA dL_410 hin ?_
  refine G_aload_n rfl 0 rfl K dL_411 ?_
  refine G_iload 4 rfl K dL_412 ?_
  refine G_iconst (v := 2) rfl K dL_414 ?_
  refine G_iadd K dL_415 ?_
  obtain ⟨hin, h⟩ := wpO_g h
  refine G_sld K hX hbl hbA dL_416 hin ?_
  obtain ⟨r1, e1, h⟩ := wpO_bind h
  refine G_callH [.ref (g.2.1 0), .int (xs (x4 + 1).toNatClampNeg), .int (xs (x4 + 2).toNatClampNeg)] [] K dL_417 wv_755 yd_L_tomorrow (by decide) ⟨by show C + 0 + 2 ≤ 601024; omega, by show S + 0 + 12 ≤ 7293034; omega⟩ rfl rfl (Nat.le_of_ble_eq_true rfl) (K_LAW_tomorrow l g htr (xs (x4 + 1).toNatClampNeg) (xs (x4 + 2).toNatClampNeg) M _ _ e1) ?_
  refine G_istore K dL_420 (Nat.le_of_ble_eq_true rfl) rfl ?_
  refine G_aload_n rfl 3 rfl K dL_422 ?_
  refine G_aload_n rfl 1 rfl K dL_423 ?_
  refine G_iload 5 rfl K dL_424 ?_
  refine G_iconst (v := 1) rfl K dL_426 ?_
  refine G_iadd K dL_427 ?_
  obtain ⟨hin, h⟩ := wpO_g h
  refine G_sld K hX hbl hbA dL_428 hin ?_
  refine G_aload_n rfl 1 rfl K dL_429 ?_
  refine G_iload 5 rfl K dL_430 ?_
  refine G_iconst (v := 2) rfl K dL_432 ?_
  refine G_iadd K dL_433 ?_
  obtain ⟨hin, h⟩ := wpO_g h
  refine G_sld K hX hbl hbA dL_434 hin ?_
  obtain ⟨r2, e2, h⟩ := wpO_bind h
  refine G_callVv (ci := 12) [.int (xs (x4 + 1).toNatClampNeg), .int (xs (x4 + 2).toNatClampNeg)] [] K dL_435 wv_1636 yd_X12_tomorrow (Nat.le_of_ble_eq_true rfl) (sh_94 _ _) rfl (by decide) ⟨by show C + 2 + 0 ≤ 601024; omega, by show S + 12 + 0 ≤ 7293034; omega⟩ rfl rfl (Nat.le_of_ble_eq_true rfl) (K_MO_tomorrow l g htr (xs (x4 + 1).toNatClampNeg) (xs (x4 + 2).toNatClampNeg) r1.2 _ e2) ?_
  refine G_goto (tgt := 1998) K dL_438 (by decide) ?_
  exact G_wide (k := C + 8) (n := S + 48) (by show C + 2 ≤ C + 8; omega) (by show S + 12 ≤ S + 48; omega) (G_lv (lv' := [(0, .ref b), (1, .ref (g.2.1 0)), (2, .ref (g.2.1 94)), (3, .ref (g.2.1 121)), (4, .int x4)]) [1, 2, 3, 4, 5] rfl (hnext r2 (wpO_some h)))
def F_LAWc_5 (xs : Nat → Int32) (L : Nat) (x4 : Int32) (M : Mem) : Option Mem :=
  (F_LAW_way M).bind fun r1 => (F_MO_way r1.2).bind fun r2 => some r2.2
set_option maxRecDepth 100000 in
set_option maxHeartbeats 8000000 in
theorem K_LAWc_5 {p : Program} {l : Launch} {e : Env} {s : State} {m : MethodId} {args : Array Value} {below : List Frame} {meth : Method} {c : Code} {g : GB} {Q : State → Prop} {b L : Nat} {xs : Nat → Int32} (K : KF p l s m args meth c g code 8 "KeptWellLaw") (htr : l.stackTraces = false) (hX : va_X b L xs s s.heap) (hbl : b < s.heap.size) (hbA : ¬ AS g s.heap.size b) (C S : Nat) (hC : C + 8 ≤ 601024) (hS : S + 48 ≤ 7293034) (x4 : Int32) (M : Mem) (PHI : Mem → Prop) (hnext : ∀ M, PHI M → GG p l e room_1 s m args below meth c g 8 Q (C + 8) (S + 48) 1998 [(0, .ref b), (1, .ref (g.2.1 0)), (2, .ref (g.2.1 94)), (3, .ref (g.2.1 121)), (4, .int x4)] [] M) (h : wpO (F_LAWc_5 xs L x4 M) PHI) : GG p l e room_1 s m args below meth c g 8 Q C S 441 [(0, .ref b), (1, .ref (g.2.1 0)), (2, .ref (g.2.1 94)), (3, .ref (g.2.1 121)), (4, .int x4)] [] M := by
  unfold F_LAWc_5 at h
  refine G_aload_n rfl 1 rfl K dL_441 ?_
  refine G_aload_n rfl 3 rfl K dL_442 ?_
  obtain ⟨r1, e1, h⟩ := wpO_bind h
  refine G_callH [.ref (g.2.1 0), .ref (g.2.1 121)] [] K dL_443 wv_762 yd_L_way (by decide) ⟨by show C + 0 + 1 ≤ 601024; omega, by show S + 0 + 6 ≤ 7293034; omega⟩ rfl rfl (Nat.le_of_ble_eq_true rfl) (K_LAW_way l g htr  M _ _ e1) ?_
  refine G_istore K dL_446 (Nat.le_of_ble_eq_true rfl) rfl ?_
  refine G_aload_n rfl 3 rfl K dL_448 ?_
  obtain ⟨r2, e2, h⟩ := wpO_bind h
  refine G_callVi (ci := 12) [] [] K dL_449 wv_1652 yd_X12_way (Nat.le_of_ble_eq_true rfl) (sh_94 _ _) rfl (by decide) ⟨by show C + 1 + 0 ≤ 601024; omega, by show S + 6 + 0 ≤ 7293034; omega⟩ rfl rfl (Nat.le_of_ble_eq_true rfl) (K_MO_way l g htr  r1.2 _ _ e2) ?_
  refine G_istore K dL_452 (Nat.le_of_ble_eq_true rfl) rfl ?_
  refine G_goto (tgt := 1998) K dL_454 (by decide) ?_
  exact G_wide (k := C + 8) (n := S + 48) (by show C + 1 ≤ C + 8; omega) (by show S + 6 ≤ S + 48; omega) (G_lv (lv' := [(0, .ref b), (1, .ref (g.2.1 0)), (2, .ref (g.2.1 94)), (3, .ref (g.2.1 121)), (4, .int x4)]) [2, 3, 4, 5, 6] rfl (hnext r2.2 (wpO_some h)))
def F_LAWc_6 (xs : Nat → Int32) (L : Nat) (x4 : Int32) (M : Mem) : Option Mem :=
  (F_KW_fault M).bind fun r1 => (F_MO_fault M).bind fun r2 => some r2.2
set_option maxRecDepth 100000 in
set_option maxHeartbeats 8000000 in
theorem K_LAWc_6 {p : Program} {l : Launch} {e : Env} {s : State} {m : MethodId} {args : Array Value} {below : List Frame} {meth : Method} {c : Code} {g : GB} {Q : State → Prop} {b L : Nat} {xs : Nat → Int32} (K : KF p l s m args meth c g code 8 "KeptWellLaw") (htr : l.stackTraces = false) (hX : va_X b L xs s s.heap) (hbl : b < s.heap.size) (hbA : ¬ AS g s.heap.size b) (C S : Nat) (hC : C + 8 ≤ 601024) (hS : S + 48 ≤ 7293034) (x4 : Int32) (M : Mem) (PHI : Mem → Prop) (hnext : ∀ M, PHI M → GG p l e room_1 s m args below meth c g 8 Q (C + 8) (S + 48) 1998 [(0, .ref b), (1, .ref (g.2.1 0)), (2, .ref (g.2.1 94)), (3, .ref (g.2.1 121)), (4, .int x4)] [] M) (h : wpO (F_LAWc_6 xs L x4 M) PHI) : GG p l e room_1 s m args below meth c g 8 Q C S 457 [(0, .ref b), (1, .ref (g.2.1 0)), (2, .ref (g.2.1 94)), (3, .ref (g.2.1 121)), (4, .int x4)] [] M := by
  unfold F_LAWc_6 at h
  refine G_aload_n rfl 1 rfl K dL_457 ?_
  obtain ⟨r1, e1, h⟩ := wpO_bind h
  refine G_callVi (ci := 11) [] [] K dL_458 wv_459 yd_X11_fault (Nat.le_of_ble_eq_true rfl) (sh_0 _ _) rfl (by decide) ⟨by show C + 0 + 0 ≤ 601024; omega, by show S + 0 + 0 ≤ 7293034; omega⟩ rfl rfl (Nat.le_of_ble_eq_true rfl) (K_KW_fault l g htr  M _ e1) ?_
  refine G_pop rfl K dL_461 ?_
  refine G_aload_n rfl 2 rfl K dL_462 ?_
  obtain ⟨r2, e2, h⟩ := wpO_bind h
  refine G_callVi (ci := 12) [] [] K dL_463 wv_1648 yd_X12_fault (Nat.le_of_ble_eq_true rfl) (sh_94 _ _) rfl (by decide) ⟨by show C + 0 + 0 ≤ 601024; omega, by show S + 0 + 0 ≤ 7293034; omega⟩ rfl rfl (Nat.le_of_ble_eq_true rfl) (K_MO_fault l g htr  M _ _ e2) ?_
  refine G_pop rfl K dL_466 ?_
  refine G_goto (tgt := 1998) K dL_467 (by decide) ?_
  exact G_wide (k := C + 8) (n := S + 48) (by show C + 0 ≤ C + 8; omega) (by show S + 0 ≤ S + 48; omega) (hnext r2.2 (wpO_some h))
def F_LAWc_7 (xs : Nat → Int32) (L : Nat) (x4 : Int32) (M : Mem) : Option Mem :=
  if inb (x4 + 1) L then if inb (x4 + 2) L then if inb (x4 + 3) L then (F_LAW_mood (xs (x4 + 1).toNatClampNeg) (xs (x4 + 2).toNatClampNeg) (xs (x4 + 3).toNatClampNeg) M).bind fun r1 => if inb (x4 + 1) L then if inb (x4 + 2) L then if inb (x4 + 3) L then (F_MO_mood (xs (x4 + 1).toNatClampNeg) (xs (x4 + 2).toNatClampNeg) (xs (x4 + 3).toNatClampNeg) r1.2).bind fun r2 => some r2.2 else none else none else none else none else none else none
set_option maxRecDepth 100000 in
set_option maxHeartbeats 8000000 in
theorem K_LAWc_7 {p : Program} {l : Launch} {e : Env} {s : State} {m : MethodId} {args : Array Value} {below : List Frame} {meth : Method} {c : Code} {g : GB} {Q : State → Prop} {b L : Nat} {xs : Nat → Int32} (K : KF p l s m args meth c g code 8 "KeptWellLaw") (htr : l.stackTraces = false) (hX : va_X b L xs s s.heap) (hbl : b < s.heap.size) (hbA : ¬ AS g s.heap.size b) (C S : Nat) (hC : C + 8 ≤ 601024) (hS : S + 48 ≤ 7293034) (x4 : Int32) (M : Mem) (PHI : Mem → Prop) (hnext : ∀ M, PHI M → GG p l e room_1 s m args below meth c g 8 Q (C + 8) (S + 48) 1998 [(0, .ref b), (1, .ref (g.2.1 0)), (2, .ref (g.2.1 94)), (3, .ref (g.2.1 121)), (4, .int x4)] [] M) (h : wpO (F_LAWc_7 xs L x4 M) PHI) : GG p l e room_1 s m args below meth c g 8 Q C S 470 [(0, .ref b), (1, .ref (g.2.1 0)), (2, .ref (g.2.1 94)), (3, .ref (g.2.1 121)), (4, .int x4)] [] M := by
  unfold F_LAWc_7 at h
  refine G_aload_n rfl 1 rfl K dL_470 ?_
  refine G_aload_n rfl 0 rfl K dL_471 ?_
  refine G_iload 4 rfl K dL_472 ?_
  refine G_iconst (v := 1) rfl K dL_474 ?_
  refine G_iadd K dL_475 ?_
  obtain ⟨hin, h⟩ := wpO_g h
  refine G_sld K hX hbl hbA dL_476 hin ?_
  refine G_aload_n rfl 0 rfl K dL_477 ?_
  refine G_iload 4 rfl K dL_478 ?_
  refine G_iconst (v := 2) rfl K dL_480 ?_
  refine G_iadd K dL_481 ?_
  obtain ⟨hin, h⟩ := wpO_g h
  refine G_sld K hX hbl hbA dL_482 hin ?_
  refine G_aload_n rfl 0 rfl K dL_483 ?_
  refine G_iload 4 rfl K dL_484 ?_
  refine G_iconst (v := 3) rfl K dL_486 ?_
  refine G_iadd K dL_487 ?_
  obtain ⟨hin, h⟩ := wpO_g h
  refine G_sld K hX hbl hbA dL_488 hin ?_
  refine G_aload_n rfl 3 rfl K dL_489 ?_
  obtain ⟨r1, e1, h⟩ := wpO_bind h
  refine G_callH [.ref (g.2.1 0), .int (xs (x4 + 1).toNatClampNeg), .int (xs (x4 + 2).toNatClampNeg), .int (xs (x4 + 3).toNatClampNeg), .ref (g.2.1 121)] [] K dL_490 wv_890 yd_L_mood (by decide) ⟨by show C + 0 + 3 ≤ 601024; omega, by show S + 0 + 18 ≤ 7293034; omega⟩ rfl rfl (Nat.le_of_ble_eq_true rfl) (K_LAW_mood l g htr (xs (x4 + 1).toNatClampNeg) (xs (x4 + 2).toNatClampNeg) (xs (x4 + 3).toNatClampNeg) M _ _ e1) ?_
  refine G_istore K dL_493 (Nat.le_of_ble_eq_true rfl) rfl ?_
  refine G_aload_n rfl 3 rfl K dL_495 ?_
  refine G_aload_n rfl 1 rfl K dL_496 ?_
  refine G_iload 5 rfl K dL_497 ?_
  refine G_iconst (v := 1) rfl K dL_499 ?_
  refine G_iadd K dL_500 ?_
  obtain ⟨hin, h⟩ := wpO_g h
  refine G_sld K hX hbl hbA dL_501 hin ?_
  refine G_aload_n rfl 1 rfl K dL_502 ?_
  refine G_iload 5 rfl K dL_503 ?_
  refine G_iconst (v := 2) rfl K dL_505 ?_
  refine G_iadd K dL_506 ?_
  obtain ⟨hin, h⟩ := wpO_g h
  refine G_sld K hX hbl hbA dL_507 hin ?_
  refine G_aload_n rfl 1 rfl K dL_508 ?_
  refine G_iload 5 rfl K dL_509 ?_
  refine G_iconst (v := 3) rfl K dL_511 ?_
  refine G_iadd K dL_512 ?_
  obtain ⟨hin, h⟩ := wpO_g h
  refine G_sld K hX hbl hbA dL_513 hin ?_
  obtain ⟨r2, e2, h⟩ := wpO_bind h
  refine G_callVi (ci := 12) [.int (xs (x4 + 1).toNatClampNeg), .int (xs (x4 + 2).toNatClampNeg), .int (xs (x4 + 3).toNatClampNeg)] [] K dL_514 wv_1705 yd_X12_mood (Nat.le_of_ble_eq_true rfl) (sh_94 _ _) rfl (by decide) ⟨by show C + 3 + 0 ≤ 601024; omega, by show S + 18 + 0 ≤ 7293034; omega⟩ rfl rfl (Nat.le_of_ble_eq_true rfl) (K_MO_mood l g htr (xs (x4 + 1).toNatClampNeg) (xs (x4 + 2).toNatClampNeg) (xs (x4 + 3).toNatClampNeg) r1.2 _ _ e2) ?_
  refine G_istore K dL_517 (Nat.le_of_ble_eq_true rfl) rfl ?_
  refine G_goto (tgt := 1998) K dL_519 (by decide) ?_
  exact G_wide (k := C + 8) (n := S + 48) (by show C + 3 ≤ C + 8; omega) (by show S + 18 ≤ S + 48; omega) (G_lv (lv' := [(0, .ref b), (1, .ref (g.2.1 0)), (2, .ref (g.2.1 94)), (3, .ref (g.2.1 121)), (4, .int x4)]) [2, 3, 4, 5, 6] rfl (hnext r2.2 (wpO_some h)))
def F_LAWc_8_j620 (xs : Nat → Int32) (L : Nat) (x4 : Int32) (s1 : Int32) (s2 : Int32) (s3 : Int32) (s4 : Int32) (s5 : Int32) (s6 : Bool) (M : Mem) : Option (Mem) :=
  (F_MO_worth s1 s2 s3 s4 s5 ((b2i s6)) M).bind fun r2 => some r2.2
def F_LAWc_8_j568 (xs : Nat → Int32) (L : Nat) (x4 : Int32) (s1 : Int32) (s2 : Int32) (s3 : Int32) (s4 : Int32) (s5 : Int32) (s6 : Bool) (M : Mem) : Option (Mem) :=
  (F_LAW_worth s1 s2 s3 s4 s5 ((b2i s6)) M).bind fun r1 => if inb (x4 + 1) L then if inb (x4 + 2) L then if inb (x4 + 3) L then if inb (x4 + 4) L then if inb (x4 + 5) L then if inb (x4 + 6) L then if (xs (x4 + 6).toNatClampNeg) = 0 then F_LAWc_8_j620 xs L x4 (xs (x4 + 1).toNatClampNeg) (xs (x4 + 2).toNatClampNeg) (xs (x4 + 3).toNatClampNeg) (xs (x4 + 4).toNatClampNeg) (xs (x4 + 5).toNatClampNeg) false r1.2 else F_LAWc_8_j620 xs L x4 (xs (x4 + 1).toNatClampNeg) (xs (x4 + 2).toNatClampNeg) (xs (x4 + 3).toNatClampNeg) (xs (x4 + 4).toNatClampNeg) (xs (x4 + 5).toNatClampNeg) true r1.2 else none else none else none else none else none else none
def F_LAWc_8 (xs : Nat → Int32) (L : Nat) (x4 : Int32) (M : Mem) : Option Mem :=
  if inb (x4 + 1) L then if inb (x4 + 2) L then if inb (x4 + 3) L then if inb (x4 + 4) L then if inb (x4 + 5) L then if inb (x4 + 6) L then if (xs (x4 + 6).toNatClampNeg) = 0 then F_LAWc_8_j568 xs L x4 (xs (x4 + 1).toNatClampNeg) (xs (x4 + 2).toNatClampNeg) (xs (x4 + 3).toNatClampNeg) (xs (x4 + 4).toNatClampNeg) (xs (x4 + 5).toNatClampNeg) false M else F_LAWc_8_j568 xs L x4 (xs (x4 + 1).toNatClampNeg) (xs (x4 + 2).toNatClampNeg) (xs (x4 + 3).toNatClampNeg) (xs (x4 + 4).toNatClampNeg) (xs (x4 + 5).toNatClampNeg) true M else none else none else none else none else none else none
set_option maxRecDepth 100000 in
set_option maxHeartbeats 8000000 in
theorem K_LAWc_8 {p : Program} {l : Launch} {e : Env} {s : State} {m : MethodId} {args : Array Value} {below : List Frame} {meth : Method} {c : Code} {g : GB} {Q : State → Prop} {b L : Nat} {xs : Nat → Int32} (K : KF p l s m args meth c g code 8 "KeptWellLaw") (htr : l.stackTraces = false) (hX : va_X b L xs s s.heap) (hbl : b < s.heap.size) (hbA : ¬ AS g s.heap.size b) (C S : Nat) (hC : C + 8 ≤ 601024) (hS : S + 48 ≤ 7293034) (x4 : Int32) (M : Mem) (PHI : Mem → Prop) (hnext : ∀ M, PHI M → GG p l e room_1 s m args below meth c g 8 Q (C + 8) (S + 48) 1998 [(0, .ref b), (1, .ref (g.2.1 0)), (2, .ref (g.2.1 94)), (3, .ref (g.2.1 121)), (4, .int x4)] [] M) (h : wpO (F_LAWc_8 xs L x4 M) PHI) : GG p l e room_1 s m args below meth c g 8 Q C S 522 [(0, .ref b), (1, .ref (g.2.1 0)), (2, .ref (g.2.1 94)), (3, .ref (g.2.1 121)), (4, .int x4)] [] M := by
  have J620 : ∀ (s1 : Int32) (s2 : Int32) (s3 : Int32) (s4 : Int32) (s5 : Int32) (s6 : Bool) (M : Mem), wpO (F_LAWc_8_j620 xs L x4 s1 s2 s3 s4 s5 s6 M) PHI → GG p l e room_1 s m args below meth c g 8 Q (C + 7) (S + 42) 620 [(0, .ref b), (1, .ref (g.2.1 0)), (2, .ref (g.2.1 94)), (3, .ref (g.2.1 121)), (4, .int x4)] [.int ((b2i s6)), .int s5, .int s4, .int s3, .int s2, .int s1, .ref (g.2.1 94)] M := by
    intro s1 s2 s3 s4 s5 s6 M h
    unfold F_LAWc_8_j620 at h
    obtain ⟨r2, e2, h⟩ := wpO_bind h
    refine G_callVl (ci := 12) [.int s1, .int s2, .int s3, .int s4, .int s5, .int ((b2i s6))] [] K dL_620 wv_1733 yd_X12_worth (Nat.le_of_ble_eq_true rfl) (sh_94 _ _) rfl (by decide) ⟨by show C + 7 + 0 ≤ 601024; omega, by show S + 42 + 0 ≤ 7293034; omega⟩ rfl rfl (Nat.le_of_ble_eq_true rfl) (K_MO_worth l g htr s1 s2 s3 s4 s5 ((b2i s6)) M _ _ e2) ?_
    refine G_lstore K dL_623 (Nat.le_of_ble_eq_true rfl) rfl ?_
    refine G_goto (tgt := 1998) K dL_625 (by decide) ?_
    exact G_wide (k := C + 8) (n := S + 48) (by show C + 7 ≤ C + 8; omega) (by show S + 42 ≤ S + 48; omega) (G_lv (lv' := [(0, .ref b), (1, .ref (g.2.1 0)), (2, .ref (g.2.1 94)), (3, .ref (g.2.1 121)), (4, .int x4)]) [1, 2, 3, 4, 5] rfl (hnext r2.2 (wpO_some h)))
  have J568 : ∀ (s1 : Int32) (s2 : Int32) (s3 : Int32) (s4 : Int32) (s5 : Int32) (s6 : Bool) (M : Mem), wpO (F_LAWc_8_j568 xs L x4 s1 s2 s3 s4 s5 s6 M) PHI → GG p l e room_1 s m args below meth c g 8 Q (C + 0) (S + 0) 568 [(0, .ref b), (1, .ref (g.2.1 0)), (2, .ref (g.2.1 94)), (3, .ref (g.2.1 121)), (4, .int x4)] [.int ((b2i s6)), .int s5, .int s4, .int s3, .int s2, .int s1, .ref (g.2.1 0)] M := by
    intro s1 s2 s3 s4 s5 s6 M h
    unfold F_LAWc_8_j568 at h
    refine G_aload_n rfl 3 rfl K dL_568 ?_
    obtain ⟨r1, e1, h⟩ := wpO_bind h
    refine G_callH [.ref (g.2.1 0), .int s1, .int s2, .int s3, .int s4, .int s5, .int ((b2i s6)), .ref (g.2.1 121)] [] K dL_569 wv_929 yd_L_worth (by decide) ⟨by show C + 0 + 7 ≤ 601024; omega, by show S + 0 + 42 ≤ 7293034; omega⟩ rfl rfl (Nat.le_of_ble_eq_true rfl) (K_LAW_worth l g htr s1 s2 s3 s4 s5 ((b2i s6)) M _ _ e1) ?_
    refine G_istore K dL_572 (Nat.le_of_ble_eq_true rfl) rfl ?_
    refine G_aload_n rfl 3 rfl K dL_574 ?_
    refine G_aload_n rfl 1 rfl K dL_575 ?_
    refine G_iload 5 rfl K dL_576 ?_
    refine G_iconst (v := 1) rfl K dL_578 ?_
    refine G_iadd K dL_579 ?_
    obtain ⟨hin, h⟩ := wpO_g h
    refine G_sld K hX hbl hbA dL_580 hin ?_
    refine G_aload_n rfl 1 rfl K dL_581 ?_
    refine G_iload 5 rfl K dL_582 ?_
    refine G_iconst (v := 2) rfl K dL_584 ?_
    refine G_iadd K dL_585 ?_
    obtain ⟨hin, h⟩ := wpO_g h
    refine G_sld K hX hbl hbA dL_586 hin ?_
    refine G_aload_n rfl 1 rfl K dL_587 ?_
    refine G_iload 5 rfl K dL_588 ?_
    refine G_iconst (v := 3) rfl K dL_590 ?_
    refine G_iadd K dL_591 ?_
    obtain ⟨hin, h⟩ := wpO_g h
    refine G_sld K hX hbl hbA dL_592 hin ?_
    refine G_aload_n rfl 1 rfl K dL_593 ?_
    refine G_iload 5 rfl K dL_594 ?_
    refine G_iconst (v := 4) rfl K dL_596 ?_
    refine G_iadd K dL_597 ?_
    obtain ⟨hin, h⟩ := wpO_g h
    refine G_sld K hX hbl hbA dL_598 hin ?_
    refine G_aload_n rfl 1 rfl K dL_599 ?_
    refine G_iload 5 rfl K dL_600 ?_
    refine G_iconst (v := 5) rfl K dL_602 ?_
    refine G_iadd K dL_603 ?_
    obtain ⟨hin, h⟩ := wpO_g h
    refine G_sld K hX hbl hbA dL_604 hin ?_
    refine G_aload_n rfl 1 rfl K dL_605 ?_
    refine G_iload 5 rfl K dL_606 ?_
    refine G_bipush (v := 6) rfl K dL_608 ?_
    refine G_iadd K dL_610 ?_
    obtain ⟨hin, h⟩ := wpO_g h
    refine G_sld K hX hbl hbA dL_611 hin ?_
    refine G_if_eq (tgt := 619) K dL_612 (by decide) (fun hc => ?_) (fun hc => ?_)
    · have h := wpO_t h hc
      refine G_iconst (v := 0) rfl K dL_619 ?_
      exact G_lv (lv' := [(0, .ref b), (1, .ref (g.2.1 0)), (2, .ref (g.2.1 94)), (3, .ref (g.2.1 121)), (4, .int x4)]) [1, 2, 3, 4, 5] rfl (J620 (xs (x4 + 1).toNatClampNeg) (xs (x4 + 2).toNatClampNeg) (xs (x4 + 3).toNatClampNeg) (xs (x4 + 4).toNatClampNeg) (xs (x4 + 5).toNatClampNeg) false r1.2 h)
    · have h := wpO_f h hc
      refine G_iconst (v := 1) rfl K dL_615 ?_
      refine G_goto (tgt := 620) K dL_616 (by decide) ?_
      exact G_lv (lv' := [(0, .ref b), (1, .ref (g.2.1 0)), (2, .ref (g.2.1 94)), (3, .ref (g.2.1 121)), (4, .int x4)]) [1, 2, 3, 4, 5] rfl (J620 (xs (x4 + 1).toNatClampNeg) (xs (x4 + 2).toNatClampNeg) (xs (x4 + 3).toNatClampNeg) (xs (x4 + 4).toNatClampNeg) (xs (x4 + 5).toNatClampNeg) true r1.2 h)
  unfold F_LAWc_8 at h
  refine G_aload_n rfl 1 rfl K dL_522 ?_
  refine G_aload_n rfl 0 rfl K dL_523 ?_
  refine G_iload 4 rfl K dL_524 ?_
  refine G_iconst (v := 1) rfl K dL_526 ?_
  refine G_iadd K dL_527 ?_
  obtain ⟨hin, h⟩ := wpO_g h
  refine G_sld K hX hbl hbA dL_528 hin ?_
  refine G_aload_n rfl 0 rfl K dL_529 ?_
  refine G_iload 4 rfl K dL_530 ?_
  refine G_iconst (v := 2) rfl K dL_532 ?_
  refine G_iadd K dL_533 ?_
  obtain ⟨hin, h⟩ := wpO_g h
  refine G_sld K hX hbl hbA dL_534 hin ?_
  refine G_aload_n rfl 0 rfl K dL_535 ?_
  refine G_iload 4 rfl K dL_536 ?_
  refine G_iconst (v := 3) rfl K dL_538 ?_
  refine G_iadd K dL_539 ?_
  obtain ⟨hin, h⟩ := wpO_g h
  refine G_sld K hX hbl hbA dL_540 hin ?_
  refine G_aload_n rfl 0 rfl K dL_541 ?_
  refine G_iload 4 rfl K dL_542 ?_
  refine G_iconst (v := 4) rfl K dL_544 ?_
  refine G_iadd K dL_545 ?_
  obtain ⟨hin, h⟩ := wpO_g h
  refine G_sld K hX hbl hbA dL_546 hin ?_
  refine G_aload_n rfl 0 rfl K dL_547 ?_
  refine G_iload 4 rfl K dL_548 ?_
  refine G_iconst (v := 5) rfl K dL_550 ?_
  refine G_iadd K dL_551 ?_
  obtain ⟨hin, h⟩ := wpO_g h
  refine G_sld K hX hbl hbA dL_552 hin ?_
  refine G_aload_n rfl 0 rfl K dL_553 ?_
  refine G_iload 4 rfl K dL_554 ?_
  refine G_bipush (v := 6) rfl K dL_556 ?_
  refine G_iadd K dL_558 ?_
  obtain ⟨hin, h⟩ := wpO_g h
  refine G_sld K hX hbl hbA dL_559 hin ?_
  refine G_if_eq (tgt := 567) K dL_560 (by decide) (fun hc => ?_) (fun hc => ?_)
  · have h := wpO_t h hc
    refine G_iconst (v := 0) rfl K dL_567 ?_
    exact J568 (xs (x4 + 1).toNatClampNeg) (xs (x4 + 2).toNatClampNeg) (xs (x4 + 3).toNatClampNeg) (xs (x4 + 4).toNatClampNeg) (xs (x4 + 5).toNatClampNeg) false M h
  · have h := wpO_f h hc
    refine G_iconst (v := 1) rfl K dL_563 ?_
    refine G_goto (tgt := 568) K dL_564 (by decide) ?_
    exact J568 (xs (x4 + 1).toNatClampNeg) (xs (x4 + 2).toNatClampNeg) (xs (x4 + 3).toNatClampNeg) (xs (x4 + 4).toNatClampNeg) (xs (x4 + 5).toNatClampNeg) true M h
def F_LAWc_9 (xs : Nat → Int32) (L : Nat) (x4 : Int32) (M : Mem) : Option Mem :=
  if inb (x4 + 1) L then if inb (x4 + 2) L then (F_LAW_hold (xs (x4 + 1).toNatClampNeg) (xs (x4 + 2).toNatClampNeg) M).bind fun r1 => if inb (x4 + 1) L then if inb (x4 + 2) L then (F_MO_hold (xs (x4 + 1).toNatClampNeg) (xs (x4 + 2).toNatClampNeg) r1.2).bind fun r2 => some r2.2 else none else none else none else none
set_option maxRecDepth 100000 in
set_option maxHeartbeats 8000000 in
theorem K_LAWc_9 {p : Program} {l : Launch} {e : Env} {s : State} {m : MethodId} {args : Array Value} {below : List Frame} {meth : Method} {c : Code} {g : GB} {Q : State → Prop} {b L : Nat} {xs : Nat → Int32} (K : KF p l s m args meth c g code 8 "KeptWellLaw") (htr : l.stackTraces = false) (hX : va_X b L xs s s.heap) (hbl : b < s.heap.size) (hbA : ¬ AS g s.heap.size b) (C S : Nat) (hC : C + 8 ≤ 601024) (hS : S + 48 ≤ 7293034) (x4 : Int32) (M : Mem) (PHI : Mem → Prop) (hnext : ∀ M, PHI M → GG p l e room_1 s m args below meth c g 8 Q (C + 8) (S + 48) 1998 [(0, .ref b), (1, .ref (g.2.1 0)), (2, .ref (g.2.1 94)), (3, .ref (g.2.1 121)), (4, .int x4)] [] M) (h : wpO (F_LAWc_9 xs L x4 M) PHI) : GG p l e room_1 s m args below meth c g 8 Q C S 628 [(0, .ref b), (1, .ref (g.2.1 0)), (2, .ref (g.2.1 94)), (3, .ref (g.2.1 121)), (4, .int x4)] [] M := by
  unfold F_LAWc_9 at h
  refine G_aload_n rfl 1 rfl K dL_628 ?_
  refine G_aload_n rfl 0 rfl K dL_629 ?_
  refine G_iload 4 rfl K dL_630 ?_
  refine G_iconst (v := 1) rfl K dL_632 ?_
  refine G_iadd K dL_633 ?_
  obtain ⟨hin, h⟩ := wpO_g h
  refine G_sld K hX hbl hbA dL_634 hin ?_
  refine G_aload_n rfl 0 rfl K dL_635 ?_
  refine G_iload 4 rfl K dL_636 ?_
  refine G_iconst (v := 2) rfl K dL_638 ?_
  refine G_iadd K dL_639 ?_
  obtain ⟨hin, h⟩ := wpO_g h
  refine G_sld K hX hbl hbA dL_640 hin ?_
  refine G_aload_n rfl 3 rfl K dL_641 ?_
  obtain ⟨r1, e1, h⟩ := wpO_bind h
  refine G_callH [.ref (g.2.1 0), .int (xs (x4 + 1).toNatClampNeg), .int (xs (x4 + 2).toNatClampNeg), .ref (g.2.1 121)] [] K dL_642 wv_983 yd_L_hold (by decide) ⟨by show C + 0 + 4 ≤ 601024; omega, by show S + 0 + 24 ≤ 7293034; omega⟩ rfl rfl (Nat.le_of_ble_eq_true rfl) (K_LAW_hold l g htr (xs (x4 + 1).toNatClampNeg) (xs (x4 + 2).toNatClampNeg) M _ _ e1) ?_
  refine G_istore K dL_645 (Nat.le_of_ble_eq_true rfl) rfl ?_
  refine G_aload_n rfl 3 rfl K dL_647 ?_
  refine G_aload_n rfl 1 rfl K dL_648 ?_
  refine G_iload 5 rfl K dL_649 ?_
  refine G_iconst (v := 1) rfl K dL_651 ?_
  refine G_iadd K dL_652 ?_
  obtain ⟨hin, h⟩ := wpO_g h
  refine G_sld K hX hbl hbA dL_653 hin ?_
  refine G_aload_n rfl 1 rfl K dL_654 ?_
  refine G_iload 5 rfl K dL_655 ?_
  refine G_iconst (v := 2) rfl K dL_657 ?_
  refine G_iadd K dL_658 ?_
  obtain ⟨hin, h⟩ := wpO_g h
  refine G_sld K hX hbl hbA dL_659 hin ?_
  obtain ⟨r2, e2, h⟩ := wpO_bind h
  refine G_callVi (ci := 12) [.int (xs (x4 + 1).toNatClampNeg), .int (xs (x4 + 2).toNatClampNeg)] [] K dL_660 wv_1781 yd_X12_hold (Nat.le_of_ble_eq_true rfl) (sh_94 _ _) rfl (by decide) ⟨by show C + 4 + 0 ≤ 601024; omega, by show S + 24 + 0 ≤ 7293034; omega⟩ rfl rfl (Nat.le_of_ble_eq_true rfl) (K_MO_hold l g htr (xs (x4 + 1).toNatClampNeg) (xs (x4 + 2).toNatClampNeg) r1.2 _ _ e2) ?_
  refine G_istore K dL_663 (Nat.le_of_ble_eq_true rfl) rfl ?_
  refine G_goto (tgt := 1998) K dL_665 (by decide) ?_
  exact G_wide (k := C + 8) (n := S + 48) (by show C + 4 ≤ C + 8; omega) (by show S + 24 ≤ S + 48; omega) (G_lv (lv' := [(0, .ref b), (1, .ref (g.2.1 0)), (2, .ref (g.2.1 94)), (3, .ref (g.2.1 121)), (4, .int x4)]) [2, 3, 4, 5, 6] rfl (hnext r2.2 (wpO_some h)))
def F_LAWc_10 (xs : Nat → Int32) (L : Nat) (x4 : Int32) (M : Mem) : Option Mem :=
  if inb (x4 + 1) L then if inb (x4 + 2) L then (F_LAW_first (xs (x4 + 1).toNatClampNeg) (xs (x4 + 2).toNatClampNeg) M).bind fun r1 => if inb (x4 + 1) L then if inb (x4 + 2) L then (F_MO_first (xs (x4 + 1).toNatClampNeg) (xs (x4 + 2).toNatClampNeg) r1.2).bind fun r2 => some r2.2 else none else none else none else none
set_option maxRecDepth 100000 in
set_option maxHeartbeats 8000000 in
theorem K_LAWc_10 {p : Program} {l : Launch} {e : Env} {s : State} {m : MethodId} {args : Array Value} {below : List Frame} {meth : Method} {c : Code} {g : GB} {Q : State → Prop} {b L : Nat} {xs : Nat → Int32} (K : KF p l s m args meth c g code 8 "KeptWellLaw") (htr : l.stackTraces = false) (hX : va_X b L xs s s.heap) (hbl : b < s.heap.size) (hbA : ¬ AS g s.heap.size b) (C S : Nat) (hC : C + 8 ≤ 601024) (hS : S + 48 ≤ 7293034) (x4 : Int32) (M : Mem) (PHI : Mem → Prop) (hnext : ∀ M, PHI M → GG p l e room_1 s m args below meth c g 8 Q (C + 8) (S + 48) 1998 [(0, .ref b), (1, .ref (g.2.1 0)), (2, .ref (g.2.1 94)), (3, .ref (g.2.1 121)), (4, .int x4)] [] M) (h : wpO (F_LAWc_10 xs L x4 M) PHI) : GG p l e room_1 s m args below meth c g 8 Q C S 668 [(0, .ref b), (1, .ref (g.2.1 0)), (2, .ref (g.2.1 94)), (3, .ref (g.2.1 121)), (4, .int x4)] [] M := by
  unfold F_LAWc_10 at h
  refine G_aload_n rfl 1 rfl K dL_668 ?_
  refine G_aload_n rfl 0 rfl K dL_669 ?_
  refine G_iload 4 rfl K dL_670 ?_
  refine G_iconst (v := 1) rfl K dL_672 ?_
  refine G_iadd K dL_673 ?_
  obtain ⟨hin, h⟩ := wpO_g h
  refine G_sld K hX hbl hbA dL_674 hin ?_
  refine G_aload_n rfl 0 rfl K dL_675 ?_
  refine G_iload 4 rfl K dL_676 ?_
  refine G_iconst (v := 2) rfl K dL_678 ?_
  refine G_iadd K dL_679 ?_
  obtain ⟨hin, h⟩ := wpO_g h
  refine G_sld K hX hbl hbA dL_680 hin ?_
  refine G_aload_n rfl 3 rfl K dL_681 ?_
  obtain ⟨r1, e1, h⟩ := wpO_bind h
  refine G_callH [.ref (g.2.1 0), .int (xs (x4 + 1).toNatClampNeg), .int (xs (x4 + 2).toNatClampNeg), .ref (g.2.1 121)] [] K dL_682 wv_995 yd_L_first (by decide) ⟨by show C + 0 + 4 ≤ 601024; omega, by show S + 0 + 24 ≤ 7293034; omega⟩ rfl rfl (Nat.le_of_ble_eq_true rfl) (K_LAW_first l g htr (xs (x4 + 1).toNatClampNeg) (xs (x4 + 2).toNatClampNeg) M _ _ e1) ?_
  refine G_istore K dL_685 (Nat.le_of_ble_eq_true rfl) rfl ?_
  refine G_aload_n rfl 3 rfl K dL_687 ?_
  refine G_aload_n rfl 1 rfl K dL_688 ?_
  refine G_iload 5 rfl K dL_689 ?_
  refine G_iconst (v := 1) rfl K dL_691 ?_
  refine G_iadd K dL_692 ?_
  obtain ⟨hin, h⟩ := wpO_g h
  refine G_sld K hX hbl hbA dL_693 hin ?_
  refine G_aload_n rfl 1 rfl K dL_694 ?_
  refine G_iload 5 rfl K dL_695 ?_
  refine G_iconst (v := 2) rfl K dL_697 ?_
  refine G_iadd K dL_698 ?_
  obtain ⟨hin, h⟩ := wpO_g h
  refine G_sld K hX hbl hbA dL_699 hin ?_
  obtain ⟨r2, e2, h⟩ := wpO_bind h
  refine G_callVi (ci := 12) [.int (xs (x4 + 1).toNatClampNeg), .int (xs (x4 + 2).toNatClampNeg)] [] K dL_700 wv_1797 yd_X12_first (Nat.le_of_ble_eq_true rfl) (sh_94 _ _) rfl (by decide) ⟨by show C + 4 + 0 ≤ 601024; omega, by show S + 24 + 0 ≤ 7293034; omega⟩ rfl rfl (Nat.le_of_ble_eq_true rfl) (K_MO_first l g htr (xs (x4 + 1).toNatClampNeg) (xs (x4 + 2).toNatClampNeg) r1.2 _ _ e2) ?_
  refine G_istore K dL_703 (Nat.le_of_ble_eq_true rfl) rfl ?_
  refine G_goto (tgt := 1998) K dL_705 (by decide) ?_
  exact G_wide (k := C + 8) (n := S + 48) (by show C + 4 ≤ C + 8; omega) (by show S + 24 ≤ S + 48; omega) (G_lv (lv' := [(0, .ref b), (1, .ref (g.2.1 0)), (2, .ref (g.2.1 94)), (3, .ref (g.2.1 121)), (4, .int x4)]) [2, 3, 4, 5, 6] rfl (hnext r2.2 (wpO_some h)))
def F_LAWc_11 (xs : Nat → Int32) (L : Nat) (x4 : Int32) (M : Mem) : Option Mem :=
  if inb (x4 + 1) L then if inb (x4 + 2) L then if inb (x4 + 3) L then (F_LAW_best (xs (x4 + 1).toNatClampNeg) (xs (x4 + 2).toNatClampNeg) (xs (x4 + 3).toNatClampNeg) M).bind fun r1 => if inb (x4 + 1) L then if inb (x4 + 2) L then if inb (x4 + 3) L then (F_MO_best (xs (x4 + 1).toNatClampNeg) (xs (x4 + 2).toNatClampNeg) (xs (x4 + 3).toNatClampNeg) r1.2).bind fun r2 => some r2.2 else none else none else none else none else none else none
set_option maxRecDepth 100000 in
set_option maxHeartbeats 8000000 in
theorem K_LAWc_11 {p : Program} {l : Launch} {e : Env} {s : State} {m : MethodId} {args : Array Value} {below : List Frame} {meth : Method} {c : Code} {g : GB} {Q : State → Prop} {b L : Nat} {xs : Nat → Int32} (K : KF p l s m args meth c g code 8 "KeptWellLaw") (htr : l.stackTraces = false) (hX : va_X b L xs s s.heap) (hbl : b < s.heap.size) (hbA : ¬ AS g s.heap.size b) (C S : Nat) (hC : C + 8 ≤ 601024) (hS : S + 48 ≤ 7293034) (x4 : Int32) (M : Mem) (PHI : Mem → Prop) (hnext : ∀ M, PHI M → GG p l e room_1 s m args below meth c g 8 Q (C + 8) (S + 48) 1998 [(0, .ref b), (1, .ref (g.2.1 0)), (2, .ref (g.2.1 94)), (3, .ref (g.2.1 121)), (4, .int x4)] [] M) (h : wpO (F_LAWc_11 xs L x4 M) PHI) : GG p l e room_1 s m args below meth c g 8 Q C S 708 [(0, .ref b), (1, .ref (g.2.1 0)), (2, .ref (g.2.1 94)), (3, .ref (g.2.1 121)), (4, .int x4)] [] M := by
  unfold F_LAWc_11 at h
  refine G_aload_n rfl 1 rfl K dL_708 ?_
  refine G_aload_n rfl 0 rfl K dL_709 ?_
  refine G_iload 4 rfl K dL_710 ?_
  refine G_iconst (v := 1) rfl K dL_712 ?_
  refine G_iadd K dL_713 ?_
  obtain ⟨hin, h⟩ := wpO_g h
  refine G_sld K hX hbl hbA dL_714 hin ?_
  refine G_aload_n rfl 0 rfl K dL_715 ?_
  refine G_iload 4 rfl K dL_716 ?_
  refine G_iconst (v := 2) rfl K dL_718 ?_
  refine G_iadd K dL_719 ?_
  obtain ⟨hin, h⟩ := wpO_g h
  refine G_sld K hX hbl hbA dL_720 hin ?_
  refine G_aload_n rfl 0 rfl K dL_721 ?_
  refine G_iload 4 rfl K dL_722 ?_
  refine G_iconst (v := 3) rfl K dL_724 ?_
  refine G_iadd K dL_725 ?_
  obtain ⟨hin, h⟩ := wpO_g h
  refine G_sld K hX hbl hbA dL_726 hin ?_
  refine G_aload_n rfl 3 rfl K dL_727 ?_
  obtain ⟨r1, e1, h⟩ := wpO_bind h
  refine G_callH [.ref (g.2.1 0), .int (xs (x4 + 1).toNatClampNeg), .int (xs (x4 + 2).toNatClampNeg), .int (xs (x4 + 3).toNatClampNeg), .ref (g.2.1 121)] [] K dL_728 wv_1002 yd_L_best (by decide) ⟨by show C + 0 + 4 ≤ 601024; omega, by show S + 0 + 24 ≤ 7293034; omega⟩ rfl rfl (Nat.le_of_ble_eq_true rfl) (K_LAW_best l g htr (xs (x4 + 1).toNatClampNeg) (xs (x4 + 2).toNatClampNeg) (xs (x4 + 3).toNatClampNeg) M _ _ e1) ?_
  refine G_istore K dL_731 (Nat.le_of_ble_eq_true rfl) rfl ?_
  refine G_aload_n rfl 3 rfl K dL_733 ?_
  refine G_aload_n rfl 1 rfl K dL_734 ?_
  refine G_iload 5 rfl K dL_735 ?_
  refine G_iconst (v := 1) rfl K dL_737 ?_
  refine G_iadd K dL_738 ?_
  obtain ⟨hin, h⟩ := wpO_g h
  refine G_sld K hX hbl hbA dL_739 hin ?_
  refine G_aload_n rfl 1 rfl K dL_740 ?_
  refine G_iload 5 rfl K dL_741 ?_
  refine G_iconst (v := 2) rfl K dL_743 ?_
  refine G_iadd K dL_744 ?_
  obtain ⟨hin, h⟩ := wpO_g h
  refine G_sld K hX hbl hbA dL_745 hin ?_
  refine G_aload_n rfl 1 rfl K dL_746 ?_
  refine G_iload 5 rfl K dL_747 ?_
  refine G_iconst (v := 3) rfl K dL_749 ?_
  refine G_iadd K dL_750 ?_
  obtain ⟨hin, h⟩ := wpO_g h
  refine G_sld K hX hbl hbA dL_751 hin ?_
  obtain ⟨r2, e2, h⟩ := wpO_bind h
  refine G_callVi (ci := 12) [.int (xs (x4 + 1).toNatClampNeg), .int (xs (x4 + 2).toNatClampNeg), .int (xs (x4 + 3).toNatClampNeg)] [] K dL_752 wv_1801 yd_X12_best (Nat.le_of_ble_eq_true rfl) (sh_94 _ _) rfl (by decide) ⟨by show C + 4 + 0 ≤ 601024; omega, by show S + 24 + 0 ≤ 7293034; omega⟩ rfl rfl (Nat.le_of_ble_eq_true rfl) (K_MO_best l g htr (xs (x4 + 1).toNatClampNeg) (xs (x4 + 2).toNatClampNeg) (xs (x4 + 3).toNatClampNeg) r1.2 _ _ e2) ?_
  refine G_istore K dL_755 (Nat.le_of_ble_eq_true rfl) rfl ?_
  refine G_goto (tgt := 1998) K dL_757 (by decide) ?_
  exact G_wide (k := C + 8) (n := S + 48) (by show C + 4 ≤ C + 8; omega) (by show S + 24 ≤ S + 48; omega) (G_lv (lv' := [(0, .ref b), (1, .ref (g.2.1 0)), (2, .ref (g.2.1 94)), (3, .ref (g.2.1 121)), (4, .int x4)]) [2, 3, 4, 5, 6] rfl (hnext r2.2 (wpO_some h)))
def F_LAWc_12_j832 (xs : Nat → Int32) (L : Nat) (x4 : Int32) (s1 : Int32) (s2 : Int32) (s3 : Int32) (s4 : Bool) (M : Mem) : Option (Mem) :=
  (F_MO_answer s1 s2 s3 ((b2i s4)) M).bind fun r2 => some r2.2
def F_LAWc_12_j793 (xs : Nat → Int32) (L : Nat) (x4 : Int32) (s1 : Int32) (s2 : Int32) (s3 : Int32) (s4 : Bool) (M : Mem) : Option (Mem) :=
  (F_LAW_answer s1 s2 s3 ((b2i s4)) M).bind fun r1 => if inb (x4 + 1) L then if inb (x4 + 2) L then if inb (x4 + 3) L then if inb (x4 + 4) L then if (xs (x4 + 4).toNatClampNeg) = 0 then F_LAWc_12_j832 xs L x4 (xs (x4 + 1).toNatClampNeg) (xs (x4 + 2).toNatClampNeg) (xs (x4 + 3).toNatClampNeg) false r1.2 else F_LAWc_12_j832 xs L x4 (xs (x4 + 1).toNatClampNeg) (xs (x4 + 2).toNatClampNeg) (xs (x4 + 3).toNatClampNeg) true r1.2 else none else none else none else none
def F_LAWc_12 (xs : Nat → Int32) (L : Nat) (x4 : Int32) (M : Mem) : Option Mem :=
  if inb (x4 + 1) L then if inb (x4 + 2) L then if inb (x4 + 3) L then if inb (x4 + 4) L then if (xs (x4 + 4).toNatClampNeg) = 0 then F_LAWc_12_j793 xs L x4 (xs (x4 + 1).toNatClampNeg) (xs (x4 + 2).toNatClampNeg) (xs (x4 + 3).toNatClampNeg) false M else F_LAWc_12_j793 xs L x4 (xs (x4 + 1).toNatClampNeg) (xs (x4 + 2).toNatClampNeg) (xs (x4 + 3).toNatClampNeg) true M else none else none else none else none
set_option maxRecDepth 100000 in
set_option maxHeartbeats 8000000 in
theorem K_LAWc_12 {p : Program} {l : Launch} {e : Env} {s : State} {m : MethodId} {args : Array Value} {below : List Frame} {meth : Method} {c : Code} {g : GB} {Q : State → Prop} {b L : Nat} {xs : Nat → Int32} (K : KF p l s m args meth c g code 8 "KeptWellLaw") (htr : l.stackTraces = false) (hX : va_X b L xs s s.heap) (hbl : b < s.heap.size) (hbA : ¬ AS g s.heap.size b) (C S : Nat) (hC : C + 8 ≤ 601024) (hS : S + 48 ≤ 7293034) (x4 : Int32) (M : Mem) (PHI : Mem → Prop) (hnext : ∀ M, PHI M → GG p l e room_1 s m args below meth c g 8 Q (C + 8) (S + 48) 1998 [(0, .ref b), (1, .ref (g.2.1 0)), (2, .ref (g.2.1 94)), (3, .ref (g.2.1 121)), (4, .int x4)] [] M) (h : wpO (F_LAWc_12 xs L x4 M) PHI) : GG p l e room_1 s m args below meth c g 8 Q C S 760 [(0, .ref b), (1, .ref (g.2.1 0)), (2, .ref (g.2.1 94)), (3, .ref (g.2.1 121)), (4, .int x4)] [] M := by
  have J832 : ∀ (s1 : Int32) (s2 : Int32) (s3 : Int32) (s4 : Bool) (M : Mem), wpO (F_LAWc_12_j832 xs L x4 s1 s2 s3 s4 M) PHI → GG p l e room_1 s m args below meth c g 8 Q (C + 4) (S + 24) 832 [(0, .ref b), (1, .ref (g.2.1 0)), (2, .ref (g.2.1 94)), (3, .ref (g.2.1 121)), (4, .int x4)] [.int ((b2i s4)), .int s3, .int s2, .int s1, .ref (g.2.1 94)] M := by
    intro s1 s2 s3 s4 M h
    unfold F_LAWc_12_j832 at h
    obtain ⟨r2, e2, h⟩ := wpO_bind h
    refine G_callVl (ci := 12) [.int s1, .int s2, .int s3, .int ((b2i s4))] [] K dL_832 wv_1813 yd_X12_answer (Nat.le_of_ble_eq_true rfl) (sh_94 _ _) rfl (by decide) ⟨by show C + 4 + 0 ≤ 601024; omega, by show S + 24 + 0 ≤ 7293034; omega⟩ rfl rfl (Nat.le_of_ble_eq_true rfl) (K_MO_answer l g htr s1 s2 s3 ((b2i s4)) M _ _ e2) ?_
    refine G_lstore K dL_835 (Nat.le_of_ble_eq_true rfl) rfl ?_
    refine G_goto (tgt := 1998) K dL_837 (by decide) ?_
    exact G_wide (k := C + 8) (n := S + 48) (by show C + 4 ≤ C + 8; omega) (by show S + 24 ≤ S + 48; omega) (G_lv (lv' := [(0, .ref b), (1, .ref (g.2.1 0)), (2, .ref (g.2.1 94)), (3, .ref (g.2.1 121)), (4, .int x4)]) [1, 2, 3, 4, 5] rfl (hnext r2.2 (wpO_some h)))
  have J793 : ∀ (s1 : Int32) (s2 : Int32) (s3 : Int32) (s4 : Bool) (M : Mem), wpO (F_LAWc_12_j793 xs L x4 s1 s2 s3 s4 M) PHI → GG p l e room_1 s m args below meth c g 8 Q (C + 0) (S + 0) 793 [(0, .ref b), (1, .ref (g.2.1 0)), (2, .ref (g.2.1 94)), (3, .ref (g.2.1 121)), (4, .int x4)] [.int ((b2i s4)), .int s3, .int s2, .int s1, .ref (g.2.1 0)] M := by
    intro s1 s2 s3 s4 M h
    unfold F_LAWc_12_j793 at h
    refine G_aload_n rfl 3 rfl K dL_793 ?_
    obtain ⟨r1, e1, h⟩ := wpO_bind h
    refine G_callH [.ref (g.2.1 0), .int s1, .int s2, .int s3, .int ((b2i s4)), .ref (g.2.1 121)] [] K dL_794 wv_1049 yd_L_answer (by decide) ⟨by show C + 0 + 4 ≤ 601024; omega, by show S + 0 + 24 ≤ 7293034; omega⟩ rfl rfl (Nat.le_of_ble_eq_true rfl) (K_LAW_answer l g htr s1 s2 s3 ((b2i s4)) M _ _ e1) ?_
    refine G_istore K dL_797 (Nat.le_of_ble_eq_true rfl) rfl ?_
    refine G_aload_n rfl 3 rfl K dL_799 ?_
    refine G_aload_n rfl 1 rfl K dL_800 ?_
    refine G_iload 5 rfl K dL_801 ?_
    refine G_iconst (v := 1) rfl K dL_803 ?_
    refine G_iadd K dL_804 ?_
    obtain ⟨hin, h⟩ := wpO_g h
    refine G_sld K hX hbl hbA dL_805 hin ?_
    refine G_aload_n rfl 1 rfl K dL_806 ?_
    refine G_iload 5 rfl K dL_807 ?_
    refine G_iconst (v := 2) rfl K dL_809 ?_
    refine G_iadd K dL_810 ?_
    obtain ⟨hin, h⟩ := wpO_g h
    refine G_sld K hX hbl hbA dL_811 hin ?_
    refine G_aload_n rfl 1 rfl K dL_812 ?_
    refine G_iload 5 rfl K dL_813 ?_
    refine G_iconst (v := 3) rfl K dL_815 ?_
    refine G_iadd K dL_816 ?_
    obtain ⟨hin, h⟩ := wpO_g h
    refine G_sld K hX hbl hbA dL_817 hin ?_
    refine G_aload_n rfl 1 rfl K dL_818 ?_
    refine G_iload 5 rfl K dL_819 ?_
    refine G_iconst (v := 4) rfl K dL_821 ?_
    refine G_iadd K dL_822 ?_
    obtain ⟨hin, h⟩ := wpO_g h
    refine G_sld K hX hbl hbA dL_823 hin ?_
    refine G_if_eq (tgt := 831) K dL_824 (by decide) (fun hc => ?_) (fun hc => ?_)
    · have h := wpO_t h hc
      refine G_iconst (v := 0) rfl K dL_831 ?_
      exact G_lv (lv' := [(0, .ref b), (1, .ref (g.2.1 0)), (2, .ref (g.2.1 94)), (3, .ref (g.2.1 121)), (4, .int x4)]) [1, 2, 3, 4, 5] rfl (J832 (xs (x4 + 1).toNatClampNeg) (xs (x4 + 2).toNatClampNeg) (xs (x4 + 3).toNatClampNeg) false r1.2 h)
    · have h := wpO_f h hc
      refine G_iconst (v := 1) rfl K dL_827 ?_
      refine G_goto (tgt := 832) K dL_828 (by decide) ?_
      exact G_lv (lv' := [(0, .ref b), (1, .ref (g.2.1 0)), (2, .ref (g.2.1 94)), (3, .ref (g.2.1 121)), (4, .int x4)]) [1, 2, 3, 4, 5] rfl (J832 (xs (x4 + 1).toNatClampNeg) (xs (x4 + 2).toNatClampNeg) (xs (x4 + 3).toNatClampNeg) true r1.2 h)
  unfold F_LAWc_12 at h
  refine G_aload_n rfl 1 rfl K dL_760 ?_
  refine G_aload_n rfl 0 rfl K dL_761 ?_
  refine G_iload 4 rfl K dL_762 ?_
  refine G_iconst (v := 1) rfl K dL_764 ?_
  refine G_iadd K dL_765 ?_
  obtain ⟨hin, h⟩ := wpO_g h
  refine G_sld K hX hbl hbA dL_766 hin ?_
  refine G_aload_n rfl 0 rfl K dL_767 ?_
  refine G_iload 4 rfl K dL_768 ?_
  refine G_iconst (v := 2) rfl K dL_770 ?_
  refine G_iadd K dL_771 ?_
  obtain ⟨hin, h⟩ := wpO_g h
  refine G_sld K hX hbl hbA dL_772 hin ?_
  refine G_aload_n rfl 0 rfl K dL_773 ?_
  refine G_iload 4 rfl K dL_774 ?_
  refine G_iconst (v := 3) rfl K dL_776 ?_
  refine G_iadd K dL_777 ?_
  obtain ⟨hin, h⟩ := wpO_g h
  refine G_sld K hX hbl hbA dL_778 hin ?_
  refine G_aload_n rfl 0 rfl K dL_779 ?_
  refine G_iload 4 rfl K dL_780 ?_
  refine G_iconst (v := 4) rfl K dL_782 ?_
  refine G_iadd K dL_783 ?_
  obtain ⟨hin, h⟩ := wpO_g h
  refine G_sld K hX hbl hbA dL_784 hin ?_
  refine G_if_eq (tgt := 792) K dL_785 (by decide) (fun hc => ?_) (fun hc => ?_)
  · have h := wpO_t h hc
    refine G_iconst (v := 0) rfl K dL_792 ?_
    exact J793 (xs (x4 + 1).toNatClampNeg) (xs (x4 + 2).toNatClampNeg) (xs (x4 + 3).toNatClampNeg) false M h
  · have h := wpO_f h hc
    refine G_iconst (v := 1) rfl K dL_788 ?_
    refine G_goto (tgt := 793) K dL_789 (by decide) ?_
    exact J793 (xs (x4 + 1).toNatClampNeg) (xs (x4 + 2).toNatClampNeg) (xs (x4 + 3).toNatClampNeg) true M h
def F_LAWc_13_j888 (xs : Nat → Int32) (L : Nat) (x4 : Int32) (s1 : Int32) (s2 : Bool) (M : Mem) : Option (Mem) :=
  (F_MO_least s1 ((b2i s2)) M).bind fun r2 => some r2.2
def F_LAWc_13_j861 (xs : Nat → Int32) (L : Nat) (x4 : Int32) (s1 : Int32) (s2 : Bool) (M : Mem) : Option (Mem) :=
  (F_LAW_least s1 ((b2i s2)) M).bind fun r1 => if inb (x4 + 1) L then if inb (x4 + 2) L then if (xs (x4 + 2).toNatClampNeg) = 0 then F_LAWc_13_j888 xs L x4 (xs (x4 + 1).toNatClampNeg) false r1.2 else F_LAWc_13_j888 xs L x4 (xs (x4 + 1).toNatClampNeg) true r1.2 else none else none
def F_LAWc_13 (xs : Nat → Int32) (L : Nat) (x4 : Int32) (M : Mem) : Option Mem :=
  if inb (x4 + 1) L then if inb (x4 + 2) L then if (xs (x4 + 2).toNatClampNeg) = 0 then F_LAWc_13_j861 xs L x4 (xs (x4 + 1).toNatClampNeg) false M else F_LAWc_13_j861 xs L x4 (xs (x4 + 1).toNatClampNeg) true M else none else none
set_option maxRecDepth 100000 in
set_option maxHeartbeats 8000000 in
theorem K_LAWc_13 {p : Program} {l : Launch} {e : Env} {s : State} {m : MethodId} {args : Array Value} {below : List Frame} {meth : Method} {c : Code} {g : GB} {Q : State → Prop} {b L : Nat} {xs : Nat → Int32} (K : KF p l s m args meth c g code 8 "KeptWellLaw") (htr : l.stackTraces = false) (hX : va_X b L xs s s.heap) (hbl : b < s.heap.size) (hbA : ¬ AS g s.heap.size b) (C S : Nat) (hC : C + 8 ≤ 601024) (hS : S + 48 ≤ 7293034) (x4 : Int32) (M : Mem) (PHI : Mem → Prop) (hnext : ∀ M, PHI M → GG p l e room_1 s m args below meth c g 8 Q (C + 8) (S + 48) 1998 [(0, .ref b), (1, .ref (g.2.1 0)), (2, .ref (g.2.1 94)), (3, .ref (g.2.1 121)), (4, .int x4)] [] M) (h : wpO (F_LAWc_13 xs L x4 M) PHI) : GG p l e room_1 s m args below meth c g 8 Q C S 840 [(0, .ref b), (1, .ref (g.2.1 0)), (2, .ref (g.2.1 94)), (3, .ref (g.2.1 121)), (4, .int x4)] [] M := by
  have J888 : ∀ (s1 : Int32) (s2 : Bool) (M : Mem), wpO (F_LAWc_13_j888 xs L x4 s1 s2 M) PHI → GG p l e room_1 s m args below meth c g 8 Q (C + 1) (S + 6) 888 [(0, .ref b), (1, .ref (g.2.1 0)), (2, .ref (g.2.1 94)), (3, .ref (g.2.1 121)), (4, .int x4)] [.int ((b2i s2)), .int s1, .ref (g.2.1 94)] M := by
    intro s1 s2 M h
    unfold F_LAWc_13_j888 at h
    obtain ⟨r2, e2, h⟩ := wpO_bind h
    refine G_callVi (ci := 12) [.int s1, .int ((b2i s2))] [] K dL_888 wv_1817 yd_X12_least (Nat.le_of_ble_eq_true rfl) (sh_94 _ _) rfl (by decide) ⟨by show C + 1 + 0 ≤ 601024; omega, by show S + 6 + 0 ≤ 7293034; omega⟩ rfl rfl (Nat.le_of_ble_eq_true rfl) (K_MO_least l g htr s1 ((b2i s2)) M _ _ e2) ?_
    refine G_istore K dL_891 (Nat.le_of_ble_eq_true rfl) rfl ?_
    refine G_goto (tgt := 1998) K dL_893 (by decide) ?_
    exact G_wide (k := C + 8) (n := S + 48) (by show C + 1 ≤ C + 8; omega) (by show S + 6 ≤ S + 48; omega) (G_lv (lv' := [(0, .ref b), (1, .ref (g.2.1 0)), (2, .ref (g.2.1 94)), (3, .ref (g.2.1 121)), (4, .int x4)]) [1, 2, 3, 4, 5] rfl (hnext r2.2 (wpO_some h)))
  have J861 : ∀ (s1 : Int32) (s2 : Bool) (M : Mem), wpO (F_LAWc_13_j861 xs L x4 s1 s2 M) PHI → GG p l e room_1 s m args below meth c g 8 Q (C + 0) (S + 0) 861 [(0, .ref b), (1, .ref (g.2.1 0)), (2, .ref (g.2.1 94)), (3, .ref (g.2.1 121)), (4, .int x4)] [.int ((b2i s2)), .int s1, .ref (g.2.1 0)] M := by
    intro s1 s2 M h
    unfold F_LAWc_13_j861 at h
    refine G_aload_n rfl 3 rfl K dL_861 ?_
    obtain ⟨r1, e1, h⟩ := wpO_bind h
    refine G_callH [.ref (g.2.1 0), .int s1, .int ((b2i s2)), .ref (g.2.1 121)] [] K dL_862 wv_1061 yd_L_least (by decide) ⟨by show C + 0 + 1 ≤ 601024; omega, by show S + 0 + 6 ≤ 7293034; omega⟩ rfl rfl (Nat.le_of_ble_eq_true rfl) (K_LAW_least l g htr s1 ((b2i s2)) M _ _ e1) ?_
    refine G_istore K dL_865 (Nat.le_of_ble_eq_true rfl) rfl ?_
    refine G_aload_n rfl 3 rfl K dL_867 ?_
    refine G_aload_n rfl 1 rfl K dL_868 ?_
    refine G_iload 5 rfl K dL_869 ?_
    refine G_iconst (v := 1) rfl K dL_871 ?_
    refine G_iadd K dL_872 ?_
    obtain ⟨hin, h⟩ := wpO_g h
    refine G_sld K hX hbl hbA dL_873 hin ?_
    refine G_aload_n rfl 1 rfl K dL_874 ?_
    refine G_iload 5 rfl K dL_875 ?_
    refine G_iconst (v := 2) rfl K dL_877 ?_
    refine G_iadd K dL_878 ?_
    obtain ⟨hin, h⟩ := wpO_g h
    refine G_sld K hX hbl hbA dL_879 hin ?_
    refine G_if_eq (tgt := 887) K dL_880 (by decide) (fun hc => ?_) (fun hc => ?_)
    · have h := wpO_t h hc
      refine G_iconst (v := 0) rfl K dL_887 ?_
      exact G_lv (lv' := [(0, .ref b), (1, .ref (g.2.1 0)), (2, .ref (g.2.1 94)), (3, .ref (g.2.1 121)), (4, .int x4)]) [1, 2, 3, 4, 5] rfl (J888 (xs (x4 + 1).toNatClampNeg) false r1.2 h)
    · have h := wpO_f h hc
      refine G_iconst (v := 1) rfl K dL_883 ?_
      refine G_goto (tgt := 888) K dL_884 (by decide) ?_
      exact G_lv (lv' := [(0, .ref b), (1, .ref (g.2.1 0)), (2, .ref (g.2.1 94)), (3, .ref (g.2.1 121)), (4, .int x4)]) [1, 2, 3, 4, 5] rfl (J888 (xs (x4 + 1).toNatClampNeg) true r1.2 h)
  unfold F_LAWc_13 at h
  refine G_aload_n rfl 1 rfl K dL_840 ?_
  refine G_aload_n rfl 0 rfl K dL_841 ?_
  refine G_iload 4 rfl K dL_842 ?_
  refine G_iconst (v := 1) rfl K dL_844 ?_
  refine G_iadd K dL_845 ?_
  obtain ⟨hin, h⟩ := wpO_g h
  refine G_sld K hX hbl hbA dL_846 hin ?_
  refine G_aload_n rfl 0 rfl K dL_847 ?_
  refine G_iload 4 rfl K dL_848 ?_
  refine G_iconst (v := 2) rfl K dL_850 ?_
  refine G_iadd K dL_851 ?_
  obtain ⟨hin, h⟩ := wpO_g h
  refine G_sld K hX hbl hbA dL_852 hin ?_
  refine G_if_eq (tgt := 860) K dL_853 (by decide) (fun hc => ?_) (fun hc => ?_)
  · have h := wpO_t h hc
    refine G_iconst (v := 0) rfl K dL_860 ?_
    exact J861 (xs (x4 + 1).toNatClampNeg) false M h
  · have h := wpO_f h hc
    refine G_iconst (v := 1) rfl K dL_856 ?_
    refine G_goto (tgt := 861) K dL_857 (by decide) ?_
    exact J861 (xs (x4 + 1).toNatClampNeg) true M h
def F_LAWc_14_j944 (xs : Nat → Int32) (L : Nat) (x4 : Int32) (s1 : Int32) (s2 : Bool) (M : Mem) : Option (Mem) :=
  (F_MO_lots s1 ((b2i s2)) M).bind fun r2 => some r2.2
def F_LAWc_14_j917 (xs : Nat → Int32) (L : Nat) (x4 : Int32) (s1 : Int32) (s2 : Bool) (M : Mem) : Option (Mem) :=
  (F_LAW_lots s1 ((b2i s2)) M).bind fun r1 => if inb (x4 + 1) L then if inb (x4 + 2) L then if (xs (x4 + 2).toNatClampNeg) = 0 then F_LAWc_14_j944 xs L x4 (xs (x4 + 1).toNatClampNeg) false r1.2 else F_LAWc_14_j944 xs L x4 (xs (x4 + 1).toNatClampNeg) true r1.2 else none else none
def F_LAWc_14 (xs : Nat → Int32) (L : Nat) (x4 : Int32) (M : Mem) : Option Mem :=
  if inb (x4 + 1) L then if inb (x4 + 2) L then if (xs (x4 + 2).toNatClampNeg) = 0 then F_LAWc_14_j917 xs L x4 (xs (x4 + 1).toNatClampNeg) false M else F_LAWc_14_j917 xs L x4 (xs (x4 + 1).toNatClampNeg) true M else none else none
set_option maxRecDepth 100000 in
set_option maxHeartbeats 8000000 in
theorem K_LAWc_14 {p : Program} {l : Launch} {e : Env} {s : State} {m : MethodId} {args : Array Value} {below : List Frame} {meth : Method} {c : Code} {g : GB} {Q : State → Prop} {b L : Nat} {xs : Nat → Int32} (K : KF p l s m args meth c g code 8 "KeptWellLaw") (htr : l.stackTraces = false) (hX : va_X b L xs s s.heap) (hbl : b < s.heap.size) (hbA : ¬ AS g s.heap.size b) (C S : Nat) (hC : C + 8 ≤ 601024) (hS : S + 48 ≤ 7293034) (x4 : Int32) (M : Mem) (PHI : Mem → Prop) (hnext : ∀ M, PHI M → GG p l e room_1 s m args below meth c g 8 Q (C + 8) (S + 48) 1998 [(0, .ref b), (1, .ref (g.2.1 0)), (2, .ref (g.2.1 94)), (3, .ref (g.2.1 121)), (4, .int x4)] [] M) (h : wpO (F_LAWc_14 xs L x4 M) PHI) : GG p l e room_1 s m args below meth c g 8 Q C S 896 [(0, .ref b), (1, .ref (g.2.1 0)), (2, .ref (g.2.1 94)), (3, .ref (g.2.1 121)), (4, .int x4)] [] M := by
  have J944 : ∀ (s1 : Int32) (s2 : Bool) (M : Mem), wpO (F_LAWc_14_j944 xs L x4 s1 s2 M) PHI → GG p l e room_1 s m args below meth c g 8 Q (C + 1) (S + 6) 944 [(0, .ref b), (1, .ref (g.2.1 0)), (2, .ref (g.2.1 94)), (3, .ref (g.2.1 121)), (4, .int x4)] [.int ((b2i s2)), .int s1, .ref (g.2.1 94)] M := by
    intro s1 s2 M h
    unfold F_LAWc_14_j944 at h
    obtain ⟨r2, e2, h⟩ := wpO_bind h
    refine G_callVl (ci := 12) [.int s1, .int ((b2i s2))] [] K dL_944 wv_1838 yd_X12_lots (Nat.le_of_ble_eq_true rfl) (sh_94 _ _) rfl (by decide) ⟨by show C + 1 + 0 ≤ 601024; omega, by show S + 6 + 0 ≤ 7293034; omega⟩ rfl rfl (Nat.le_of_ble_eq_true rfl) (K_MO_lots l g htr s1 ((b2i s2)) M _ _ e2) ?_
    refine G_lstore K dL_947 (Nat.le_of_ble_eq_true rfl) rfl ?_
    refine G_goto (tgt := 1998) K dL_949 (by decide) ?_
    exact G_wide (k := C + 8) (n := S + 48) (by show C + 1 ≤ C + 8; omega) (by show S + 6 ≤ S + 48; omega) (G_lv (lv' := [(0, .ref b), (1, .ref (g.2.1 0)), (2, .ref (g.2.1 94)), (3, .ref (g.2.1 121)), (4, .int x4)]) [1, 2, 3, 4, 5] rfl (hnext r2.2 (wpO_some h)))
  have J917 : ∀ (s1 : Int32) (s2 : Bool) (M : Mem), wpO (F_LAWc_14_j917 xs L x4 s1 s2 M) PHI → GG p l e room_1 s m args below meth c g 8 Q (C + 0) (S + 0) 917 [(0, .ref b), (1, .ref (g.2.1 0)), (2, .ref (g.2.1 94)), (3, .ref (g.2.1 121)), (4, .int x4)] [.int ((b2i s2)), .int s1, .ref (g.2.1 0)] M := by
    intro s1 s2 M h
    unfold F_LAWc_14_j917 at h
    refine G_aload_n rfl 3 rfl K dL_917 ?_
    obtain ⟨r1, e1, h⟩ := wpO_bind h
    refine G_callH [.ref (g.2.1 0), .int s1, .int ((b2i s2)), .ref (g.2.1 121)] [] K dL_918 wv_1077 yd_L_lots (by decide) ⟨by show C + 0 + 1 ≤ 601024; omega, by show S + 0 + 6 ≤ 7293034; omega⟩ rfl rfl (Nat.le_of_ble_eq_true rfl) (K_LAW_lots l g htr s1 ((b2i s2)) M _ _ e1) ?_
    refine G_istore K dL_921 (Nat.le_of_ble_eq_true rfl) rfl ?_
    refine G_aload_n rfl 3 rfl K dL_923 ?_
    refine G_aload_n rfl 1 rfl K dL_924 ?_
    refine G_iload 5 rfl K dL_925 ?_
    refine G_iconst (v := 1) rfl K dL_927 ?_
    refine G_iadd K dL_928 ?_
    obtain ⟨hin, h⟩ := wpO_g h
    refine G_sld K hX hbl hbA dL_929 hin ?_
    refine G_aload_n rfl 1 rfl K dL_930 ?_
    refine G_iload 5 rfl K dL_931 ?_
    refine G_iconst (v := 2) rfl K dL_933 ?_
    refine G_iadd K dL_934 ?_
    obtain ⟨hin, h⟩ := wpO_g h
    refine G_sld K hX hbl hbA dL_935 hin ?_
    refine G_if_eq (tgt := 943) K dL_936 (by decide) (fun hc => ?_) (fun hc => ?_)
    · have h := wpO_t h hc
      refine G_iconst (v := 0) rfl K dL_943 ?_
      exact G_lv (lv' := [(0, .ref b), (1, .ref (g.2.1 0)), (2, .ref (g.2.1 94)), (3, .ref (g.2.1 121)), (4, .int x4)]) [1, 2, 3, 4, 5] rfl (J944 (xs (x4 + 1).toNatClampNeg) false r1.2 h)
    · have h := wpO_f h hc
      refine G_iconst (v := 1) rfl K dL_939 ?_
      refine G_goto (tgt := 944) K dL_940 (by decide) ?_
      exact G_lv (lv' := [(0, .ref b), (1, .ref (g.2.1 0)), (2, .ref (g.2.1 94)), (3, .ref (g.2.1 121)), (4, .int x4)]) [1, 2, 3, 4, 5] rfl (J944 (xs (x4 + 1).toNatClampNeg) true r1.2 h)
  unfold F_LAWc_14 at h
  refine G_aload_n rfl 1 rfl K dL_896 ?_
  refine G_aload_n rfl 0 rfl K dL_897 ?_
  refine G_iload 4 rfl K dL_898 ?_
  refine G_iconst (v := 1) rfl K dL_900 ?_
  refine G_iadd K dL_901 ?_
  obtain ⟨hin, h⟩ := wpO_g h
  refine G_sld K hX hbl hbA dL_902 hin ?_
  refine G_aload_n rfl 0 rfl K dL_903 ?_
  refine G_iload 4 rfl K dL_904 ?_
  refine G_iconst (v := 2) rfl K dL_906 ?_
  refine G_iadd K dL_907 ?_
  obtain ⟨hin, h⟩ := wpO_g h
  refine G_sld K hX hbl hbA dL_908 hin ?_
  refine G_if_eq (tgt := 916) K dL_909 (by decide) (fun hc => ?_) (fun hc => ?_)
  · have h := wpO_t h hc
    refine G_iconst (v := 0) rfl K dL_916 ?_
    exact J917 (xs (x4 + 1).toNatClampNeg) false M h
  · have h := wpO_f h hc
    refine G_iconst (v := 1) rfl K dL_912 ?_
    refine G_goto (tgt := 917) K dL_913 (by decide) ?_
    exact J917 (xs (x4 + 1).toNatClampNeg) true M h
def F_LAWc_15 (xs : Nat → Int32) (L : Nat) (x4 : Int32) (M : Mem) : Option Mem :=
  (F_KW_once M).bind fun r1 => (F_MO_once M).bind fun r2 => some r2.2
set_option maxRecDepth 100000 in
set_option maxHeartbeats 8000000 in
theorem K_LAWc_15 {p : Program} {l : Launch} {e : Env} {s : State} {m : MethodId} {args : Array Value} {below : List Frame} {meth : Method} {c : Code} {g : GB} {Q : State → Prop} {b L : Nat} {xs : Nat → Int32} (K : KF p l s m args meth c g code 8 "KeptWellLaw") (htr : l.stackTraces = false) (hX : va_X b L xs s s.heap) (hbl : b < s.heap.size) (hbA : ¬ AS g s.heap.size b) (C S : Nat) (hC : C + 8 ≤ 601024) (hS : S + 48 ≤ 7293034) (x4 : Int32) (M : Mem) (PHI : Mem → Prop) (hnext : ∀ M, PHI M → GG p l e room_1 s m args below meth c g 8 Q (C + 8) (S + 48) 1998 [(0, .ref b), (1, .ref (g.2.1 0)), (2, .ref (g.2.1 94)), (3, .ref (g.2.1 121)), (4, .int x4)] [] M) (h : wpO (F_LAWc_15 xs L x4 M) PHI) : GG p l e room_1 s m args below meth c g 8 Q C S 952 [(0, .ref b), (1, .ref (g.2.1 0)), (2, .ref (g.2.1 94)), (3, .ref (g.2.1 121)), (4, .int x4)] [] M := by
  unfold F_LAWc_15 at h
  refine G_aload_n rfl 1 rfl K dL_952 ?_
  obtain ⟨r1, e1, h⟩ := wpO_bind h
  refine G_callVi (ci := 11) [] [] K dL_953 wv_564 yd_X11_once (Nat.le_of_ble_eq_true rfl) (sh_0 _ _) rfl (by decide) ⟨by show C + 0 + 0 ≤ 601024; omega, by show S + 0 + 0 ≤ 7293034; omega⟩ rfl rfl (Nat.le_of_ble_eq_true rfl) (K_KW_once l g htr  M _ e1) ?_
  refine G_pop rfl K dL_956 ?_
  refine G_aload_n rfl 2 rfl K dL_957 ?_
  obtain ⟨r2, e2, h⟩ := wpO_bind h
  refine G_callVi (ci := 12) [] [] K dL_958 wv_1858 yd_X12_once (Nat.le_of_ble_eq_true rfl) (sh_94 _ _) rfl (by decide) ⟨by show C + 0 + 0 ≤ 601024; omega, by show S + 0 + 0 ≤ 7293034; omega⟩ rfl rfl (Nat.le_of_ble_eq_true rfl) (K_MO_once l g htr  M _ _ e2) ?_
  refine G_pop rfl K dL_961 ?_
  refine G_goto (tgt := 1998) K dL_962 (by decide) ?_
  exact G_wide (k := C + 8) (n := S + 48) (by show C + 0 ≤ C + 8; omega) (by show S + 0 ≤ S + 48; omega) (hnext r2.2 (wpO_some h))
def F_LAWc_16_j1011 (xs : Nat → Int32) (L : Nat) (x4 : Int32) (s1 : Int32) (s2 : Bool) (M : Mem) : Option (Mem) :=
  (F_MO_corner s1 ((b2i s2)) M).bind fun r2 => some r2.2
def F_LAWc_16_j986 (xs : Nat → Int32) (L : Nat) (x4 : Int32) (s1 : Int32) (s2 : Bool) (M : Mem) : Option (Mem) :=
  (F_KW_corner s1 ((b2i s2)) M).bind fun r1 => if inb (x4 + 1) L then if inb (x4 + 2) L then if (xs (x4 + 2).toNatClampNeg) = 0 then F_LAWc_16_j1011 xs L x4 (xs (x4 + 1).toNatClampNeg) false r1.2 else F_LAWc_16_j1011 xs L x4 (xs (x4 + 1).toNatClampNeg) true r1.2 else none else none
def F_LAWc_16 (xs : Nat → Int32) (L : Nat) (x4 : Int32) (M : Mem) : Option Mem :=
  if inb (x4 + 1) L then if inb (x4 + 2) L then if (xs (x4 + 2).toNatClampNeg) = 0 then F_LAWc_16_j986 xs L x4 (xs (x4 + 1).toNatClampNeg) false M else F_LAWc_16_j986 xs L x4 (xs (x4 + 1).toNatClampNeg) true M else none else none
set_option maxRecDepth 100000 in
set_option maxHeartbeats 8000000 in
theorem K_LAWc_16 {p : Program} {l : Launch} {e : Env} {s : State} {m : MethodId} {args : Array Value} {below : List Frame} {meth : Method} {c : Code} {g : GB} {Q : State → Prop} {b L : Nat} {xs : Nat → Int32} (K : KF p l s m args meth c g code 8 "KeptWellLaw") (htr : l.stackTraces = false) (hX : va_X b L xs s s.heap) (hbl : b < s.heap.size) (hbA : ¬ AS g s.heap.size b) (C S : Nat) (hC : C + 8 ≤ 601024) (hS : S + 48 ≤ 7293034) (x4 : Int32) (M : Mem) (PHI : Mem → Prop) (hnext : ∀ M, PHI M → GG p l e room_1 s m args below meth c g 8 Q (C + 8) (S + 48) 1998 [(0, .ref b), (1, .ref (g.2.1 0)), (2, .ref (g.2.1 94)), (3, .ref (g.2.1 121)), (4, .int x4)] [] M) (h : wpO (F_LAWc_16 xs L x4 M) PHI) : GG p l e room_1 s m args below meth c g 8 Q C S 965 [(0, .ref b), (1, .ref (g.2.1 0)), (2, .ref (g.2.1 94)), (3, .ref (g.2.1 121)), (4, .int x4)] [] M := by
  have J1011 : ∀ (s1 : Int32) (s2 : Bool) (M : Mem), wpO (F_LAWc_16_j1011 xs L x4 s1 s2 M) PHI → GG p l e room_1 s m args below meth c g 8 Q (C + 0) (S + 0) 1011 [(0, .ref b), (1, .ref (g.2.1 0)), (2, .ref (g.2.1 94)), (3, .ref (g.2.1 121)), (4, .int x4)] [.int ((b2i s2)), .int s1, .ref (g.2.1 94)] M := by
    intro s1 s2 M h
    unfold F_LAWc_16_j1011 at h
    obtain ⟨r2, e2, h⟩ := wpO_bind h
    refine G_callVi (ci := 12) [.int s1, .int ((b2i s2))] [] K dL_1011 wv_1862 yd_X12_corner (Nat.le_of_ble_eq_true rfl) (sh_94 _ _) rfl (by decide) ⟨by show C + 0 + 0 ≤ 601024; omega, by show S + 0 + 0 ≤ 7293034; omega⟩ rfl rfl (Nat.le_of_ble_eq_true rfl) (K_MO_corner l g htr s1 ((b2i s2)) M _ _ e2) ?_
    refine G_pop rfl K dL_1014 ?_
    refine G_goto (tgt := 1998) K dL_1015 (by decide) ?_
    exact G_wide (k := C + 8) (n := S + 48) (by show C + 0 ≤ C + 8; omega) (by show S + 0 ≤ S + 48; omega) (hnext r2.2 (wpO_some h))
  have J986 : ∀ (s1 : Int32) (s2 : Bool) (M : Mem), wpO (F_LAWc_16_j986 xs L x4 s1 s2 M) PHI → GG p l e room_1 s m args below meth c g 8 Q (C + 0) (S + 0) 986 [(0, .ref b), (1, .ref (g.2.1 0)), (2, .ref (g.2.1 94)), (3, .ref (g.2.1 121)), (4, .int x4)] [.int ((b2i s2)), .int s1, .ref (g.2.1 0)] M := by
    intro s1 s2 M h
    unfold F_LAWc_16_j986 at h
    obtain ⟨r1, e1, h⟩ := wpO_bind h
    refine G_callVi (ci := 11) [.int s1, .int ((b2i s2))] [] K dL_986 wv_582 yd_X11_corner (Nat.le_of_ble_eq_true rfl) (sh_0 _ _) rfl (by decide) ⟨by show C + 0 + 0 ≤ 601024; omega, by show S + 0 + 0 ≤ 7293034; omega⟩ rfl rfl (Nat.le_of_ble_eq_true rfl) (K_KW_corner l g htr s1 ((b2i s2)) M _ _ e1) ?_
    refine G_pop rfl K dL_989 ?_
    refine G_aload_n rfl 2 rfl K dL_990 ?_
    refine G_aload_n rfl 0 rfl K dL_991 ?_
    refine G_iload 4 rfl K dL_992 ?_
    refine G_iconst (v := 1) rfl K dL_994 ?_
    refine G_iadd K dL_995 ?_
    obtain ⟨hin, h⟩ := wpO_g h
    refine G_sld K hX hbl hbA dL_996 hin ?_
    refine G_aload_n rfl 0 rfl K dL_997 ?_
    refine G_iload 4 rfl K dL_998 ?_
    refine G_iconst (v := 2) rfl K dL_1000 ?_
    refine G_iadd K dL_1001 ?_
    obtain ⟨hin, h⟩ := wpO_g h
    refine G_sld K hX hbl hbA dL_1002 hin ?_
    refine G_if_eq (tgt := 1010) K dL_1003 (by decide) (fun hc => ?_) (fun hc => ?_)
    · have h := wpO_t h hc
      refine G_iconst (v := 0) rfl K dL_1010 ?_
      exact J1011 (xs (x4 + 1).toNatClampNeg) false r1.2 h
    · have h := wpO_f h hc
      refine G_iconst (v := 1) rfl K dL_1006 ?_
      refine G_goto (tgt := 1011) K dL_1007 (by decide) ?_
      exact J1011 (xs (x4 + 1).toNatClampNeg) true r1.2 h
  unfold F_LAWc_16 at h
  refine G_aload_n rfl 1 rfl K dL_965 ?_
  refine G_aload_n rfl 0 rfl K dL_966 ?_
  refine G_iload 4 rfl K dL_967 ?_
  refine G_iconst (v := 1) rfl K dL_969 ?_
  refine G_iadd K dL_970 ?_
  obtain ⟨hin, h⟩ := wpO_g h
  refine G_sld K hX hbl hbA dL_971 hin ?_
  refine G_aload_n rfl 0 rfl K dL_972 ?_
  refine G_iload 4 rfl K dL_973 ?_
  refine G_iconst (v := 2) rfl K dL_975 ?_
  refine G_iadd K dL_976 ?_
  obtain ⟨hin, h⟩ := wpO_g h
  refine G_sld K hX hbl hbA dL_977 hin ?_
  refine G_if_eq (tgt := 985) K dL_978 (by decide) (fun hc => ?_) (fun hc => ?_)
  · have h := wpO_t h hc
    refine G_iconst (v := 0) rfl K dL_985 ?_
    exact J986 (xs (x4 + 1).toNatClampNeg) false M h
  · have h := wpO_f h hc
    refine G_iconst (v := 1) rfl K dL_981 ?_
    refine G_goto (tgt := 986) K dL_982 (by decide) ?_
    exact J986 (xs (x4 + 1).toNatClampNeg) true M h
def F_LAWc_17_j1090 (xs : Nat → Int32) (L : Nat) (x4 : Int32) (s1 : Int32) (s2 : Int32) (s3 : Int32) (s4 : Bool) (M : Mem) : Option (Mem) :=
  (F_MO_in s1 s2 s3 ((b2i s4)) M).bind fun r2 => some r2.2
def F_LAWc_17_j1051 (xs : Nat → Int32) (L : Nat) (x4 : Int32) (s1 : Int32) (s2 : Int32) (s3 : Int32) (s4 : Bool) (M : Mem) : Option (Mem) :=
  (F_LAW_in s1 s2 s3 ((b2i s4)) M).bind fun r1 => if inb (x4 + 1) L then if inb (x4 + 2) L then if inb (x4 + 3) L then if inb (x4 + 4) L then if (xs (x4 + 4).toNatClampNeg) = 0 then F_LAWc_17_j1090 xs L x4 (xs (x4 + 1).toNatClampNeg) (xs (x4 + 2).toNatClampNeg) (xs (x4 + 3).toNatClampNeg) false r1.2 else F_LAWc_17_j1090 xs L x4 (xs (x4 + 1).toNatClampNeg) (xs (x4 + 2).toNatClampNeg) (xs (x4 + 3).toNatClampNeg) true r1.2 else none else none else none else none
def F_LAWc_17 (xs : Nat → Int32) (L : Nat) (x4 : Int32) (M : Mem) : Option Mem :=
  if inb (x4 + 1) L then if inb (x4 + 2) L then if inb (x4 + 3) L then if inb (x4 + 4) L then if (xs (x4 + 4).toNatClampNeg) = 0 then F_LAWc_17_j1051 xs L x4 (xs (x4 + 1).toNatClampNeg) (xs (x4 + 2).toNatClampNeg) (xs (x4 + 3).toNatClampNeg) false M else F_LAWc_17_j1051 xs L x4 (xs (x4 + 1).toNatClampNeg) (xs (x4 + 2).toNatClampNeg) (xs (x4 + 3).toNatClampNeg) true M else none else none else none else none
set_option maxRecDepth 100000 in
set_option maxHeartbeats 8000000 in
theorem K_LAWc_17 {p : Program} {l : Launch} {e : Env} {s : State} {m : MethodId} {args : Array Value} {below : List Frame} {meth : Method} {c : Code} {g : GB} {Q : State → Prop} {b L : Nat} {xs : Nat → Int32} (K : KF p l s m args meth c g code 8 "KeptWellLaw") (htr : l.stackTraces = false) (hX : va_X b L xs s s.heap) (hbl : b < s.heap.size) (hbA : ¬ AS g s.heap.size b) (C S : Nat) (hC : C + 8 ≤ 601024) (hS : S + 48 ≤ 7293034) (x4 : Int32) (M : Mem) (PHI : Mem → Prop) (hnext : ∀ M, PHI M → GG p l e room_1 s m args below meth c g 8 Q (C + 8) (S + 48) 1998 [(0, .ref b), (1, .ref (g.2.1 0)), (2, .ref (g.2.1 94)), (3, .ref (g.2.1 121)), (4, .int x4)] [] M) (h : wpO (F_LAWc_17 xs L x4 M) PHI) : GG p l e room_1 s m args below meth c g 8 Q C S 1018 [(0, .ref b), (1, .ref (g.2.1 0)), (2, .ref (g.2.1 94)), (3, .ref (g.2.1 121)), (4, .int x4)] [] M := by
  have J1090 : ∀ (s1 : Int32) (s2 : Int32) (s3 : Int32) (s4 : Bool) (M : Mem), wpO (F_LAWc_17_j1090 xs L x4 s1 s2 s3 s4 M) PHI → GG p l e room_1 s m args below meth c g 8 Q (C + 3) (S + 18) 1090 [(0, .ref b), (1, .ref (g.2.1 0)), (2, .ref (g.2.1 94)), (3, .ref (g.2.1 121)), (4, .int x4)] [.int ((b2i s4)), .int s3, .int s2, .int s1, .ref (g.2.1 94)] M := by
    intro s1 s2 s3 s4 M h
    unfold F_LAWc_17_j1090 at h
    obtain ⟨r2, e2, h⟩ := wpO_bind h
    refine G_callVi (ci := 12) [.int s1, .int s2, .int s3, .int ((b2i s4))] [] K dL_1090 wv_1876 yd_X12_in (Nat.le_of_ble_eq_true rfl) (sh_94 _ _) rfl (by decide) ⟨by show C + 3 + 0 ≤ 601024; omega, by show S + 18 + 0 ≤ 7293034; omega⟩ rfl rfl (Nat.le_of_ble_eq_true rfl) (K_MO_in l g htr s1 s2 s3 ((b2i s4)) M _ _ e2) ?_
    refine G_istore K dL_1093 (Nat.le_of_ble_eq_true rfl) rfl ?_
    refine G_goto (tgt := 1998) K dL_1095 (by decide) ?_
    exact G_wide (k := C + 8) (n := S + 48) (by show C + 3 ≤ C + 8; omega) (by show S + 18 ≤ S + 48; omega) (G_lv (lv' := [(0, .ref b), (1, .ref (g.2.1 0)), (2, .ref (g.2.1 94)), (3, .ref (g.2.1 121)), (4, .int x4)]) [1, 2, 3, 4, 5] rfl (hnext r2.2 (wpO_some h)))
  have J1051 : ∀ (s1 : Int32) (s2 : Int32) (s3 : Int32) (s4 : Bool) (M : Mem), wpO (F_LAWc_17_j1051 xs L x4 s1 s2 s3 s4 M) PHI → GG p l e room_1 s m args below meth c g 8 Q (C + 0) (S + 0) 1051 [(0, .ref b), (1, .ref (g.2.1 0)), (2, .ref (g.2.1 94)), (3, .ref (g.2.1 121)), (4, .int x4)] [.int ((b2i s4)), .int s3, .int s2, .int s1, .ref (g.2.1 0)] M := by
    intro s1 s2 s3 s4 M h
    unfold F_LAWc_17_j1051 at h
    refine G_aload_n rfl 3 rfl K dL_1051 ?_
    obtain ⟨r1, e1, h⟩ := wpO_bind h
    refine G_callH [.ref (g.2.1 0), .int s1, .int s2, .int s3, .int ((b2i s4)), .ref (g.2.1 121)] [] K dL_1052 wv_1119 yd_L_in (by decide) ⟨by show C + 0 + 3 ≤ 601024; omega, by show S + 0 + 18 ≤ 7293034; omega⟩ rfl rfl (Nat.le_of_ble_eq_true rfl) (K_LAW_in l g htr s1 s2 s3 ((b2i s4)) M _ _ e1) ?_
    refine G_istore K dL_1055 (Nat.le_of_ble_eq_true rfl) rfl ?_
    refine G_aload_n rfl 3 rfl K dL_1057 ?_
    refine G_aload_n rfl 1 rfl K dL_1058 ?_
    refine G_iload 5 rfl K dL_1059 ?_
    refine G_iconst (v := 1) rfl K dL_1061 ?_
    refine G_iadd K dL_1062 ?_
    obtain ⟨hin, h⟩ := wpO_g h
    refine G_sld K hX hbl hbA dL_1063 hin ?_
    refine G_aload_n rfl 1 rfl K dL_1064 ?_
    refine G_iload 5 rfl K dL_1065 ?_
    refine G_iconst (v := 2) rfl K dL_1067 ?_
    refine G_iadd K dL_1068 ?_
    obtain ⟨hin, h⟩ := wpO_g h
    refine G_sld K hX hbl hbA dL_1069 hin ?_
    refine G_aload_n rfl 1 rfl K dL_1070 ?_
    refine G_iload 5 rfl K dL_1071 ?_
    refine G_iconst (v := 3) rfl K dL_1073 ?_
    refine G_iadd K dL_1074 ?_
    obtain ⟨hin, h⟩ := wpO_g h
    refine G_sld K hX hbl hbA dL_1075 hin ?_
    refine G_aload_n rfl 1 rfl K dL_1076 ?_
    refine G_iload 5 rfl K dL_1077 ?_
    refine G_iconst (v := 4) rfl K dL_1079 ?_
    refine G_iadd K dL_1080 ?_
    obtain ⟨hin, h⟩ := wpO_g h
    refine G_sld K hX hbl hbA dL_1081 hin ?_
    refine G_if_eq (tgt := 1089) K dL_1082 (by decide) (fun hc => ?_) (fun hc => ?_)
    · have h := wpO_t h hc
      refine G_iconst (v := 0) rfl K dL_1089 ?_
      exact G_lv (lv' := [(0, .ref b), (1, .ref (g.2.1 0)), (2, .ref (g.2.1 94)), (3, .ref (g.2.1 121)), (4, .int x4)]) [1, 2, 3, 4, 5] rfl (J1090 (xs (x4 + 1).toNatClampNeg) (xs (x4 + 2).toNatClampNeg) (xs (x4 + 3).toNatClampNeg) false r1.2 h)
    · have h := wpO_f h hc
      refine G_iconst (v := 1) rfl K dL_1085 ?_
      refine G_goto (tgt := 1090) K dL_1086 (by decide) ?_
      exact G_lv (lv' := [(0, .ref b), (1, .ref (g.2.1 0)), (2, .ref (g.2.1 94)), (3, .ref (g.2.1 121)), (4, .int x4)]) [1, 2, 3, 4, 5] rfl (J1090 (xs (x4 + 1).toNatClampNeg) (xs (x4 + 2).toNatClampNeg) (xs (x4 + 3).toNatClampNeg) true r1.2 h)
  unfold F_LAWc_17 at h
  refine G_aload_n rfl 1 rfl K dL_1018 ?_
  refine G_aload_n rfl 0 rfl K dL_1019 ?_
  refine G_iload 4 rfl K dL_1020 ?_
  refine G_iconst (v := 1) rfl K dL_1022 ?_
  refine G_iadd K dL_1023 ?_
  obtain ⟨hin, h⟩ := wpO_g h
  refine G_sld K hX hbl hbA dL_1024 hin ?_
  refine G_aload_n rfl 0 rfl K dL_1025 ?_
  refine G_iload 4 rfl K dL_1026 ?_
  refine G_iconst (v := 2) rfl K dL_1028 ?_
  refine G_iadd K dL_1029 ?_
  obtain ⟨hin, h⟩ := wpO_g h
  refine G_sld K hX hbl hbA dL_1030 hin ?_
  refine G_aload_n rfl 0 rfl K dL_1031 ?_
  refine G_iload 4 rfl K dL_1032 ?_
  refine G_iconst (v := 3) rfl K dL_1034 ?_
  refine G_iadd K dL_1035 ?_
  obtain ⟨hin, h⟩ := wpO_g h
  refine G_sld K hX hbl hbA dL_1036 hin ?_
  refine G_aload_n rfl 0 rfl K dL_1037 ?_
  refine G_iload 4 rfl K dL_1038 ?_
  refine G_iconst (v := 4) rfl K dL_1040 ?_
  refine G_iadd K dL_1041 ?_
  obtain ⟨hin, h⟩ := wpO_g h
  refine G_sld K hX hbl hbA dL_1042 hin ?_
  refine G_if_eq (tgt := 1050) K dL_1043 (by decide) (fun hc => ?_) (fun hc => ?_)
  · have h := wpO_t h hc
    refine G_iconst (v := 0) rfl K dL_1050 ?_
    exact J1051 (xs (x4 + 1).toNatClampNeg) (xs (x4 + 2).toNatClampNeg) (xs (x4 + 3).toNatClampNeg) false M h
  · have h := wpO_f h hc
    refine G_iconst (v := 1) rfl K dL_1046 ?_
    refine G_goto (tgt := 1051) K dL_1047 (by decide) ?_
    exact J1051 (xs (x4 + 1).toNatClampNeg) (xs (x4 + 2).toNatClampNeg) (xs (x4 + 3).toNatClampNeg) true M h
def F_LAWc_18 (xs : Nat → Int32) (L : Nat) (x4 : Int32) (M : Mem) : Option Mem :=
  if inb (x4 + 1) L then if inb (x4 + 2) L then if inb (x4 + 3) L then if inb (x4 + 4) L then (F_LAW_mild (xs (x4 + 1).toNatClampNeg) (xs (x4 + 2).toNatClampNeg) (xs (x4 + 3).toNatClampNeg) (xs (x4 + 4).toNatClampNeg) M).bind fun r1 => if inb (x4 + 1) L then if inb (x4 + 2) L then if inb (x4 + 3) L then if inb (x4 + 4) L then (F_MO_mild (xs (x4 + 1).toNatClampNeg) (xs (x4 + 2).toNatClampNeg) (xs (x4 + 3).toNatClampNeg) (xs (x4 + 4).toNatClampNeg) r1.2).bind fun r2 => some r2.2 else none else none else none else none else none else none else none else none
set_option maxRecDepth 100000 in
set_option maxHeartbeats 8000000 in
theorem K_LAWc_18 {p : Program} {l : Launch} {e : Env} {s : State} {m : MethodId} {args : Array Value} {below : List Frame} {meth : Method} {c : Code} {g : GB} {Q : State → Prop} {b L : Nat} {xs : Nat → Int32} (K : KF p l s m args meth c g code 8 "KeptWellLaw") (htr : l.stackTraces = false) (hX : va_X b L xs s s.heap) (hbl : b < s.heap.size) (hbA : ¬ AS g s.heap.size b) (C S : Nat) (hC : C + 8 ≤ 601024) (hS : S + 48 ≤ 7293034) (x4 : Int32) (M : Mem) (PHI : Mem → Prop) (hnext : ∀ M, PHI M → GG p l e room_1 s m args below meth c g 8 Q (C + 8) (S + 48) 1998 [(0, .ref b), (1, .ref (g.2.1 0)), (2, .ref (g.2.1 94)), (3, .ref (g.2.1 121)), (4, .int x4)] [] M) (h : wpO (F_LAWc_18 xs L x4 M) PHI) : GG p l e room_1 s m args below meth c g 8 Q C S 1098 [(0, .ref b), (1, .ref (g.2.1 0)), (2, .ref (g.2.1 94)), (3, .ref (g.2.1 121)), (4, .int x4)] [] M := by
  unfold F_LAWc_18 at h
  refine G_aload_n rfl 1 rfl K dL_1098 ?_
  refine G_aload_n rfl 0 rfl K dL_1099 ?_
  refine G_iload 4 rfl K dL_1100 ?_
  refine G_iconst (v := 1) rfl K dL_1102 ?_
  refine G_iadd K dL_1103 ?_
  obtain ⟨hin, h⟩ := wpO_g h
  refine G_sld K hX hbl hbA dL_1104 hin ?_
  refine G_aload_n rfl 0 rfl K dL_1105 ?_
  refine G_iload 4 rfl K dL_1106 ?_
  refine G_iconst (v := 2) rfl K dL_1108 ?_
  refine G_iadd K dL_1109 ?_
  obtain ⟨hin, h⟩ := wpO_g h
  refine G_sld K hX hbl hbA dL_1110 hin ?_
  refine G_aload_n rfl 0 rfl K dL_1111 ?_
  refine G_iload 4 rfl K dL_1112 ?_
  refine G_iconst (v := 3) rfl K dL_1114 ?_
  refine G_iadd K dL_1115 ?_
  obtain ⟨hin, h⟩ := wpO_g h
  refine G_sld K hX hbl hbA dL_1116 hin ?_
  refine G_aload_n rfl 0 rfl K dL_1117 ?_
  refine G_iload 4 rfl K dL_1118 ?_
  refine G_iconst (v := 4) rfl K dL_1120 ?_
  refine G_iadd K dL_1121 ?_
  obtain ⟨hin, h⟩ := wpO_g h
  refine G_sld K hX hbl hbA dL_1122 hin ?_
  refine G_aload_n rfl 3 rfl K dL_1123 ?_
  obtain ⟨r1, e1, h⟩ := wpO_bind h
  refine G_callH [.ref (g.2.1 0), .int (xs (x4 + 1).toNatClampNeg), .int (xs (x4 + 2).toNatClampNeg), .int (xs (x4 + 3).toNatClampNeg), .int (xs (x4 + 4).toNatClampNeg), .ref (g.2.1 121)] [] K dL_1124 wv_1144 yd_L_mild (by decide) ⟨by show C + 0 + 4 ≤ 601024; omega, by show S + 0 + 24 ≤ 7293034; omega⟩ rfl rfl (Nat.le_of_ble_eq_true rfl) (K_LAW_mild l g htr (xs (x4 + 1).toNatClampNeg) (xs (x4 + 2).toNatClampNeg) (xs (x4 + 3).toNatClampNeg) (xs (x4 + 4).toNatClampNeg) M _ _ e1) ?_
  refine G_istore K dL_1127 (Nat.le_of_ble_eq_true rfl) rfl ?_
  refine G_aload_n rfl 3 rfl K dL_1129 ?_
  refine G_aload_n rfl 1 rfl K dL_1130 ?_
  refine G_iload 5 rfl K dL_1131 ?_
  refine G_iconst (v := 1) rfl K dL_1133 ?_
  refine G_iadd K dL_1134 ?_
  obtain ⟨hin, h⟩ := wpO_g h
  refine G_sld K hX hbl hbA dL_1135 hin ?_
  refine G_aload_n rfl 1 rfl K dL_1136 ?_
  refine G_iload 5 rfl K dL_1137 ?_
  refine G_iconst (v := 2) rfl K dL_1139 ?_
  refine G_iadd K dL_1140 ?_
  obtain ⟨hin, h⟩ := wpO_g h
  refine G_sld K hX hbl hbA dL_1141 hin ?_
  refine G_aload_n rfl 1 rfl K dL_1142 ?_
  refine G_iload 5 rfl K dL_1143 ?_
  refine G_iconst (v := 3) rfl K dL_1145 ?_
  refine G_iadd K dL_1146 ?_
  obtain ⟨hin, h⟩ := wpO_g h
  refine G_sld K hX hbl hbA dL_1147 hin ?_
  refine G_aload_n rfl 1 rfl K dL_1148 ?_
  refine G_iload 5 rfl K dL_1149 ?_
  refine G_iconst (v := 4) rfl K dL_1151 ?_
  refine G_iadd K dL_1152 ?_
  obtain ⟨hin, h⟩ := wpO_g h
  refine G_sld K hX hbl hbA dL_1153 hin ?_
  obtain ⟨r2, e2, h⟩ := wpO_bind h
  refine G_callVi (ci := 12) [.int (xs (x4 + 1).toNatClampNeg), .int (xs (x4 + 2).toNatClampNeg), .int (xs (x4 + 3).toNatClampNeg), .int (xs (x4 + 4).toNatClampNeg)] [] K dL_1154 wv_1887 yd_X12_mild (Nat.le_of_ble_eq_true rfl) (sh_94 _ _) rfl (by decide) ⟨by show C + 4 + 0 ≤ 601024; omega, by show S + 24 + 0 ≤ 7293034; omega⟩ rfl rfl (Nat.le_of_ble_eq_true rfl) (K_MO_mild l g htr (xs (x4 + 1).toNatClampNeg) (xs (x4 + 2).toNatClampNeg) (xs (x4 + 3).toNatClampNeg) (xs (x4 + 4).toNatClampNeg) r1.2 _ _ e2) ?_
  refine G_istore K dL_1157 (Nat.le_of_ble_eq_true rfl) rfl ?_
  refine G_goto (tgt := 1998) K dL_1159 (by decide) ?_
  exact G_wide (k := C + 8) (n := S + 48) (by show C + 4 ≤ C + 8; omega) (by show S + 24 ≤ S + 48; omega) (G_lv (lv' := [(0, .ref b), (1, .ref (g.2.1 0)), (2, .ref (g.2.1 94)), (3, .ref (g.2.1 121)), (4, .int x4)]) [2, 3, 4, 5, 6] rfl (hnext r2.2 (wpO_some h)))
def F_LAWc_19 (xs : Nat → Int32) (L : Nat) (x4 : Int32) (M : Mem) : Option Mem :=
  if inb (x4 + 1) L then if inb (x4 + 2) L then if inb (x4 + 3) L then (F_LAW_edge (xs (x4 + 1).toNatClampNeg) (xs (x4 + 2).toNatClampNeg) (xs (x4 + 3).toNatClampNeg) M).bind fun r1 => if inb (x4 + 1) L then if inb (x4 + 2) L then if inb (x4 + 3) L then (F_MO_edge (xs (x4 + 1).toNatClampNeg) (xs (x4 + 2).toNatClampNeg) (xs (x4 + 3).toNatClampNeg) r1.2).bind fun r2 => some r2.2 else none else none else none else none else none else none
set_option maxRecDepth 100000 in
set_option maxHeartbeats 8000000 in
theorem K_LAWc_19 {p : Program} {l : Launch} {e : Env} {s : State} {m : MethodId} {args : Array Value} {below : List Frame} {meth : Method} {c : Code} {g : GB} {Q : State → Prop} {b L : Nat} {xs : Nat → Int32} (K : KF p l s m args meth c g code 8 "KeptWellLaw") (htr : l.stackTraces = false) (hX : va_X b L xs s s.heap) (hbl : b < s.heap.size) (hbA : ¬ AS g s.heap.size b) (C S : Nat) (hC : C + 8 ≤ 601024) (hS : S + 48 ≤ 7293034) (x4 : Int32) (M : Mem) (PHI : Mem → Prop) (hnext : ∀ M, PHI M → GG p l e room_1 s m args below meth c g 8 Q (C + 8) (S + 48) 1998 [(0, .ref b), (1, .ref (g.2.1 0)), (2, .ref (g.2.1 94)), (3, .ref (g.2.1 121)), (4, .int x4)] [] M) (h : wpO (F_LAWc_19 xs L x4 M) PHI) : GG p l e room_1 s m args below meth c g 8 Q C S 1162 [(0, .ref b), (1, .ref (g.2.1 0)), (2, .ref (g.2.1 94)), (3, .ref (g.2.1 121)), (4, .int x4)] [] M := by
  unfold F_LAWc_19 at h
  refine G_aload_n rfl 1 rfl K dL_1162 ?_
  refine G_aload_n rfl 0 rfl K dL_1163 ?_
  refine G_iload 4 rfl K dL_1164 ?_
  refine G_iconst (v := 1) rfl K dL_1166 ?_
  refine G_iadd K dL_1167 ?_
  obtain ⟨hin, h⟩ := wpO_g h
  refine G_sld K hX hbl hbA dL_1168 hin ?_
  refine G_aload_n rfl 0 rfl K dL_1169 ?_
  refine G_iload 4 rfl K dL_1170 ?_
  refine G_iconst (v := 2) rfl K dL_1172 ?_
  refine G_iadd K dL_1173 ?_
  obtain ⟨hin, h⟩ := wpO_g h
  refine G_sld K hX hbl hbA dL_1174 hin ?_
  refine G_aload_n rfl 0 rfl K dL_1175 ?_
  refine G_iload 4 rfl K dL_1176 ?_
  refine G_iconst (v := 3) rfl K dL_1178 ?_
  refine G_iadd K dL_1179 ?_
  obtain ⟨hin, h⟩ := wpO_g h
  refine G_sld K hX hbl hbA dL_1180 hin ?_
  refine G_aload_n rfl 3 rfl K dL_1181 ?_
  obtain ⟨r1, e1, h⟩ := wpO_bind h
  refine G_callH [.ref (g.2.1 0), .int (xs (x4 + 1).toNatClampNeg), .int (xs (x4 + 2).toNatClampNeg), .int (xs (x4 + 3).toNatClampNeg), .ref (g.2.1 121)] [] K dL_1182 wv_1167 yd_L_edge (by decide) ⟨by show C + 0 + 5 ≤ 601024; omega, by show S + 0 + 30 ≤ 7293034; omega⟩ rfl rfl (Nat.le_of_ble_eq_true rfl) (K_LAW_edge l g htr (xs (x4 + 1).toNatClampNeg) (xs (x4 + 2).toNatClampNeg) (xs (x4 + 3).toNatClampNeg) M _ _ e1) ?_
  refine G_istore K dL_1185 (Nat.le_of_ble_eq_true rfl) rfl ?_
  refine G_aload_n rfl 3 rfl K dL_1187 ?_
  refine G_aload_n rfl 1 rfl K dL_1188 ?_
  refine G_iload 5 rfl K dL_1189 ?_
  refine G_iconst (v := 1) rfl K dL_1191 ?_
  refine G_iadd K dL_1192 ?_
  obtain ⟨hin, h⟩ := wpO_g h
  refine G_sld K hX hbl hbA dL_1193 hin ?_
  refine G_aload_n rfl 1 rfl K dL_1194 ?_
  refine G_iload 5 rfl K dL_1195 ?_
  refine G_iconst (v := 2) rfl K dL_1197 ?_
  refine G_iadd K dL_1198 ?_
  obtain ⟨hin, h⟩ := wpO_g h
  refine G_sld K hX hbl hbA dL_1199 hin ?_
  refine G_aload_n rfl 1 rfl K dL_1200 ?_
  refine G_iload 5 rfl K dL_1201 ?_
  refine G_iconst (v := 3) rfl K dL_1203 ?_
  refine G_iadd K dL_1204 ?_
  obtain ⟨hin, h⟩ := wpO_g h
  refine G_sld K hX hbl hbA dL_1205 hin ?_
  obtain ⟨r2, e2, h⟩ := wpO_bind h
  refine G_callVi (ci := 12) [.int (xs (x4 + 1).toNatClampNeg), .int (xs (x4 + 2).toNatClampNeg), .int (xs (x4 + 3).toNatClampNeg)] [] K dL_1206 wv_1902 yd_X12_edge (Nat.le_of_ble_eq_true rfl) (sh_94 _ _) rfl (by decide) ⟨by show C + 5 + 0 ≤ 601024; omega, by show S + 30 + 0 ≤ 7293034; omega⟩ rfl rfl (Nat.le_of_ble_eq_true rfl) (K_MO_edge l g htr (xs (x4 + 1).toNatClampNeg) (xs (x4 + 2).toNatClampNeg) (xs (x4 + 3).toNatClampNeg) r1.2 _ _ e2) ?_
  refine G_istore K dL_1209 (Nat.le_of_ble_eq_true rfl) rfl ?_
  refine G_goto (tgt := 1998) K dL_1211 (by decide) ?_
  exact G_wide (k := C + 8) (n := S + 48) (by show C + 5 ≤ C + 8; omega) (by show S + 30 ≤ S + 48; omega) (G_lv (lv' := [(0, .ref b), (1, .ref (g.2.1 0)), (2, .ref (g.2.1 94)), (3, .ref (g.2.1 121)), (4, .int x4)]) [2, 3, 4, 5, 6] rfl (hnext r2.2 (wpO_some h)))
def F_LAWc_20 (xs : Nat → Int32) (L : Nat) (x4 : Int32) (M : Mem) : Option Mem :=
  (F_KW_together M).bind fun r1 => (F_MO_together r1.2).bind fun r2 => some r2.2
set_option maxRecDepth 100000 in
set_option maxHeartbeats 8000000 in
theorem K_LAWc_20 {p : Program} {l : Launch} {e : Env} {s : State} {m : MethodId} {args : Array Value} {below : List Frame} {meth : Method} {c : Code} {g : GB} {Q : State → Prop} {b L : Nat} {xs : Nat → Int32} (K : KF p l s m args meth c g code 8 "KeptWellLaw") (htr : l.stackTraces = false) (hX : va_X b L xs s s.heap) (hbl : b < s.heap.size) (hbA : ¬ AS g s.heap.size b) (C S : Nat) (hC : C + 8 ≤ 601024) (hS : S + 48 ≤ 7293034) (x4 : Int32) (M : Mem) (PHI : Mem → Prop) (hnext : ∀ M, PHI M → GG p l e room_1 s m args below meth c g 8 Q (C + 8) (S + 48) 1998 [(0, .ref b), (1, .ref (g.2.1 0)), (2, .ref (g.2.1 94)), (3, .ref (g.2.1 121)), (4, .int x4)] [] M) (h : wpO (F_LAWc_20 xs L x4 M) PHI) : GG p l e room_1 s m args below meth c g 8 Q C S 1214 [(0, .ref b), (1, .ref (g.2.1 0)), (2, .ref (g.2.1 94)), (3, .ref (g.2.1 121)), (4, .int x4)] [] M := by
  unfold F_LAWc_20 at h
  refine G_aload_n rfl 1 rfl K dL_1214 ?_
  obtain ⟨r1, e1, h⟩ := wpO_bind h
  refine G_callVi (ci := 11) [] [] K dL_1215 wv_463 yd_X11_together (Nat.le_of_ble_eq_true rfl) (sh_0 _ _) rfl (by decide) ⟨by show C + 0 + 0 ≤ 601024; omega, by show S + 0 + 0 ≤ 7293034; omega⟩ rfl rfl (Nat.le_of_ble_eq_true rfl) (K_KW_together l g htr  M _ _ e1) ?_
  refine G_pop rfl K dL_1218 ?_
  refine G_aload_n rfl 2 rfl K dL_1219 ?_
  obtain ⟨r2, e2, h⟩ := wpO_bind h
  refine G_callVi (ci := 12) [] [] K dL_1220 wv_1906 yd_X12_together (Nat.le_of_ble_eq_true rfl) (sh_94 _ _) rfl (by decide) ⟨by show C + 0 + 0 ≤ 601024; omega, by show S + 0 + 0 ≤ 7293034; omega⟩ rfl rfl (Nat.le_of_ble_eq_true rfl) (K_MO_together l g htr  r1.2 _ _ e2) ?_
  refine G_pop rfl K dL_1223 ?_
  refine G_goto (tgt := 1998) K dL_1224 (by decide) ?_
  exact G_wide (k := C + 8) (n := S + 48) (by show C + 0 ≤ C + 8; omega) (by show S + 0 ≤ S + 48; omega) (hnext r2.2 (wpO_some h))
def F_LAWc_21 (xs : Nat → Int32) (L : Nat) (x4 : Int32) (M : Mem) : Option Mem :=
  if inb (x4 + 1) L then if inb (x4 + 2) L then (F_LAW_mistakes (xs (x4 + 1).toNatClampNeg) (xs (x4 + 2).toNatClampNeg) M).bind fun r1 => if inb (x4 + 1) L then if inb (x4 + 2) L then (F_MO_mistakes (xs (x4 + 1).toNatClampNeg) (xs (x4 + 2).toNatClampNeg) r1.2).bind fun r2 => some r2 else none else none else none else none
set_option maxRecDepth 100000 in
set_option maxHeartbeats 8000000 in
theorem K_LAWc_21 {p : Program} {l : Launch} {e : Env} {s : State} {m : MethodId} {args : Array Value} {below : List Frame} {meth : Method} {c : Code} {g : GB} {Q : State → Prop} {b L : Nat} {xs : Nat → Int32} (K : KF p l s m args meth c g code 8 "KeptWellLaw") (htr : l.stackTraces = false) (hX : va_X b L xs s s.heap) (hbl : b < s.heap.size) (hbA : ¬ AS g s.heap.size b) (C S : Nat) (hC : C + 8 ≤ 601024) (hS : S + 48 ≤ 7293034) (x4 : Int32) (M : Mem) (PHI : Mem → Prop) (hnext : ∀ M, PHI M → GG p l e room_1 s m args below meth c g 8 Q (C + 8) (S + 48) 1998 [(0, .ref b), (1, .ref (g.2.1 0)), (2, .ref (g.2.1 94)), (3, .ref (g.2.1 121)), (4, .int x4)] [] M) (h : wpO (F_LAWc_21 xs L x4 M) PHI) : GG p l e room_1 s m args below meth c g 8 Q C S 1227 [(0, .ref b), (1, .ref (g.2.1 0)), (2, .ref (g.2.1 94)), (3, .ref (g.2.1 121)), (4, .int x4)] [] M := by
  unfold F_LAWc_21 at h
  refine G_aload_n rfl 1 rfl K dL_1227 ?_
  refine G_aload_n rfl 0 rfl K dL_1228 ?_
  refine G_iload 4 rfl K dL_1229 ?_
  refine G_iconst (v := 1) rfl K dL_1231 ?_
  refine G_iadd K dL_1232 ?_
  obtain ⟨hin, h⟩ := wpO_g h
  refine G_sld K hX hbl hbA dL_1233 hin ?_
  refine G_aload_n rfl 0 rfl K dL_1234 ?_
  refine G_iload 4 rfl K dL_1235 ?_
  refine G_iconst (v := 2) rfl K dL_1237 ?_
  refine G_iadd K dL_1238 ?_
  obtain ⟨hin, h⟩ := wpO_g h
  refine G_sld K hX hbl hbA dL_1239 hin ?_
  obtain ⟨r1, e1, h⟩ := wpO_bind h
  refine G_callH [.ref (g.2.1 0), .int (xs (x4 + 1).toNatClampNeg), .int (xs (x4 + 2).toNatClampNeg)] [] K dL_1240 wv_1179 yd_L_mistakes (by decide) ⟨by show C + 0 + 2 ≤ 601024; omega, by show S + 0 + 12 ≤ 7293034; omega⟩ rfl rfl (Nat.le_of_ble_eq_true rfl) (K_LAW_mistakes l g htr (xs (x4 + 1).toNatClampNeg) (xs (x4 + 2).toNatClampNeg) M _ _ e1) ?_
  refine G_istore K dL_1243 (Nat.le_of_ble_eq_true rfl) rfl ?_
  refine G_aload_n rfl 3 rfl K dL_1245 ?_
  refine G_aload_n rfl 1 rfl K dL_1246 ?_
  refine G_iload 5 rfl K dL_1247 ?_
  refine G_iconst (v := 1) rfl K dL_1249 ?_
  refine G_iadd K dL_1250 ?_
  obtain ⟨hin, h⟩ := wpO_g h
  refine G_sld K hX hbl hbA dL_1251 hin ?_
  refine G_aload_n rfl 1 rfl K dL_1252 ?_
  refine G_iload 5 rfl K dL_1253 ?_
  refine G_iconst (v := 2) rfl K dL_1255 ?_
  refine G_iadd K dL_1256 ?_
  obtain ⟨hin, h⟩ := wpO_g h
  refine G_sld K hX hbl hbA dL_1257 hin ?_
  obtain ⟨r2, e2, h⟩ := wpO_bind h
  refine G_callVv (ci := 12) [.int (xs (x4 + 1).toNatClampNeg), .int (xs (x4 + 2).toNatClampNeg)] [] K dL_1258 wv_1914 yd_X12_mistakes (Nat.le_of_ble_eq_true rfl) (sh_94 _ _) rfl (by decide) ⟨by show C + 2 + 0 ≤ 601024; omega, by show S + 12 + 0 ≤ 7293034; omega⟩ rfl rfl (Nat.le_of_ble_eq_true rfl) (K_MO_mistakes l g htr (xs (x4 + 1).toNatClampNeg) (xs (x4 + 2).toNatClampNeg) r1.2 _ e2) ?_
  refine G_goto (tgt := 1998) K dL_1261 (by decide) ?_
  exact G_wide (k := C + 8) (n := S + 48) (by show C + 2 ≤ C + 8; omega) (by show S + 12 ≤ S + 48; omega) (G_lv (lv' := [(0, .ref b), (1, .ref (g.2.1 0)), (2, .ref (g.2.1 94)), (3, .ref (g.2.1 121)), (4, .int x4)]) [1, 2, 3, 4, 5] rfl (hnext r2 (wpO_some h)))
def F_LAWc_22_j1364 (xs : Nat → Int32) (L : Nat) (x4 : Int32) (x5 : Int32) (s1 : Int32) (s2 : Int32) (s3 : Int32) (s4 : Bool) (s5 : Bool) (M : Mem) : Option (Mem) :=
  (F_MO_doubt s1 s2 s3 ((b2i s4)) ((b2i s5)) M).bind fun r2 => (F_MO_thrown r2.2).bind fun r3 => if r3 = x5 then if x5 = 0 then if inb ((0 : Int32)) 1 then if (r2.2.2 121 ((0 : Int32)).toNatClampNeg) = r2.1 then some r2.2 else none else none else some r2.2 else none
def F_LAWc_22_j1350 (xs : Nat → Int32) (L : Nat) (x4 : Int32) (x5 : Int32) (s1 : Int32) (s2 : Int32) (s3 : Int32) (s4 : Bool) (M : Mem) : Option (Mem) :=
  if inb (x4 + 5) L then if (xs (x4 + 5).toNatClampNeg) = 0 then F_LAWc_22_j1364 xs L x4 x5 s1 s2 s3 s4 false M else F_LAWc_22_j1364 xs L x4 x5 s1 s2 s3 s4 true M else none
def F_LAWc_22_j1311 (xs : Nat → Int32) (L : Nat) (x4 : Int32) (s1 : Int32) (s2 : Int32) (s3 : Int32) (s4 : Bool) (s5 : Bool) (M : Mem) : Option (Mem) :=
  (F_LAW_doubt s1 s2 s3 ((b2i s4)) ((b2i s5)) M).bind fun r1 => if inb (x4 + 1) L then if inb (x4 + 2) L then if inb (x4 + 3) L then if inb (x4 + 4) L then if (xs (x4 + 4).toNatClampNeg) = 0 then F_LAWc_22_j1350 xs L x4 r1.1 (xs (x4 + 1).toNatClampNeg) (xs (x4 + 2).toNatClampNeg) (xs (x4 + 3).toNatClampNeg) false r1.2 else F_LAWc_22_j1350 xs L x4 r1.1 (xs (x4 + 1).toNatClampNeg) (xs (x4 + 2).toNatClampNeg) (xs (x4 + 3).toNatClampNeg) true r1.2 else none else none else none else none
def F_LAWc_22_j1297 (xs : Nat → Int32) (L : Nat) (x4 : Int32) (s1 : Int32) (s2 : Int32) (s3 : Int32) (s4 : Bool) (M : Mem) : Option (Mem) :=
  if inb (x4 + 5) L then if (xs (x4 + 5).toNatClampNeg) = 0 then F_LAWc_22_j1311 xs L x4 s1 s2 s3 s4 false M else F_LAWc_22_j1311 xs L x4 s1 s2 s3 s4 true M else none
def F_LAWc_22 (xs : Nat → Int32) (L : Nat) (x4 : Int32) (M : Mem) : Option Mem :=
  if inb (x4 + 1) L then if inb (x4 + 2) L then if inb (x4 + 3) L then if inb (x4 + 4) L then if (xs (x4 + 4).toNatClampNeg) = 0 then F_LAWc_22_j1297 xs L x4 (xs (x4 + 1).toNatClampNeg) (xs (x4 + 2).toNatClampNeg) (xs (x4 + 3).toNatClampNeg) false M else F_LAWc_22_j1297 xs L x4 (xs (x4 + 1).toNatClampNeg) (xs (x4 + 2).toNatClampNeg) (xs (x4 + 3).toNatClampNeg) true M else none else none else none else none
set_option maxRecDepth 100000 in
set_option maxHeartbeats 8000000 in
theorem K_LAWc_22 {p : Program} {l : Launch} {e : Env} {s : State} {m : MethodId} {args : Array Value} {below : List Frame} {meth : Method} {c : Code} {g : GB} {Q : State → Prop} {b L : Nat} {xs : Nat → Int32} (K : KF p l s m args meth c g code 8 "KeptWellLaw") (htr : l.stackTraces = false) (hX : va_X b L xs s s.heap) (hbl : b < s.heap.size) (hbA : ¬ AS g s.heap.size b) (C S : Nat) (hC : C + 8 ≤ 601024) (hS : S + 48 ≤ 7293034) (x4 : Int32) (M : Mem) (PHI : Mem → Prop) (hnext : ∀ M, PHI M → GG p l e room_1 s m args below meth c g 8 Q (C + 8) (S + 48) 1998 [(0, .ref b), (1, .ref (g.2.1 0)), (2, .ref (g.2.1 94)), (3, .ref (g.2.1 121)), (4, .int x4)] [] M) (h : wpO (F_LAWc_22 xs L x4 M) PHI) : GG p l e room_1 s m args below meth c g 8 Q C S 1264 [(0, .ref b), (1, .ref (g.2.1 0)), (2, .ref (g.2.1 94)), (3, .ref (g.2.1 121)), (4, .int x4)] [] M := by
  have J1364 : ∀ (x5 : Int32) (s1 : Int32) (s2 : Int32) (s3 : Int32) (s4 : Bool) (s5 : Bool) (M : Mem), wpO (F_LAWc_22_j1364 xs L x4 x5 s1 s2 s3 s4 s5 M) PHI → GG p l e room_1 s m args below meth c g 8 Q (C + 8) (S + 48) 1364 [(0, .ref b), (1, .ref (g.2.1 0)), (2, .ref (g.2.1 94)), (3, .ref (g.2.1 121)), (4, .int x4), (5, .int x5)] [.int ((b2i s5)), .int ((b2i s4)), .int s3, .int s2, .int s1, .ref (g.2.1 94)] M := by
    intro x5 s1 s2 s3 s4 s5 M h
    unfold F_LAWc_22_j1364 at h
    obtain ⟨r2, e2, h⟩ := wpO_bind h
    refine G_callVl (ci := 12) [.int s1, .int s2, .int s3, .int ((b2i s4)), .int ((b2i s5))] [] K dL_1364 wv_1918 yd_X12_doubt (Nat.le_of_ble_eq_true rfl) (sh_94 _ _) rfl (by decide) ⟨by show C + 8 + 0 ≤ 601024; omega, by show S + 48 + 0 ≤ 7293034; omega⟩ rfl rfl (Nat.le_of_ble_eq_true rfl) (K_MO_doubt l g htr s1 s2 s3 ((b2i s4)) ((b2i s5)) M _ _ e2) ?_
    refine G_lstore K dL_1367 (Nat.le_of_ble_eq_true rfl) rfl ?_
    refine G_aload_n rfl 3 rfl K dL_1369 ?_
    obtain ⟨r3, e3, h⟩ := wpO_bind h
    refine G_callVi (ci := 12) [] [] K dL_1370 wv_1470 yd_X12_thrown (Nat.le_of_ble_eq_true rfl) (sh_94 _ _) rfl (by decide) ⟨by show C + 8 + 0 ≤ 601024; omega, by show S + 48 + 0 ≤ 7293034; omega⟩ rfl rfl (Nat.le_of_ble_eq_true rfl) (K_MO_thrown l g htr  r2.2 _ e3) ?_
    refine G_iload 6 rfl K dL_1373 ?_
    refine G_icmp_eq (tgt := 1380) K dL_1375 (by decide) (fun hc => ?_) (fun hc => ?_)
    · have h := wpO_t h hc
      refine G_iload 6 rfl K dL_1380 ?_
      refine G_if_ne (tgt := 1396) K dL_1382 (by decide) (fun hc => ?_) (fun hc => ?_)
      · have h := wpO_f h hc
        refine G_goto (tgt := 1998) K dL_1396 (by decide) ?_
        exact G_wide (k := C + 8) (n := S + 48) (by show C + 8 ≤ C + 8; omega) (by show S + 48 ≤ S + 48; omega) (G_lv (lv' := [(0, .ref b), (1, .ref (g.2.1 0)), (2, .ref (g.2.1 94)), (3, .ref (g.2.1 121)), (4, .int x4)]) [1, 2, 3, 4, 5] rfl (hnext r2.2 (wpO_some h)))
      · have h := wpO_t h hc
        refine G_aload_n rfl 4 rfl K dL_1385 ?_
        refine G_iconst (v := 0) rfl K dL_1386 ?_
        obtain ⟨hin, h⟩ := wpO_g h
        refine G_lald K dL_1387 (Nat.le_of_ble_eq_true rfl) (sh_121 _ _) hin ?_
        refine G_lload 0 rfl K dL_1388 ?_
        refine G_lcmp_eq (tgt := 1396) K dL_1390 dL_1391 (by decide) (fun hc => ?_) (fun hc => ?_)
        · have h := wpO_t h hc
          refine G_goto (tgt := 1998) K dL_1396 (by decide) ?_
          exact G_wide (k := C + 8) (n := S + 48) (by show C + 8 ≤ C + 8; omega) (by show S + 48 ≤ S + 48; omega) (G_lv (lv' := [(0, .ref b), (1, .ref (g.2.1 0)), (2, .ref (g.2.1 94)), (3, .ref (g.2.1 121)), (4, .int x4)]) [1, 2, 3, 4, 5] rfl (hnext r2.2 (wpO_some h)))
        · have h := wpO_f h hc
          refine G_iconst (v := 0) rfl K dL_1394 ?_
          exact wpO_none h
    · have h := wpO_f h hc
      refine G_iconst (v := 0) rfl K dL_1378 ?_
      exact wpO_none h
  have J1350 : ∀ (x5 : Int32) (s1 : Int32) (s2 : Int32) (s3 : Int32) (s4 : Bool) (M : Mem), wpO (F_LAWc_22_j1350 xs L x4 x5 s1 s2 s3 s4 M) PHI → GG p l e room_1 s m args below meth c g 8 Q (C + 8) (S + 48) 1350 [(0, .ref b), (1, .ref (g.2.1 0)), (2, .ref (g.2.1 94)), (3, .ref (g.2.1 121)), (4, .int x4), (5, .int x5)] [.int ((b2i s4)), .int s3, .int s2, .int s1, .ref (g.2.1 94)] M := by
    intro x5 s1 s2 s3 s4 M h
    unfold F_LAWc_22_j1350 at h
    refine G_aload_n rfl 0 rfl K dL_1350 ?_
    refine G_iload 4 rfl K dL_1351 ?_
    refine G_iconst (v := 5) rfl K dL_1353 ?_
    refine G_iadd K dL_1354 ?_
    obtain ⟨hin, h⟩ := wpO_g h
    refine G_sld K hX hbl hbA dL_1355 hin ?_
    refine G_if_eq (tgt := 1363) K dL_1356 (by decide) (fun hc => ?_) (fun hc => ?_)
    · have h := wpO_t h hc
      refine G_iconst (v := 0) rfl K dL_1363 ?_
      exact J1364 x5 s1 s2 s3 s4 false M h
    · have h := wpO_f h hc
      refine G_iconst (v := 1) rfl K dL_1359 ?_
      refine G_goto (tgt := 1364) K dL_1360 (by decide) ?_
      exact J1364 x5 s1 s2 s3 s4 true M h
  have J1311 : ∀ (s1 : Int32) (s2 : Int32) (s3 : Int32) (s4 : Bool) (s5 : Bool) (M : Mem), wpO (F_LAWc_22_j1311 xs L x4 s1 s2 s3 s4 s5 M) PHI → GG p l e room_1 s m args below meth c g 8 Q (C + 0) (S + 0) 1311 [(0, .ref b), (1, .ref (g.2.1 0)), (2, .ref (g.2.1 94)), (3, .ref (g.2.1 121)), (4, .int x4)] [.int ((b2i s5)), .int ((b2i s4)), .int s3, .int s2, .int s1, .ref (g.2.1 0)] M := by
    intro s1 s2 s3 s4 s5 M h
    unfold F_LAWc_22_j1311 at h
    refine G_aload_n rfl 3 rfl K dL_1311 ?_
    obtain ⟨r1, e1, h⟩ := wpO_bind h
    refine G_callH [.ref (g.2.1 0), .int s1, .int s2, .int s3, .int ((b2i s4)), .int ((b2i s5)), .ref (g.2.1 121)] [] K dL_1312 wv_1186 yd_L_doubt (by decide) ⟨by show C + 0 + 8 ≤ 601024; omega, by show S + 0 + 48 ≤ 7293034; omega⟩ rfl rfl (Nat.le_of_ble_eq_true rfl) (K_LAW_doubt l g htr s1 s2 s3 ((b2i s4)) ((b2i s5)) M _ _ e1) ?_
    refine G_istore K dL_1315 (Nat.le_of_ble_eq_true rfl) rfl ?_
    refine G_aload_n rfl 3 rfl K dL_1317 ?_
    refine G_aload_n rfl 1 rfl K dL_1318 ?_
    refine G_iload 5 rfl K dL_1319 ?_
    refine G_iconst (v := 1) rfl K dL_1321 ?_
    refine G_iadd K dL_1322 ?_
    obtain ⟨hin, h⟩ := wpO_g h
    refine G_sld K hX hbl hbA dL_1323 hin ?_
    refine G_aload_n rfl 1 rfl K dL_1324 ?_
    refine G_iload 5 rfl K dL_1325 ?_
    refine G_iconst (v := 2) rfl K dL_1327 ?_
    refine G_iadd K dL_1328 ?_
    obtain ⟨hin, h⟩ := wpO_g h
    refine G_sld K hX hbl hbA dL_1329 hin ?_
    refine G_aload_n rfl 1 rfl K dL_1330 ?_
    refine G_iload 5 rfl K dL_1331 ?_
    refine G_iconst (v := 3) rfl K dL_1333 ?_
    refine G_iadd K dL_1334 ?_
    obtain ⟨hin, h⟩ := wpO_g h
    refine G_sld K hX hbl hbA dL_1335 hin ?_
    refine G_aload_n rfl 1 rfl K dL_1336 ?_
    refine G_iload 5 rfl K dL_1337 ?_
    refine G_iconst (v := 4) rfl K dL_1339 ?_
    refine G_iadd K dL_1340 ?_
    obtain ⟨hin, h⟩ := wpO_g h
    refine G_sld K hX hbl hbA dL_1341 hin ?_
    refine G_if_eq (tgt := 1349) K dL_1342 (by decide) (fun hc => ?_) (fun hc => ?_)
    · have h := wpO_t h hc
      refine G_iconst (v := 0) rfl K dL_1349 ?_
      exact G_lv (lv' := [(0, .ref b), (1, .ref (g.2.1 0)), (2, .ref (g.2.1 94)), (3, .ref (g.2.1 121)), (4, .int x4), (5, .int r1.1)]) [1, 2, 3, 4, 5, 0] rfl (J1350 r1.1 (xs (x4 + 1).toNatClampNeg) (xs (x4 + 2).toNatClampNeg) (xs (x4 + 3).toNatClampNeg) false r1.2 h)
    · have h := wpO_f h hc
      refine G_iconst (v := 1) rfl K dL_1345 ?_
      refine G_goto (tgt := 1350) K dL_1346 (by decide) ?_
      exact G_lv (lv' := [(0, .ref b), (1, .ref (g.2.1 0)), (2, .ref (g.2.1 94)), (3, .ref (g.2.1 121)), (4, .int x4), (5, .int r1.1)]) [1, 2, 3, 4, 5, 0] rfl (J1350 r1.1 (xs (x4 + 1).toNatClampNeg) (xs (x4 + 2).toNatClampNeg) (xs (x4 + 3).toNatClampNeg) true r1.2 h)
  have J1297 : ∀ (s1 : Int32) (s2 : Int32) (s3 : Int32) (s4 : Bool) (M : Mem), wpO (F_LAWc_22_j1297 xs L x4 s1 s2 s3 s4 M) PHI → GG p l e room_1 s m args below meth c g 8 Q (C + 0) (S + 0) 1297 [(0, .ref b), (1, .ref (g.2.1 0)), (2, .ref (g.2.1 94)), (3, .ref (g.2.1 121)), (4, .int x4)] [.int ((b2i s4)), .int s3, .int s2, .int s1, .ref (g.2.1 0)] M := by
    intro s1 s2 s3 s4 M h
    unfold F_LAWc_22_j1297 at h
    refine G_aload_n rfl 0 rfl K dL_1297 ?_
    refine G_iload 4 rfl K dL_1298 ?_
    refine G_iconst (v := 5) rfl K dL_1300 ?_
    refine G_iadd K dL_1301 ?_
    obtain ⟨hin, h⟩ := wpO_g h
    refine G_sld K hX hbl hbA dL_1302 hin ?_
    refine G_if_eq (tgt := 1310) K dL_1303 (by decide) (fun hc => ?_) (fun hc => ?_)
    · have h := wpO_t h hc
      refine G_iconst (v := 0) rfl K dL_1310 ?_
      exact J1311 s1 s2 s3 s4 false M h
    · have h := wpO_f h hc
      refine G_iconst (v := 1) rfl K dL_1306 ?_
      refine G_goto (tgt := 1311) K dL_1307 (by decide) ?_
      exact J1311 s1 s2 s3 s4 true M h
  unfold F_LAWc_22 at h
  refine G_aload_n rfl 1 rfl K dL_1264 ?_
  refine G_aload_n rfl 0 rfl K dL_1265 ?_
  refine G_iload 4 rfl K dL_1266 ?_
  refine G_iconst (v := 1) rfl K dL_1268 ?_
  refine G_iadd K dL_1269 ?_
  obtain ⟨hin, h⟩ := wpO_g h
  refine G_sld K hX hbl hbA dL_1270 hin ?_
  refine G_aload_n rfl 0 rfl K dL_1271 ?_
  refine G_iload 4 rfl K dL_1272 ?_
  refine G_iconst (v := 2) rfl K dL_1274 ?_
  refine G_iadd K dL_1275 ?_
  obtain ⟨hin, h⟩ := wpO_g h
  refine G_sld K hX hbl hbA dL_1276 hin ?_
  refine G_aload_n rfl 0 rfl K dL_1277 ?_
  refine G_iload 4 rfl K dL_1278 ?_
  refine G_iconst (v := 3) rfl K dL_1280 ?_
  refine G_iadd K dL_1281 ?_
  obtain ⟨hin, h⟩ := wpO_g h
  refine G_sld K hX hbl hbA dL_1282 hin ?_
  refine G_aload_n rfl 0 rfl K dL_1283 ?_
  refine G_iload 4 rfl K dL_1284 ?_
  refine G_iconst (v := 4) rfl K dL_1286 ?_
  refine G_iadd K dL_1287 ?_
  obtain ⟨hin, h⟩ := wpO_g h
  refine G_sld K hX hbl hbA dL_1288 hin ?_
  refine G_if_eq (tgt := 1296) K dL_1289 (by decide) (fun hc => ?_) (fun hc => ?_)
  · have h := wpO_t h hc
    refine G_iconst (v := 0) rfl K dL_1296 ?_
    exact J1297 (xs (x4 + 1).toNatClampNeg) (xs (x4 + 2).toNatClampNeg) (xs (x4 + 3).toNatClampNeg) false M h
  · have h := wpO_f h hc
    refine G_iconst (v := 1) rfl K dL_1292 ?_
    refine G_goto (tgt := 1297) K dL_1293 (by decide) ?_
    exact J1297 (xs (x4 + 1).toNatClampNeg) (xs (x4 + 2).toNatClampNeg) (xs (x4 + 3).toNatClampNeg) true M h
def F_LAWc_23 (xs : Nat → Int32) (L : Nat) (x4 : Int32) (M : Mem) : Option Mem :=
  (F_LAW_row M).bind fun r1 => (F_MO_row r1.2).bind fun r2 => some r2.2
set_option maxRecDepth 100000 in
set_option maxHeartbeats 8000000 in
theorem K_LAWc_23 {p : Program} {l : Launch} {e : Env} {s : State} {m : MethodId} {args : Array Value} {below : List Frame} {meth : Method} {c : Code} {g : GB} {Q : State → Prop} {b L : Nat} {xs : Nat → Int32} (K : KF p l s m args meth c g code 8 "KeptWellLaw") (htr : l.stackTraces = false) (hX : va_X b L xs s s.heap) (hbl : b < s.heap.size) (hbA : ¬ AS g s.heap.size b) (C S : Nat) (hC : C + 8 ≤ 601024) (hS : S + 48 ≤ 7293034) (x4 : Int32) (M : Mem) (PHI : Mem → Prop) (hnext : ∀ M, PHI M → GG p l e room_1 s m args below meth c g 8 Q (C + 8) (S + 48) 1998 [(0, .ref b), (1, .ref (g.2.1 0)), (2, .ref (g.2.1 94)), (3, .ref (g.2.1 121)), (4, .int x4)] [] M) (h : wpO (F_LAWc_23 xs L x4 M) PHI) : GG p l e room_1 s m args below meth c g 8 Q C S 1399 [(0, .ref b), (1, .ref (g.2.1 0)), (2, .ref (g.2.1 94)), (3, .ref (g.2.1 121)), (4, .int x4)] [] M := by
  unfold F_LAWc_23 at h
  refine G_aload_n rfl 1 rfl K dL_1399 ?_
  refine G_aload_n rfl 3 rfl K dL_1400 ?_
  obtain ⟨r1, e1, h⟩ := wpO_bind h
  refine G_callH [.ref (g.2.1 0), .ref (g.2.1 121)] [] K dL_1401 wv_1225 yd_L_row (by decide) ⟨by show C + 0 + 1 ≤ 601024; omega, by show S + 0 + 6 ≤ 7293034; omega⟩ rfl rfl (Nat.le_of_ble_eq_true rfl) (K_LAW_row l g htr  M _ _ e1) ?_
  refine G_istore K dL_1404 (Nat.le_of_ble_eq_true rfl) rfl ?_
  refine G_aload_n rfl 3 rfl K dL_1406 ?_
  obtain ⟨r2, e2, h⟩ := wpO_bind h
  refine G_callVi (ci := 12) [] [] K dL_1407 wv_1926 yd_X12_row (Nat.le_of_ble_eq_true rfl) (sh_94 _ _) rfl (by decide) ⟨by show C + 1 + 0 ≤ 601024; omega, by show S + 6 + 0 ≤ 7293034; omega⟩ rfl rfl (Nat.le_of_ble_eq_true rfl) (K_MO_row l g htr  r1.2 _ _ e2) ?_
  refine G_istore K dL_1410 (Nat.le_of_ble_eq_true rfl) rfl ?_
  refine G_goto (tgt := 1998) K dL_1412 (by decide) ?_
  exact G_wide (k := C + 8) (n := S + 48) (by show C + 1 ≤ C + 8; omega) (by show S + 6 ≤ S + 48; omega) (G_lv (lv' := [(0, .ref b), (1, .ref (g.2.1 0)), (2, .ref (g.2.1 94)), (3, .ref (g.2.1 121)), (4, .int x4)]) [2, 3, 4, 5, 6] rfl (hnext r2.2 (wpO_some h)))
def F_LAWc_24 (xs : Nat → Int32) (L : Nat) (x4 : Int32) (M : Mem) : Option Mem :=
  if inb (x4 + 1) L then if inb (x4 + 2) L then (F_LAW_judge (xs (x4 + 1).toNatClampNeg) (xs (x4 + 2).toNatClampNeg) M).bind fun r1 => if inb (x4 + 1) L then if inb (x4 + 2) L then (F_MO_judge (xs (x4 + 1).toNatClampNeg) (xs (x4 + 2).toNatClampNeg) r1.2).bind fun r2 => some r2.2 else none else none else none else none
set_option maxRecDepth 100000 in
set_option maxHeartbeats 8000000 in
theorem K_LAWc_24 {p : Program} {l : Launch} {e : Env} {s : State} {m : MethodId} {args : Array Value} {below : List Frame} {meth : Method} {c : Code} {g : GB} {Q : State → Prop} {b L : Nat} {xs : Nat → Int32} (K : KF p l s m args meth c g code 8 "KeptWellLaw") (htr : l.stackTraces = false) (hX : va_X b L xs s s.heap) (hbl : b < s.heap.size) (hbA : ¬ AS g s.heap.size b) (C S : Nat) (hC : C + 8 ≤ 601024) (hS : S + 48 ≤ 7293034) (x4 : Int32) (M : Mem) (PHI : Mem → Prop) (hnext : ∀ M, PHI M → GG p l e room_1 s m args below meth c g 8 Q (C + 8) (S + 48) 1998 [(0, .ref b), (1, .ref (g.2.1 0)), (2, .ref (g.2.1 94)), (3, .ref (g.2.1 121)), (4, .int x4)] [] M) (h : wpO (F_LAWc_24 xs L x4 M) PHI) : GG p l e room_1 s m args below meth c g 8 Q C S 1415 [(0, .ref b), (1, .ref (g.2.1 0)), (2, .ref (g.2.1 94)), (3, .ref (g.2.1 121)), (4, .int x4)] [] M := by
  unfold F_LAWc_24 at h
  refine G_aload_n rfl 1 rfl K dL_1415 ?_
  refine G_aload_n rfl 0 rfl K dL_1416 ?_
  refine G_iload 4 rfl K dL_1417 ?_
  refine G_iconst (v := 1) rfl K dL_1419 ?_
  refine G_iadd K dL_1420 ?_
  obtain ⟨hin, h⟩ := wpO_g h
  refine G_sld K hX hbl hbA dL_1421 hin ?_
  refine G_aload_n rfl 0 rfl K dL_1422 ?_
  refine G_iload 4 rfl K dL_1423 ?_
  refine G_iconst (v := 2) rfl K dL_1425 ?_
  refine G_iadd K dL_1426 ?_
  obtain ⟨hin, h⟩ := wpO_g h
  refine G_sld K hX hbl hbA dL_1427 hin ?_
  refine G_aload_n rfl 3 rfl K dL_1428 ?_
  obtain ⟨r1, e1, h⟩ := wpO_bind h
  refine G_callH [.ref (g.2.1 0), .int (xs (x4 + 1).toNatClampNeg), .int (xs (x4 + 2).toNatClampNeg), .ref (g.2.1 121)] [] K dL_1429 wv_1237 yd_L_judge (by decide) ⟨by show C + 0 + 5 ≤ 601024; omega, by show S + 0 + 30 ≤ 7293034; omega⟩ rfl rfl (Nat.le_of_ble_eq_true rfl) (K_LAW_judge l g htr (xs (x4 + 1).toNatClampNeg) (xs (x4 + 2).toNatClampNeg) M _ _ e1) ?_
  refine G_istore K dL_1432 (Nat.le_of_ble_eq_true rfl) rfl ?_
  refine G_aload_n rfl 3 rfl K dL_1434 ?_
  refine G_aload_n rfl 1 rfl K dL_1435 ?_
  refine G_iload 5 rfl K dL_1436 ?_
  refine G_iconst (v := 1) rfl K dL_1438 ?_
  refine G_iadd K dL_1439 ?_
  obtain ⟨hin, h⟩ := wpO_g h
  refine G_sld K hX hbl hbA dL_1440 hin ?_
  refine G_aload_n rfl 1 rfl K dL_1441 ?_
  refine G_iload 5 rfl K dL_1442 ?_
  refine G_iconst (v := 2) rfl K dL_1444 ?_
  refine G_iadd K dL_1445 ?_
  obtain ⟨hin, h⟩ := wpO_g h
  refine G_sld K hX hbl hbA dL_1446 hin ?_
  obtain ⟨r2, e2, h⟩ := wpO_bind h
  refine G_callVi (ci := 12) [.int (xs (x4 + 1).toNatClampNeg), .int (xs (x4 + 2).toNatClampNeg)] [] K dL_1447 wv_1930 yd_X12_judge (Nat.le_of_ble_eq_true rfl) (sh_94 _ _) rfl (by decide) ⟨by show C + 5 + 0 ≤ 601024; omega, by show S + 30 + 0 ≤ 7293034; omega⟩ rfl rfl (Nat.le_of_ble_eq_true rfl) (K_MO_judge l g htr (xs (x4 + 1).toNatClampNeg) (xs (x4 + 2).toNatClampNeg) r1.2 _ _ e2) ?_
  refine G_istore K dL_1450 (Nat.le_of_ble_eq_true rfl) rfl ?_
  refine G_goto (tgt := 1998) K dL_1452 (by decide) ?_
  exact G_wide (k := C + 8) (n := S + 48) (by show C + 5 ≤ C + 8; omega) (by show S + 30 ≤ S + 48; omega) (G_lv (lv' := [(0, .ref b), (1, .ref (g.2.1 0)), (2, .ref (g.2.1 94)), (3, .ref (g.2.1 121)), (4, .int x4)]) [2, 3, 4, 5, 6] rfl (hnext r2.2 (wpO_some h)))
def F_LAWc_25 (xs : Nat → Int32) (L : Nat) (x4 : Int32) (M : Mem) : Option Mem :=
  if inb (x4 + 1) L then (F_LAW_brought (xs (x4 + 1).toNatClampNeg) M).bind fun r1 => if inb (x4 + 1) L then (F_MO_brought (xs (x4 + 1).toNatClampNeg) r1.2).bind fun r2 => some r2.2 else none else none
set_option maxRecDepth 100000 in
set_option maxHeartbeats 8000000 in
theorem K_LAWc_25 {p : Program} {l : Launch} {e : Env} {s : State} {m : MethodId} {args : Array Value} {below : List Frame} {meth : Method} {c : Code} {g : GB} {Q : State → Prop} {b L : Nat} {xs : Nat → Int32} (K : KF p l s m args meth c g code 8 "KeptWellLaw") (htr : l.stackTraces = false) (hX : va_X b L xs s s.heap) (hbl : b < s.heap.size) (hbA : ¬ AS g s.heap.size b) (C S : Nat) (hC : C + 8 ≤ 601024) (hS : S + 48 ≤ 7293034) (x4 : Int32) (M : Mem) (PHI : Mem → Prop) (hnext : ∀ M, PHI M → GG p l e room_1 s m args below meth c g 8 Q (C + 8) (S + 48) 1998 [(0, .ref b), (1, .ref (g.2.1 0)), (2, .ref (g.2.1 94)), (3, .ref (g.2.1 121)), (4, .int x4)] [] M) (h : wpO (F_LAWc_25 xs L x4 M) PHI) : GG p l e room_1 s m args below meth c g 8 Q C S 1455 [(0, .ref b), (1, .ref (g.2.1 0)), (2, .ref (g.2.1 94)), (3, .ref (g.2.1 121)), (4, .int x4)] [] M := by
  unfold F_LAWc_25 at h
  refine G_aload_n rfl 1 rfl K dL_1455 ?_
  refine G_aload_n rfl 0 rfl K dL_1456 ?_
  refine G_iload 4 rfl K dL_1457 ?_
  refine G_iconst (v := 1) rfl K dL_1459 ?_
  refine G_iadd K dL_1460 ?_
  obtain ⟨hin, h⟩ := wpO_g h
  refine G_sld K hX hbl hbA dL_1461 hin ?_
  refine G_aload_n rfl 3 rfl K dL_1462 ?_
  obtain ⟨r1, e1, h⟩ := wpO_bind h
  refine G_callH [.ref (g.2.1 0), .int (xs (x4 + 1).toNatClampNeg), .ref (g.2.1 121)] [] K dL_1463 wv_1263 yd_L_brought (by decide) ⟨by show C + 0 + 1 ≤ 601024; omega, by show S + 0 + 6 ≤ 7293034; omega⟩ rfl rfl (Nat.le_of_ble_eq_true rfl) (K_LAW_brought l g htr (xs (x4 + 1).toNatClampNeg) M _ _ e1) ?_
  refine G_istore K dL_1466 (Nat.le_of_ble_eq_true rfl) rfl ?_
  refine G_aload_n rfl 3 rfl K dL_1468 ?_
  refine G_aload_n rfl 1 rfl K dL_1469 ?_
  refine G_iload 5 rfl K dL_1470 ?_
  refine G_iconst (v := 1) rfl K dL_1472 ?_
  refine G_iadd K dL_1473 ?_
  obtain ⟨hin, h⟩ := wpO_g h
  refine G_sld K hX hbl hbA dL_1474 hin ?_
  obtain ⟨r2, e2, h⟩ := wpO_bind h
  refine G_callVi (ci := 12) [.int (xs (x4 + 1).toNatClampNeg)] [] K dL_1475 wv_1938 yd_X12_brought (Nat.le_of_ble_eq_true rfl) (sh_94 _ _) rfl (by decide) ⟨by show C + 1 + 0 ≤ 601024; omega, by show S + 6 + 0 ≤ 7293034; omega⟩ rfl rfl (Nat.le_of_ble_eq_true rfl) (K_MO_brought l g htr (xs (x4 + 1).toNatClampNeg) r1.2 _ _ e2) ?_
  refine G_istore K dL_1478 (Nat.le_of_ble_eq_true rfl) rfl ?_
  refine G_goto (tgt := 1998) K dL_1480 (by decide) ?_
  exact G_wide (k := C + 8) (n := S + 48) (by show C + 1 ≤ C + 8; omega) (by show S + 6 ≤ S + 48; omega) (G_lv (lv' := [(0, .ref b), (1, .ref (g.2.1 0)), (2, .ref (g.2.1 94)), (3, .ref (g.2.1 121)), (4, .int x4)]) [2, 3, 4, 5, 6] rfl (hnext r2.2 (wpO_some h)))
def F_LAWc_26 (xs : Nat → Int32) (L : Nat) (x4 : Int32) (M : Mem) : Option Mem :=
  if inb (x4 + 1) L then if inb (x4 + 2) L then if inb (x4 + 3) L then if inb (x4 + 4) L then if inb (x4 + 5) L then (F_LAW_drawn (xs (x4 + 1).toNatClampNeg) (xs (x4 + 2).toNatClampNeg) (xs (x4 + 3).toNatClampNeg) (xs (x4 + 4).toNatClampNeg) (xs (x4 + 5).toNatClampNeg) M).bind fun r1 => if inb (x4 + 1) L then if inb (x4 + 2) L then if inb (x4 + 3) L then if inb (x4 + 4) L then if inb (x4 + 5) L then (F_MO_drawn (xs (x4 + 1).toNatClampNeg) (xs (x4 + 2).toNatClampNeg) (xs (x4 + 3).toNatClampNeg) (xs (x4 + 4).toNatClampNeg) (xs (x4 + 5).toNatClampNeg) r1.2).bind fun r2 => some r2.2 else none else none else none else none else none else none else none else none else none else none
set_option maxRecDepth 100000 in
set_option maxHeartbeats 8000000 in
theorem K_LAWc_26 {p : Program} {l : Launch} {e : Env} {s : State} {m : MethodId} {args : Array Value} {below : List Frame} {meth : Method} {c : Code} {g : GB} {Q : State → Prop} {b L : Nat} {xs : Nat → Int32} (K : KF p l s m args meth c g code 8 "KeptWellLaw") (htr : l.stackTraces = false) (hX : va_X b L xs s s.heap) (hbl : b < s.heap.size) (hbA : ¬ AS g s.heap.size b) (C S : Nat) (hC : C + 8 ≤ 601024) (hS : S + 48 ≤ 7293034) (x4 : Int32) (M : Mem) (PHI : Mem → Prop) (hnext : ∀ M, PHI M → GG p l e room_1 s m args below meth c g 8 Q (C + 8) (S + 48) 1998 [(0, .ref b), (1, .ref (g.2.1 0)), (2, .ref (g.2.1 94)), (3, .ref (g.2.1 121)), (4, .int x4)] [] M) (h : wpO (F_LAWc_26 xs L x4 M) PHI) : GG p l e room_1 s m args below meth c g 8 Q C S 1483 [(0, .ref b), (1, .ref (g.2.1 0)), (2, .ref (g.2.1 94)), (3, .ref (g.2.1 121)), (4, .int x4)] [] M := by
  unfold F_LAWc_26 at h
  refine G_aload_n rfl 1 rfl K dL_1483 ?_
  refine G_aload_n rfl 0 rfl K dL_1484 ?_
  refine G_iload 4 rfl K dL_1485 ?_
  refine G_iconst (v := 1) rfl K dL_1487 ?_
  refine G_iadd K dL_1488 ?_
  obtain ⟨hin, h⟩ := wpO_g h
  refine G_sld K hX hbl hbA dL_1489 hin ?_
  refine G_aload_n rfl 0 rfl K dL_1490 ?_
  refine G_iload 4 rfl K dL_1491 ?_
  refine G_iconst (v := 2) rfl K dL_1493 ?_
  refine G_iadd K dL_1494 ?_
  obtain ⟨hin, h⟩ := wpO_g h
  refine G_sld K hX hbl hbA dL_1495 hin ?_
  refine G_aload_n rfl 0 rfl K dL_1496 ?_
  refine G_iload 4 rfl K dL_1497 ?_
  refine G_iconst (v := 3) rfl K dL_1499 ?_
  refine G_iadd K dL_1500 ?_
  obtain ⟨hin, h⟩ := wpO_g h
  refine G_sld K hX hbl hbA dL_1501 hin ?_
  refine G_aload_n rfl 0 rfl K dL_1502 ?_
  refine G_iload 4 rfl K dL_1503 ?_
  refine G_iconst (v := 4) rfl K dL_1505 ?_
  refine G_iadd K dL_1506 ?_
  obtain ⟨hin, h⟩ := wpO_g h
  refine G_sld K hX hbl hbA dL_1507 hin ?_
  refine G_aload_n rfl 0 rfl K dL_1508 ?_
  refine G_iload 4 rfl K dL_1509 ?_
  refine G_iconst (v := 5) rfl K dL_1511 ?_
  refine G_iadd K dL_1512 ?_
  obtain ⟨hin, h⟩ := wpO_g h
  refine G_sld K hX hbl hbA dL_1513 hin ?_
  refine G_aload_n rfl 3 rfl K dL_1514 ?_
  obtain ⟨r1, e1, h⟩ := wpO_bind h
  refine G_callH [.ref (g.2.1 0), .int (xs (x4 + 1).toNatClampNeg), .int (xs (x4 + 2).toNatClampNeg), .int (xs (x4 + 3).toNatClampNeg), .int (xs (x4 + 4).toNatClampNeg), .int (xs (x4 + 5).toNatClampNeg), .ref (g.2.1 121)] [] K dL_1515 wv_1275 yd_L_drawn (by decide) ⟨by show C + 0 + 7 ≤ 601024; omega, by show S + 0 + 42 ≤ 7293034; omega⟩ rfl rfl (Nat.le_of_ble_eq_true rfl) (K_LAW_drawn l g htr (xs (x4 + 1).toNatClampNeg) (xs (x4 + 2).toNatClampNeg) (xs (x4 + 3).toNatClampNeg) (xs (x4 + 4).toNatClampNeg) (xs (x4 + 5).toNatClampNeg) M _ _ e1) ?_
  refine G_istore K dL_1518 (Nat.le_of_ble_eq_true rfl) rfl ?_
  refine G_aload_n rfl 3 rfl K dL_1520 ?_
  refine G_aload_n rfl 1 rfl K dL_1521 ?_
  refine G_iload 5 rfl K dL_1522 ?_
  refine G_iconst (v := 1) rfl K dL_1524 ?_
  refine G_iadd K dL_1525 ?_
  obtain ⟨hin, h⟩ := wpO_g h
  refine G_sld K hX hbl hbA dL_1526 hin ?_
  refine G_aload_n rfl 1 rfl K dL_1527 ?_
  refine G_iload 5 rfl K dL_1528 ?_
  refine G_iconst (v := 2) rfl K dL_1530 ?_
  refine G_iadd K dL_1531 ?_
  obtain ⟨hin, h⟩ := wpO_g h
  refine G_sld K hX hbl hbA dL_1532 hin ?_
  refine G_aload_n rfl 1 rfl K dL_1533 ?_
  refine G_iload 5 rfl K dL_1534 ?_
  refine G_iconst (v := 3) rfl K dL_1536 ?_
  refine G_iadd K dL_1537 ?_
  obtain ⟨hin, h⟩ := wpO_g h
  refine G_sld K hX hbl hbA dL_1538 hin ?_
  refine G_aload_n rfl 1 rfl K dL_1539 ?_
  refine G_iload 5 rfl K dL_1540 ?_
  refine G_iconst (v := 4) rfl K dL_1542 ?_
  refine G_iadd K dL_1543 ?_
  obtain ⟨hin, h⟩ := wpO_g h
  refine G_sld K hX hbl hbA dL_1544 hin ?_
  refine G_aload_n rfl 1 rfl K dL_1545 ?_
  refine G_iload 5 rfl K dL_1546 ?_
  refine G_iconst (v := 5) rfl K dL_1548 ?_
  refine G_iadd K dL_1549 ?_
  obtain ⟨hin, h⟩ := wpO_g h
  refine G_sld K hX hbl hbA dL_1550 hin ?_
  obtain ⟨r2, e2, h⟩ := wpO_bind h
  refine G_callVi (ci := 12) [.int (xs (x4 + 1).toNatClampNeg), .int (xs (x4 + 2).toNatClampNeg), .int (xs (x4 + 3).toNatClampNeg), .int (xs (x4 + 4).toNatClampNeg), .int (xs (x4 + 5).toNatClampNeg)] [] K dL_1551 wv_1942 yd_X12_drawn (Nat.le_of_ble_eq_true rfl) (sh_94 _ _) rfl (by decide) ⟨by show C + 7 + 0 ≤ 601024; omega, by show S + 42 + 0 ≤ 7293034; omega⟩ rfl rfl (Nat.le_of_ble_eq_true rfl) (K_MO_drawn l g htr (xs (x4 + 1).toNatClampNeg) (xs (x4 + 2).toNatClampNeg) (xs (x4 + 3).toNatClampNeg) (xs (x4 + 4).toNatClampNeg) (xs (x4 + 5).toNatClampNeg) r1.2 _ _ e2) ?_
  refine G_istore K dL_1554 (Nat.le_of_ble_eq_true rfl) rfl ?_
  refine G_goto (tgt := 1998) K dL_1556 (by decide) ?_
  exact G_wide (k := C + 8) (n := S + 48) (by show C + 7 ≤ C + 8; omega) (by show S + 42 ≤ S + 48; omega) (G_lv (lv' := [(0, .ref b), (1, .ref (g.2.1 0)), (2, .ref (g.2.1 94)), (3, .ref (g.2.1 121)), (4, .int x4)]) [2, 3, 4, 5, 6] rfl (hnext r2.2 (wpO_some h)))
def F_LAWc_27 (xs : Nat → Int32) (L : Nat) (x4 : Int32) (M : Mem) : Option Mem :=
  if inb (x4 + 1) L then if inb (x4 + 2) L then (F_LAW_field (xs (x4 + 1).toNatClampNeg) (xs (x4 + 2).toNatClampNeg) M).bind fun r1 => if inb (x4 + 1) L then if inb (x4 + 2) L then (F_MO_field (xs (x4 + 1).toNatClampNeg) (xs (x4 + 2).toNatClampNeg) r1.2).bind fun r2 => some r2 else none else none else none else none
set_option maxRecDepth 100000 in
set_option maxHeartbeats 8000000 in
theorem K_LAWc_27 {p : Program} {l : Launch} {e : Env} {s : State} {m : MethodId} {args : Array Value} {below : List Frame} {meth : Method} {c : Code} {g : GB} {Q : State → Prop} {b L : Nat} {xs : Nat → Int32} (K : KF p l s m args meth c g code 8 "KeptWellLaw") (htr : l.stackTraces = false) (hX : va_X b L xs s s.heap) (hbl : b < s.heap.size) (hbA : ¬ AS g s.heap.size b) (C S : Nat) (hC : C + 8 ≤ 601024) (hS : S + 48 ≤ 7293034) (x4 : Int32) (M : Mem) (PHI : Mem → Prop) (hnext : ∀ M, PHI M → GG p l e room_1 s m args below meth c g 8 Q (C + 8) (S + 48) 1998 [(0, .ref b), (1, .ref (g.2.1 0)), (2, .ref (g.2.1 94)), (3, .ref (g.2.1 121)), (4, .int x4)] [] M) (h : wpO (F_LAWc_27 xs L x4 M) PHI) : GG p l e room_1 s m args below meth c g 8 Q C S 1559 [(0, .ref b), (1, .ref (g.2.1 0)), (2, .ref (g.2.1 94)), (3, .ref (g.2.1 121)), (4, .int x4)] [] M := by
  unfold F_LAWc_27 at h
  refine G_aload_n rfl 1 rfl K dL_1559 ?_
  refine G_aload_n rfl 0 rfl K dL_1560 ?_
  refine G_iload 4 rfl K dL_1561 ?_
  refine G_iconst (v := 1) rfl K dL_1563 ?_
  refine G_iadd K dL_1564 ?_
  obtain ⟨hin, h⟩ := wpO_g h
  refine G_sld K hX hbl hbA dL_1565 hin ?_
  refine G_aload_n rfl 0 rfl K dL_1566 ?_
  refine G_iload 4 rfl K dL_1567 ?_
  refine G_iconst (v := 2) rfl K dL_1569 ?_
  refine G_iadd K dL_1570 ?_
  obtain ⟨hin, h⟩ := wpO_g h
  refine G_sld K hX hbl hbA dL_1571 hin ?_
  obtain ⟨r1, e1, h⟩ := wpO_bind h
  refine G_callH [.ref (g.2.1 0), .int (xs (x4 + 1).toNatClampNeg), .int (xs (x4 + 2).toNatClampNeg)] [] K dL_1572 wv_1291 yd_L_field (by decide) ⟨by show C + 0 + 2 ≤ 601024; omega, by show S + 0 + 12 ≤ 7293034; omega⟩ rfl rfl (Nat.le_of_ble_eq_true rfl) (K_LAW_field l g htr (xs (x4 + 1).toNatClampNeg) (xs (x4 + 2).toNatClampNeg) M _ _ e1) ?_
  refine G_istore K dL_1575 (Nat.le_of_ble_eq_true rfl) rfl ?_
  refine G_aload_n rfl 3 rfl K dL_1577 ?_
  refine G_aload_n rfl 1 rfl K dL_1578 ?_
  refine G_iload 5 rfl K dL_1579 ?_
  refine G_iconst (v := 1) rfl K dL_1581 ?_
  refine G_iadd K dL_1582 ?_
  obtain ⟨hin, h⟩ := wpO_g h
  refine G_sld K hX hbl hbA dL_1583 hin ?_
  refine G_aload_n rfl 1 rfl K dL_1584 ?_
  refine G_iload 5 rfl K dL_1585 ?_
  refine G_iconst (v := 2) rfl K dL_1587 ?_
  refine G_iadd K dL_1588 ?_
  obtain ⟨hin, h⟩ := wpO_g h
  refine G_sld K hX hbl hbA dL_1589 hin ?_
  obtain ⟨r2, e2, h⟩ := wpO_bind h
  refine G_callVv (ci := 12) [.int (xs (x4 + 1).toNatClampNeg), .int (xs (x4 + 2).toNatClampNeg)] [] K dL_1590 wv_1951 yd_X12_field (Nat.le_of_ble_eq_true rfl) (sh_94 _ _) rfl (by decide) ⟨by show C + 2 + 0 ≤ 601024; omega, by show S + 12 + 0 ≤ 7293034; omega⟩ rfl rfl (Nat.le_of_ble_eq_true rfl) (K_MO_field l g htr (xs (x4 + 1).toNatClampNeg) (xs (x4 + 2).toNatClampNeg) r1.2 _ e2) ?_
  refine G_goto (tgt := 1998) K dL_1593 (by decide) ?_
  exact G_wide (k := C + 8) (n := S + 48) (by show C + 2 ≤ C + 8; omega) (by show S + 12 ≤ S + 48; omega) (G_lv (lv' := [(0, .ref b), (1, .ref (g.2.1 0)), (2, .ref (g.2.1 94)), (3, .ref (g.2.1 121)), (4, .int x4)]) [1, 2, 3, 4, 5] rfl (hnext r2 (wpO_some h)))
def F_LAWc_28 (xs : Nat → Int32) (L : Nat) (x4 : Int32) (M : Mem) : Option Mem :=
  if inb (x4 + 1) L then (F_LAW_rounds (xs (x4 + 1).toNatClampNeg) M).bind fun r1 => if inb (x4 + 1) L then (F_MO_rounds (xs (x4 + 1).toNatClampNeg) r1.2).bind fun r2 => some r2 else none else none
set_option maxRecDepth 100000 in
set_option maxHeartbeats 8000000 in
theorem K_LAWc_28 {p : Program} {l : Launch} {e : Env} {s : State} {m : MethodId} {args : Array Value} {below : List Frame} {meth : Method} {c : Code} {g : GB} {Q : State → Prop} {b L : Nat} {xs : Nat → Int32} (K : KF p l s m args meth c g code 8 "KeptWellLaw") (htr : l.stackTraces = false) (hX : va_X b L xs s s.heap) (hbl : b < s.heap.size) (hbA : ¬ AS g s.heap.size b) (C S : Nat) (hC : C + 8 ≤ 601024) (hS : S + 48 ≤ 7293034) (x4 : Int32) (M : Mem) (PHI : Mem → Prop) (hnext : ∀ M, PHI M → GG p l e room_1 s m args below meth c g 8 Q (C + 8) (S + 48) 1998 [(0, .ref b), (1, .ref (g.2.1 0)), (2, .ref (g.2.1 94)), (3, .ref (g.2.1 121)), (4, .int x4)] [] M) (h : wpO (F_LAWc_28 xs L x4 M) PHI) : GG p l e room_1 s m args below meth c g 8 Q C S 1596 [(0, .ref b), (1, .ref (g.2.1 0)), (2, .ref (g.2.1 94)), (3, .ref (g.2.1 121)), (4, .int x4)] [] M := by
  unfold F_LAWc_28 at h
  refine G_aload_n rfl 1 rfl K dL_1596 ?_
  refine G_aload_n rfl 0 rfl K dL_1597 ?_
  refine G_iload 4 rfl K dL_1598 ?_
  refine G_iconst (v := 1) rfl K dL_1600 ?_
  refine G_iadd K dL_1601 ?_
  obtain ⟨hin, h⟩ := wpO_g h
  refine G_sld K hX hbl hbA dL_1602 hin ?_
  obtain ⟨r1, e1, h⟩ := wpO_bind h
  refine G_callH [.ref (g.2.1 0), .int (xs (x4 + 1).toNatClampNeg)] [] K dL_1603 wv_1299 yd_L_rounds (by decide) ⟨by show C + 0 + 1 ≤ 601024; omega, by show S + 0 + 6 ≤ 7293034; omega⟩ rfl rfl (Nat.le_of_ble_eq_true rfl) (K_LAW_rounds l g htr (xs (x4 + 1).toNatClampNeg) M _ _ e1) ?_
  refine G_istore K dL_1606 (Nat.le_of_ble_eq_true rfl) rfl ?_
  refine G_aload_n rfl 3 rfl K dL_1608 ?_
  refine G_aload_n rfl 1 rfl K dL_1609 ?_
  refine G_iload 5 rfl K dL_1610 ?_
  refine G_iconst (v := 1) rfl K dL_1612 ?_
  refine G_iadd K dL_1613 ?_
  obtain ⟨hin, h⟩ := wpO_g h
  refine G_sld K hX hbl hbA dL_1614 hin ?_
  obtain ⟨r2, e2, h⟩ := wpO_bind h
  refine G_callVv (ci := 12) [.int (xs (x4 + 1).toNatClampNeg)] [] K dL_1615 wv_1955 yd_X12_rounds (Nat.le_of_ble_eq_true rfl) (sh_94 _ _) rfl (by decide) ⟨by show C + 1 + 0 ≤ 601024; omega, by show S + 6 + 0 ≤ 7293034; omega⟩ rfl rfl (Nat.le_of_ble_eq_true rfl) (K_MO_rounds l g htr (xs (x4 + 1).toNatClampNeg) r1.2 _ e2) ?_
  refine G_goto (tgt := 1998) K dL_1618 (by decide) ?_
  exact G_wide (k := C + 8) (n := S + 48) (by show C + 1 ≤ C + 8; omega) (by show S + 6 ≤ S + 48; omega) (G_lv (lv' := [(0, .ref b), (1, .ref (g.2.1 0)), (2, .ref (g.2.1 94)), (3, .ref (g.2.1 121)), (4, .int x4)]) [1, 2, 3, 4, 5] rfl (hnext r2 (wpO_some h)))
def F_LAWc_29 (xs : Nat → Int32) (L : Nat) (x4 : Int32) (M : Mem) : Option Mem :=
  if inb (x4 + 1) L then if inb (x4 + 2) L then (F_LAW_meet (xs (x4 + 1).toNatClampNeg) (xs (x4 + 2).toNatClampNeg) M).bind fun r1 => if inb (x4 + 1) L then if inb (x4 + 2) L then (F_MO_meet (xs (x4 + 1).toNatClampNeg) (xs (x4 + 2).toNatClampNeg) r1.2).bind fun r2 => some r2.2 else none else none else none else none
set_option maxRecDepth 100000 in
set_option maxHeartbeats 8000000 in
theorem K_LAWc_29 {p : Program} {l : Launch} {e : Env} {s : State} {m : MethodId} {args : Array Value} {below : List Frame} {meth : Method} {c : Code} {g : GB} {Q : State → Prop} {b L : Nat} {xs : Nat → Int32} (K : KF p l s m args meth c g code 8 "KeptWellLaw") (htr : l.stackTraces = false) (hX : va_X b L xs s s.heap) (hbl : b < s.heap.size) (hbA : ¬ AS g s.heap.size b) (C S : Nat) (hC : C + 8 ≤ 601024) (hS : S + 48 ≤ 7293034) (x4 : Int32) (M : Mem) (PHI : Mem → Prop) (hnext : ∀ M, PHI M → GG p l e room_1 s m args below meth c g 8 Q (C + 8) (S + 48) 1998 [(0, .ref b), (1, .ref (g.2.1 0)), (2, .ref (g.2.1 94)), (3, .ref (g.2.1 121)), (4, .int x4)] [] M) (h : wpO (F_LAWc_29 xs L x4 M) PHI) : GG p l e room_1 s m args below meth c g 8 Q C S 1621 [(0, .ref b), (1, .ref (g.2.1 0)), (2, .ref (g.2.1 94)), (3, .ref (g.2.1 121)), (4, .int x4)] [] M := by
  unfold F_LAWc_29 at h
  refine G_aload_n rfl 1 rfl K dL_1621 ?_
  refine G_aload_n rfl 0 rfl K dL_1622 ?_
  refine G_iload 4 rfl K dL_1623 ?_
  refine G_iconst (v := 1) rfl K dL_1625 ?_
  refine G_iadd K dL_1626 ?_
  obtain ⟨hin, h⟩ := wpO_g h
  refine G_sld K hX hbl hbA dL_1627 hin ?_
  refine G_aload_n rfl 0 rfl K dL_1628 ?_
  refine G_iload 4 rfl K dL_1629 ?_
  refine G_iconst (v := 2) rfl K dL_1631 ?_
  refine G_iadd K dL_1632 ?_
  obtain ⟨hin, h⟩ := wpO_g h
  refine G_sld K hX hbl hbA dL_1633 hin ?_
  refine G_aload_n rfl 3 rfl K dL_1634 ?_
  obtain ⟨r1, e1, h⟩ := wpO_bind h
  refine G_callH [.ref (g.2.1 0), .int (xs (x4 + 1).toNatClampNeg), .int (xs (x4 + 2).toNatClampNeg), .ref (g.2.1 121)] [] K dL_1635 wv_1306 yd_L_meet (by decide) ⟨by show C + 0 + 4 ≤ 601024; omega, by show S + 0 + 24 ≤ 7293034; omega⟩ rfl rfl (Nat.le_of_ble_eq_true rfl) (K_LAW_meet l g htr (xs (x4 + 1).toNatClampNeg) (xs (x4 + 2).toNatClampNeg) M _ _ e1) ?_
  refine G_istore K dL_1638 (Nat.le_of_ble_eq_true rfl) rfl ?_
  refine G_aload_n rfl 3 rfl K dL_1640 ?_
  refine G_aload_n rfl 1 rfl K dL_1641 ?_
  refine G_iload 5 rfl K dL_1642 ?_
  refine G_iconst (v := 1) rfl K dL_1644 ?_
  refine G_iadd K dL_1645 ?_
  obtain ⟨hin, h⟩ := wpO_g h
  refine G_sld K hX hbl hbA dL_1646 hin ?_
  refine G_aload_n rfl 1 rfl K dL_1647 ?_
  refine G_iload 5 rfl K dL_1648 ?_
  refine G_iconst (v := 2) rfl K dL_1650 ?_
  refine G_iadd K dL_1651 ?_
  obtain ⟨hin, h⟩ := wpO_g h
  refine G_sld K hX hbl hbA dL_1652 hin ?_
  obtain ⟨r2, e2, h⟩ := wpO_bind h
  refine G_callVi (ci := 12) [.int (xs (x4 + 1).toNatClampNeg), .int (xs (x4 + 2).toNatClampNeg)] [] K dL_1653 wv_1959 yd_X12_meet (Nat.le_of_ble_eq_true rfl) (sh_94 _ _) rfl (by decide) ⟨by show C + 4 + 0 ≤ 601024; omega, by show S + 24 + 0 ≤ 7293034; omega⟩ rfl rfl (Nat.le_of_ble_eq_true rfl) (K_MO_meet l g htr (xs (x4 + 1).toNatClampNeg) (xs (x4 + 2).toNatClampNeg) r1.2 _ _ e2) ?_
  refine G_istore K dL_1656 (Nat.le_of_ble_eq_true rfl) rfl ?_
  refine G_goto (tgt := 1998) K dL_1658 (by decide) ?_
  exact G_wide (k := C + 8) (n := S + 48) (by show C + 4 ≤ C + 8; omega) (by show S + 24 ≤ S + 48; omega) (G_lv (lv' := [(0, .ref b), (1, .ref (g.2.1 0)), (2, .ref (g.2.1 94)), (3, .ref (g.2.1 121)), (4, .int x4)]) [2, 3, 4, 5, 6] rfl (hnext r2.2 (wpO_some h)))
def F_LAWc_30 (xs : Nat → Int32) (L : Nat) (x4 : Int32) (M : Mem) : Option Mem :=
  if inb (x4 + 1) L then (F_LAW_grow (xs (x4 + 1).toNatClampNeg) M).bind fun r1 => if inb (x4 + 1) L then (F_MO_grow (xs (x4 + 1).toNatClampNeg) r1.2).bind fun r2 => some r2.2 else none else none
set_option maxRecDepth 100000 in
set_option maxHeartbeats 8000000 in
theorem K_LAWc_30 {p : Program} {l : Launch} {e : Env} {s : State} {m : MethodId} {args : Array Value} {below : List Frame} {meth : Method} {c : Code} {g : GB} {Q : State → Prop} {b L : Nat} {xs : Nat → Int32} (K : KF p l s m args meth c g code 8 "KeptWellLaw") (htr : l.stackTraces = false) (hX : va_X b L xs s s.heap) (hbl : b < s.heap.size) (hbA : ¬ AS g s.heap.size b) (C S : Nat) (hC : C + 8 ≤ 601024) (hS : S + 48 ≤ 7293034) (x4 : Int32) (M : Mem) (PHI : Mem → Prop) (hnext : ∀ M, PHI M → GG p l e room_1 s m args below meth c g 8 Q (C + 8) (S + 48) 1998 [(0, .ref b), (1, .ref (g.2.1 0)), (2, .ref (g.2.1 94)), (3, .ref (g.2.1 121)), (4, .int x4)] [] M) (h : wpO (F_LAWc_30 xs L x4 M) PHI) : GG p l e room_1 s m args below meth c g 8 Q C S 1661 [(0, .ref b), (1, .ref (g.2.1 0)), (2, .ref (g.2.1 94)), (3, .ref (g.2.1 121)), (4, .int x4)] [] M := by
  unfold F_LAWc_30 at h
  refine G_aload_n rfl 1 rfl K dL_1661 ?_
  refine G_aload_n rfl 0 rfl K dL_1662 ?_
  refine G_iload 4 rfl K dL_1663 ?_
  refine G_iconst (v := 1) rfl K dL_1665 ?_
  refine G_iadd K dL_1666 ?_
  obtain ⟨hin, h⟩ := wpO_g h
  refine G_sld K hX hbl hbA dL_1667 hin ?_
  refine G_aload_n rfl 3 rfl K dL_1668 ?_
  obtain ⟨r1, e1, h⟩ := wpO_bind h
  refine G_callH [.ref (g.2.1 0), .int (xs (x4 + 1).toNatClampNeg), .ref (g.2.1 121)] [] K dL_1669 wv_1317 yd_L_grow (by decide) ⟨by show C + 0 + 1 ≤ 601024; omega, by show S + 0 + 6 ≤ 7293034; omega⟩ rfl rfl (Nat.le_of_ble_eq_true rfl) (K_LAW_grow l g htr (xs (x4 + 1).toNatClampNeg) M _ _ e1) ?_
  refine G_istore K dL_1672 (Nat.le_of_ble_eq_true rfl) rfl ?_
  refine G_aload_n rfl 3 rfl K dL_1674 ?_
  refine G_aload_n rfl 1 rfl K dL_1675 ?_
  refine G_iload 5 rfl K dL_1676 ?_
  refine G_iconst (v := 1) rfl K dL_1678 ?_
  refine G_iadd K dL_1679 ?_
  obtain ⟨hin, h⟩ := wpO_g h
  refine G_sld K hX hbl hbA dL_1680 hin ?_
  obtain ⟨r2, e2, h⟩ := wpO_bind h
  refine G_callVi (ci := 12) [.int (xs (x4 + 1).toNatClampNeg)] [] K dL_1681 wv_1967 yd_X12_grow (Nat.le_of_ble_eq_true rfl) (sh_94 _ _) rfl (by decide) ⟨by show C + 1 + 0 ≤ 601024; omega, by show S + 6 + 0 ≤ 7293034; omega⟩ rfl rfl (Nat.le_of_ble_eq_true rfl) (K_MO_grow l g htr (xs (x4 + 1).toNatClampNeg) r1.2 _ _ e2) ?_
  refine G_istore K dL_1684 (Nat.le_of_ble_eq_true rfl) rfl ?_
  refine G_goto (tgt := 1998) K dL_1686 (by decide) ?_
  exact G_wide (k := C + 8) (n := S + 48) (by show C + 1 ≤ C + 8; omega) (by show S + 6 ≤ S + 48; omega) (G_lv (lv' := [(0, .ref b), (1, .ref (g.2.1 0)), (2, .ref (g.2.1 94)), (3, .ref (g.2.1 121)), (4, .int x4)]) [2, 3, 4, 5, 6] rfl (hnext r2.2 (wpO_some h)))
def F_LAWc_31 (xs : Nat → Int32) (L : Nat) (x4 : Int32) (M : Mem) : Option Mem :=
  if inb (x4 + 1) L then (F_LAW_beings (xs (x4 + 1).toNatClampNeg) M).bind fun r1 => if inb (x4 + 1) L then (F_MO_beings (xs (x4 + 1).toNatClampNeg) r1.2).bind fun r2 => some r2.2 else none else none
set_option maxRecDepth 100000 in
set_option maxHeartbeats 8000000 in
theorem K_LAWc_31 {p : Program} {l : Launch} {e : Env} {s : State} {m : MethodId} {args : Array Value} {below : List Frame} {meth : Method} {c : Code} {g : GB} {Q : State → Prop} {b L : Nat} {xs : Nat → Int32} (K : KF p l s m args meth c g code 8 "KeptWellLaw") (htr : l.stackTraces = false) (hX : va_X b L xs s s.heap) (hbl : b < s.heap.size) (hbA : ¬ AS g s.heap.size b) (C S : Nat) (hC : C + 8 ≤ 601024) (hS : S + 48 ≤ 7293034) (x4 : Int32) (M : Mem) (PHI : Mem → Prop) (hnext : ∀ M, PHI M → GG p l e room_1 s m args below meth c g 8 Q (C + 8) (S + 48) 1998 [(0, .ref b), (1, .ref (g.2.1 0)), (2, .ref (g.2.1 94)), (3, .ref (g.2.1 121)), (4, .int x4)] [] M) (h : wpO (F_LAWc_31 xs L x4 M) PHI) : GG p l e room_1 s m args below meth c g 8 Q C S 1689 [(0, .ref b), (1, .ref (g.2.1 0)), (2, .ref (g.2.1 94)), (3, .ref (g.2.1 121)), (4, .int x4)] [] M := by
  unfold F_LAWc_31 at h
  refine G_aload_n rfl 1 rfl K dL_1689 ?_
  refine G_aload_n rfl 0 rfl K dL_1690 ?_
  refine G_iload 4 rfl K dL_1691 ?_
  refine G_iconst (v := 1) rfl K dL_1693 ?_
  refine G_iadd K dL_1694 ?_
  obtain ⟨hin, h⟩ := wpO_g h
  refine G_sld K hX hbl hbA dL_1695 hin ?_
  refine G_aload_n rfl 3 rfl K dL_1696 ?_
  obtain ⟨r1, e1, h⟩ := wpO_bind h
  refine G_callH [.ref (g.2.1 0), .int (xs (x4 + 1).toNatClampNeg), .ref (g.2.1 121)] [] K dL_1697 wv_1367 yd_L_beings (by decide) ⟨by show C + 0 + 1 ≤ 601024; omega, by show S + 0 + 6 ≤ 7293034; omega⟩ rfl rfl (Nat.le_of_ble_eq_true rfl) (K_LAW_beings l g htr (xs (x4 + 1).toNatClampNeg) M _ _ e1) ?_
  refine G_istore K dL_1700 (Nat.le_of_ble_eq_true rfl) rfl ?_
  refine G_aload_n rfl 3 rfl K dL_1702 ?_
  refine G_aload_n rfl 1 rfl K dL_1703 ?_
  refine G_iload 5 rfl K dL_1704 ?_
  refine G_iconst (v := 1) rfl K dL_1706 ?_
  refine G_iadd K dL_1707 ?_
  obtain ⟨hin, h⟩ := wpO_g h
  refine G_sld K hX hbl hbA dL_1708 hin ?_
  obtain ⟨r2, e2, h⟩ := wpO_bind h
  refine G_callVi (ci := 12) [.int (xs (x4 + 1).toNatClampNeg)] [] K dL_1709 wv_1975 yd_X12_beings (Nat.le_of_ble_eq_true rfl) (sh_94 _ _) rfl (by decide) ⟨by show C + 1 + 0 ≤ 601024; omega, by show S + 6 + 0 ≤ 7293034; omega⟩ rfl rfl (Nat.le_of_ble_eq_true rfl) (K_MO_beings l g htr (xs (x4 + 1).toNatClampNeg) r1.2 _ _ e2) ?_
  refine G_istore K dL_1712 (Nat.le_of_ble_eq_true rfl) rfl ?_
  refine G_goto (tgt := 1998) K dL_1714 (by decide) ?_
  exact G_wide (k := C + 8) (n := S + 48) (by show C + 1 ≤ C + 8; omega) (by show S + 6 ≤ S + 48; omega) (G_lv (lv' := [(0, .ref b), (1, .ref (g.2.1 0)), (2, .ref (g.2.1 94)), (3, .ref (g.2.1 121)), (4, .int x4)]) [2, 3, 4, 5, 6] rfl (hnext r2.2 (wpO_some h)))
def F_LAWc_32 (xs : Nat → Int32) (L : Nat) (x4 : Int32) (M : Mem) : Option Mem :=
  if inb (x4 + 1) L then (F_LAW_stays (xs (x4 + 1).toNatClampNeg) M).bind fun r1 => if inb (x4 + 1) L then (F_MO_stays (xs (x4 + 1).toNatClampNeg) r1.2).bind fun r2 => some r2.2 else none else none
set_option maxRecDepth 100000 in
set_option maxHeartbeats 8000000 in
theorem K_LAWc_32 {p : Program} {l : Launch} {e : Env} {s : State} {m : MethodId} {args : Array Value} {below : List Frame} {meth : Method} {c : Code} {g : GB} {Q : State → Prop} {b L : Nat} {xs : Nat → Int32} (K : KF p l s m args meth c g code 8 "KeptWellLaw") (htr : l.stackTraces = false) (hX : va_X b L xs s s.heap) (hbl : b < s.heap.size) (hbA : ¬ AS g s.heap.size b) (C S : Nat) (hC : C + 8 ≤ 601024) (hS : S + 48 ≤ 7293034) (x4 : Int32) (M : Mem) (PHI : Mem → Prop) (hnext : ∀ M, PHI M → GG p l e room_1 s m args below meth c g 8 Q (C + 8) (S + 48) 1998 [(0, .ref b), (1, .ref (g.2.1 0)), (2, .ref (g.2.1 94)), (3, .ref (g.2.1 121)), (4, .int x4)] [] M) (h : wpO (F_LAWc_32 xs L x4 M) PHI) : GG p l e room_1 s m args below meth c g 8 Q C S 1717 [(0, .ref b), (1, .ref (g.2.1 0)), (2, .ref (g.2.1 94)), (3, .ref (g.2.1 121)), (4, .int x4)] [] M := by
  unfold F_LAWc_32 at h
  refine G_aload_n rfl 1 rfl K dL_1717 ?_
  refine G_aload_n rfl 0 rfl K dL_1718 ?_
  refine G_iload 4 rfl K dL_1719 ?_
  refine G_iconst (v := 1) rfl K dL_1721 ?_
  refine G_iadd K dL_1722 ?_
  obtain ⟨hin, h⟩ := wpO_g h
  refine G_sld K hX hbl hbA dL_1723 hin ?_
  refine G_aload_n rfl 3 rfl K dL_1724 ?_
  obtain ⟨r1, e1, h⟩ := wpO_bind h
  refine G_callH [.ref (g.2.1 0), .int (xs (x4 + 1).toNatClampNeg), .ref (g.2.1 121)] [] K dL_1725 wv_1374 yd_L_stays (by decide) ⟨by show C + 0 + 2 ≤ 601024; omega, by show S + 0 + 12 ≤ 7293034; omega⟩ rfl rfl (Nat.le_of_ble_eq_true rfl) (K_LAW_stays l g htr (xs (x4 + 1).toNatClampNeg) M _ _ e1) ?_
  refine G_istore K dL_1728 (Nat.le_of_ble_eq_true rfl) rfl ?_
  refine G_aload_n rfl 3 rfl K dL_1730 ?_
  refine G_aload_n rfl 1 rfl K dL_1731 ?_
  refine G_iload 5 rfl K dL_1732 ?_
  refine G_iconst (v := 1) rfl K dL_1734 ?_
  refine G_iadd K dL_1735 ?_
  obtain ⟨hin, h⟩ := wpO_g h
  refine G_sld K hX hbl hbA dL_1736 hin ?_
  obtain ⟨r2, e2, h⟩ := wpO_bind h
  refine G_callVi (ci := 12) [.int (xs (x4 + 1).toNatClampNeg)] [] K dL_1737 wv_1979 yd_X12_stays (Nat.le_of_ble_eq_true rfl) (sh_94 _ _) rfl (by decide) ⟨by show C + 2 + 0 ≤ 601024; omega, by show S + 12 + 0 ≤ 7293034; omega⟩ rfl rfl (Nat.le_of_ble_eq_true rfl) (K_MO_stays l g htr (xs (x4 + 1).toNatClampNeg) r1.2 _ _ e2) ?_
  refine G_istore K dL_1740 (Nat.le_of_ble_eq_true rfl) rfl ?_
  refine G_goto (tgt := 1998) K dL_1742 (by decide) ?_
  exact G_wide (k := C + 8) (n := S + 48) (by show C + 2 ≤ C + 8; omega) (by show S + 12 ≤ S + 48; omega) (G_lv (lv' := [(0, .ref b), (1, .ref (g.2.1 0)), (2, .ref (g.2.1 94)), (3, .ref (g.2.1 121)), (4, .int x4)]) [2, 3, 4, 5, 6] rfl (hnext r2.2 (wpO_some h)))
def F_LAWc_33 (xs : Nat → Int32) (L : Nat) (x4 : Int32) (M : Mem) : Option Mem :=
  if inb (x4 + 1) L then if inb (x4 + 2) L then (F_LAW_all (xs (x4 + 1).toNatClampNeg) (xs (x4 + 2).toNatClampNeg) M).bind fun r1 => if inb (x4 + 1) L then if inb (x4 + 2) L then (F_MO_all (xs (x4 + 1).toNatClampNeg) (xs (x4 + 2).toNatClampNeg) r1.2).bind fun r2 => some r2.2 else none else none else none else none
set_option maxRecDepth 100000 in
set_option maxHeartbeats 8000000 in
theorem K_LAWc_33 {p : Program} {l : Launch} {e : Env} {s : State} {m : MethodId} {args : Array Value} {below : List Frame} {meth : Method} {c : Code} {g : GB} {Q : State → Prop} {b L : Nat} {xs : Nat → Int32} (K : KF p l s m args meth c g code 8 "KeptWellLaw") (htr : l.stackTraces = false) (hX : va_X b L xs s s.heap) (hbl : b < s.heap.size) (hbA : ¬ AS g s.heap.size b) (C S : Nat) (hC : C + 8 ≤ 601024) (hS : S + 48 ≤ 7293034) (x4 : Int32) (M : Mem) (PHI : Mem → Prop) (hnext : ∀ M, PHI M → GG p l e room_1 s m args below meth c g 8 Q (C + 8) (S + 48) 1998 [(0, .ref b), (1, .ref (g.2.1 0)), (2, .ref (g.2.1 94)), (3, .ref (g.2.1 121)), (4, .int x4)] [] M) (h : wpO (F_LAWc_33 xs L x4 M) PHI) : GG p l e room_1 s m args below meth c g 8 Q C S 1745 [(0, .ref b), (1, .ref (g.2.1 0)), (2, .ref (g.2.1 94)), (3, .ref (g.2.1 121)), (4, .int x4)] [] M := by
  unfold F_LAWc_33 at h
  refine G_aload_n rfl 1 rfl K dL_1745 ?_
  refine G_aload_n rfl 0 rfl K dL_1746 ?_
  refine G_iload 4 rfl K dL_1747 ?_
  refine G_iconst (v := 1) rfl K dL_1749 ?_
  refine G_iadd K dL_1750 ?_
  obtain ⟨hin, h⟩ := wpO_g h
  refine G_sld K hX hbl hbA dL_1751 hin ?_
  refine G_aload_n rfl 0 rfl K dL_1752 ?_
  refine G_iload 4 rfl K dL_1753 ?_
  refine G_iconst (v := 2) rfl K dL_1755 ?_
  refine G_iadd K dL_1756 ?_
  obtain ⟨hin, h⟩ := wpO_g h
  refine G_sld K hX hbl hbA dL_1757 hin ?_
  refine G_aload_n rfl 3 rfl K dL_1758 ?_
  obtain ⟨r1, e1, h⟩ := wpO_bind h
  refine G_callH [.ref (g.2.1 0), .int (xs (x4 + 1).toNatClampNeg), .int (xs (x4 + 2).toNatClampNeg), .ref (g.2.1 121)] [] K dL_1759 wv_1389 yd_L_all (by decide) ⟨by show C + 0 + 4 ≤ 601024; omega, by show S + 0 + 24 ≤ 7293034; omega⟩ rfl rfl (Nat.le_of_ble_eq_true rfl) (K_LAW_all l g htr (xs (x4 + 1).toNatClampNeg) (xs (x4 + 2).toNatClampNeg) M _ _ e1) ?_
  refine G_istore K dL_1762 (Nat.le_of_ble_eq_true rfl) rfl ?_
  refine G_aload_n rfl 3 rfl K dL_1764 ?_
  refine G_aload_n rfl 1 rfl K dL_1765 ?_
  refine G_iload 5 rfl K dL_1766 ?_
  refine G_iconst (v := 1) rfl K dL_1768 ?_
  refine G_iadd K dL_1769 ?_
  obtain ⟨hin, h⟩ := wpO_g h
  refine G_sld K hX hbl hbA dL_1770 hin ?_
  refine G_aload_n rfl 1 rfl K dL_1771 ?_
  refine G_iload 5 rfl K dL_1772 ?_
  refine G_iconst (v := 2) rfl K dL_1774 ?_
  refine G_iadd K dL_1775 ?_
  obtain ⟨hin, h⟩ := wpO_g h
  refine G_sld K hX hbl hbA dL_1776 hin ?_
  obtain ⟨r2, e2, h⟩ := wpO_bind h
  refine G_callVi (ci := 12) [.int (xs (x4 + 1).toNatClampNeg), .int (xs (x4 + 2).toNatClampNeg)] [] K dL_1777 wv_1983 yd_X12_all (Nat.le_of_ble_eq_true rfl) (sh_94 _ _) rfl (by decide) ⟨by show C + 4 + 0 ≤ 601024; omega, by show S + 24 + 0 ≤ 7293034; omega⟩ rfl rfl (Nat.le_of_ble_eq_true rfl) (K_MO_all l g htr (xs (x4 + 1).toNatClampNeg) (xs (x4 + 2).toNatClampNeg) r1.2 _ _ e2) ?_
  refine G_istore K dL_1780 (Nat.le_of_ble_eq_true rfl) rfl ?_
  refine G_goto (tgt := 1998) K dL_1782 (by decide) ?_
  exact G_wide (k := C + 8) (n := S + 48) (by show C + 4 ≤ C + 8; omega) (by show S + 24 ≤ S + 48; omega) (G_lv (lv' := [(0, .ref b), (1, .ref (g.2.1 0)), (2, .ref (g.2.1 94)), (3, .ref (g.2.1 121)), (4, .int x4)]) [2, 3, 4, 5, 6] rfl (hnext r2.2 (wpO_some h)))
def F_LAWc_34 (xs : Nat → Int32) (L : Nat) (x4 : Int32) (M : Mem) : Option Mem :=
  if inb (x4 + 1) L then if inb (x4 + 2) L then (F_LAW_begin (xs (x4 + 1).toNatClampNeg) (xs (x4 + 2).toNatClampNeg) M).bind fun r1 => if inb (x4 + 1) L then if inb (x4 + 2) L then (F_MO_begin (xs (x4 + 1).toNatClampNeg) (xs (x4 + 2).toNatClampNeg) r1.2).bind fun r2 => some r2.2 else none else none else none else none
set_option maxRecDepth 100000 in
set_option maxHeartbeats 8000000 in
theorem K_LAWc_34 {p : Program} {l : Launch} {e : Env} {s : State} {m : MethodId} {args : Array Value} {below : List Frame} {meth : Method} {c : Code} {g : GB} {Q : State → Prop} {b L : Nat} {xs : Nat → Int32} (K : KF p l s m args meth c g code 8 "KeptWellLaw") (htr : l.stackTraces = false) (hX : va_X b L xs s s.heap) (hbl : b < s.heap.size) (hbA : ¬ AS g s.heap.size b) (C S : Nat) (hC : C + 8 ≤ 601024) (hS : S + 48 ≤ 7293034) (x4 : Int32) (M : Mem) (PHI : Mem → Prop) (hnext : ∀ M, PHI M → GG p l e room_1 s m args below meth c g 8 Q (C + 8) (S + 48) 1998 [(0, .ref b), (1, .ref (g.2.1 0)), (2, .ref (g.2.1 94)), (3, .ref (g.2.1 121)), (4, .int x4)] [] M) (h : wpO (F_LAWc_34 xs L x4 M) PHI) : GG p l e room_1 s m args below meth c g 8 Q C S 1785 [(0, .ref b), (1, .ref (g.2.1 0)), (2, .ref (g.2.1 94)), (3, .ref (g.2.1 121)), (4, .int x4)] [] M := by
  unfold F_LAWc_34 at h
  refine G_aload_n rfl 1 rfl K dL_1785 ?_
  refine G_aload_n rfl 0 rfl K dL_1786 ?_
  refine G_iload 4 rfl K dL_1787 ?_
  refine G_iconst (v := 1) rfl K dL_1789 ?_
  refine G_iadd K dL_1790 ?_
  obtain ⟨hin, h⟩ := wpO_g h
  refine G_sld K hX hbl hbA dL_1791 hin ?_
  refine G_aload_n rfl 0 rfl K dL_1792 ?_
  refine G_iload 4 rfl K dL_1793 ?_
  refine G_iconst (v := 2) rfl K dL_1795 ?_
  refine G_iadd K dL_1796 ?_
  obtain ⟨hin, h⟩ := wpO_g h
  refine G_sld K hX hbl hbA dL_1797 hin ?_
  refine G_aload_n rfl 3 rfl K dL_1798 ?_
  obtain ⟨r1, e1, h⟩ := wpO_bind h
  refine G_callH [.ref (g.2.1 0), .int (xs (x4 + 1).toNatClampNeg), .int (xs (x4 + 2).toNatClampNeg), .ref (g.2.1 121)] [] K dL_1799 wv_1405 yd_L_begin (by decide) ⟨by show C + 0 + 4 ≤ 601024; omega, by show S + 0 + 24 ≤ 7293034; omega⟩ rfl rfl (Nat.le_of_ble_eq_true rfl) (K_LAW_begin l g htr (xs (x4 + 1).toNatClampNeg) (xs (x4 + 2).toNatClampNeg) M _ _ e1) ?_
  refine G_istore K dL_1802 (Nat.le_of_ble_eq_true rfl) rfl ?_
  refine G_aload_n rfl 3 rfl K dL_1804 ?_
  refine G_aload_n rfl 1 rfl K dL_1805 ?_
  refine G_iload 5 rfl K dL_1806 ?_
  refine G_iconst (v := 1) rfl K dL_1808 ?_
  refine G_iadd K dL_1809 ?_
  obtain ⟨hin, h⟩ := wpO_g h
  refine G_sld K hX hbl hbA dL_1810 hin ?_
  refine G_aload_n rfl 1 rfl K dL_1811 ?_
  refine G_iload 5 rfl K dL_1812 ?_
  refine G_iconst (v := 2) rfl K dL_1814 ?_
  refine G_iadd K dL_1815 ?_
  obtain ⟨hin, h⟩ := wpO_g h
  refine G_sld K hX hbl hbA dL_1816 hin ?_
  obtain ⟨r2, e2, h⟩ := wpO_bind h
  refine G_callVi (ci := 12) [.int (xs (x4 + 1).toNatClampNeg), .int (xs (x4 + 2).toNatClampNeg)] [] K dL_1817 wv_1991 yd_X12_begin (Nat.le_of_ble_eq_true rfl) (sh_94 _ _) rfl (by decide) ⟨by show C + 4 + 0 ≤ 601024; omega, by show S + 24 + 0 ≤ 7293034; omega⟩ rfl rfl (Nat.le_of_ble_eq_true rfl) (K_MO_begin l g htr (xs (x4 + 1).toNatClampNeg) (xs (x4 + 2).toNatClampNeg) r1.2 _ _ e2) ?_
  refine G_istore K dL_1820 (Nat.le_of_ble_eq_true rfl) rfl ?_
  refine G_goto (tgt := 1998) K dL_1822 (by decide) ?_
  exact G_wide (k := C + 8) (n := S + 48) (by show C + 4 ≤ C + 8; omega) (by show S + 24 ≤ S + 48; omega) (G_lv (lv' := [(0, .ref b), (1, .ref (g.2.1 0)), (2, .ref (g.2.1 94)), (3, .ref (g.2.1 121)), (4, .int x4)]) [2, 3, 4, 5, 6] rfl (hnext r2.2 (wpO_some h)))
def F_LAWc_35 (xs : Nat → Int32) (L : Nat) (x4 : Int32) (M : Mem) : Option Mem :=
  if inb (x4 + 1) L then if inb (x4 + 2) L then (F_LAW_villager (xs (x4 + 1).toNatClampNeg) (xs (x4 + 2).toNatClampNeg) M).bind fun r1 => if inb (x4 + 1) L then if inb (x4 + 2) L then (F_MO_villager (xs (x4 + 1).toNatClampNeg) (xs (x4 + 2).toNatClampNeg) r1.2).bind fun r2 => some r2.2 else none else none else none else none
set_option maxRecDepth 100000 in
set_option maxHeartbeats 8000000 in
theorem K_LAWc_35 {p : Program} {l : Launch} {e : Env} {s : State} {m : MethodId} {args : Array Value} {below : List Frame} {meth : Method} {c : Code} {g : GB} {Q : State → Prop} {b L : Nat} {xs : Nat → Int32} (K : KF p l s m args meth c g code 8 "KeptWellLaw") (htr : l.stackTraces = false) (hX : va_X b L xs s s.heap) (hbl : b < s.heap.size) (hbA : ¬ AS g s.heap.size b) (C S : Nat) (hC : C + 8 ≤ 601024) (hS : S + 48 ≤ 7293034) (x4 : Int32) (M : Mem) (PHI : Mem → Prop) (hnext : ∀ M, PHI M → GG p l e room_1 s m args below meth c g 8 Q (C + 8) (S + 48) 1998 [(0, .ref b), (1, .ref (g.2.1 0)), (2, .ref (g.2.1 94)), (3, .ref (g.2.1 121)), (4, .int x4)] [] M) (h : wpO (F_LAWc_35 xs L x4 M) PHI) : GG p l e room_1 s m args below meth c g 8 Q C S 1825 [(0, .ref b), (1, .ref (g.2.1 0)), (2, .ref (g.2.1 94)), (3, .ref (g.2.1 121)), (4, .int x4)] [] M := by
  unfold F_LAWc_35 at h
  refine G_aload_n rfl 1 rfl K dL_1825 ?_
  refine G_aload_n rfl 0 rfl K dL_1826 ?_
  refine G_iload 4 rfl K dL_1827 ?_
  refine G_iconst (v := 1) rfl K dL_1829 ?_
  refine G_iadd K dL_1830 ?_
  obtain ⟨hin, h⟩ := wpO_g h
  refine G_sld K hX hbl hbA dL_1831 hin ?_
  refine G_aload_n rfl 0 rfl K dL_1832 ?_
  refine G_iload 4 rfl K dL_1833 ?_
  refine G_iconst (v := 2) rfl K dL_1835 ?_
  refine G_iadd K dL_1836 ?_
  obtain ⟨hin, h⟩ := wpO_g h
  refine G_sld K hX hbl hbA dL_1837 hin ?_
  refine G_aload_n rfl 3 rfl K dL_1838 ?_
  obtain ⟨r1, e1, h⟩ := wpO_bind h
  refine G_callH [.ref (g.2.1 0), .int (xs (x4 + 1).toNatClampNeg), .int (xs (x4 + 2).toNatClampNeg), .ref (g.2.1 121)] [] K dL_1839 wv_1423 yd_L_villager (by decide) ⟨by show C + 0 + 3 ≤ 601024; omega, by show S + 0 + 18 ≤ 7293034; omega⟩ rfl rfl (Nat.le_of_ble_eq_true rfl) (K_LAW_villager l g htr (xs (x4 + 1).toNatClampNeg) (xs (x4 + 2).toNatClampNeg) M _ _ e1) ?_
  refine G_istore K dL_1842 (Nat.le_of_ble_eq_true rfl) rfl ?_
  refine G_aload_n rfl 3 rfl K dL_1844 ?_
  refine G_aload_n rfl 1 rfl K dL_1845 ?_
  refine G_iload 5 rfl K dL_1846 ?_
  refine G_iconst (v := 1) rfl K dL_1848 ?_
  refine G_iadd K dL_1849 ?_
  obtain ⟨hin, h⟩ := wpO_g h
  refine G_sld K hX hbl hbA dL_1850 hin ?_
  refine G_aload_n rfl 1 rfl K dL_1851 ?_
  refine G_iload 5 rfl K dL_1852 ?_
  refine G_iconst (v := 2) rfl K dL_1854 ?_
  refine G_iadd K dL_1855 ?_
  obtain ⟨hin, h⟩ := wpO_g h
  refine G_sld K hX hbl hbA dL_1856 hin ?_
  obtain ⟨r2, e2, h⟩ := wpO_bind h
  refine G_callVi (ci := 12) [.int (xs (x4 + 1).toNatClampNeg), .int (xs (x4 + 2).toNatClampNeg)] [] K dL_1857 wv_1995 yd_X12_villager (Nat.le_of_ble_eq_true rfl) (sh_94 _ _) rfl (by decide) ⟨by show C + 3 + 0 ≤ 601024; omega, by show S + 18 + 0 ≤ 7293034; omega⟩ rfl rfl (Nat.le_of_ble_eq_true rfl) (K_MO_villager l g htr (xs (x4 + 1).toNatClampNeg) (xs (x4 + 2).toNatClampNeg) r1.2 _ _ e2) ?_
  refine G_istore K dL_1860 (Nat.le_of_ble_eq_true rfl) rfl ?_
  refine G_goto (tgt := 1998) K dL_1862 (by decide) ?_
  exact G_wide (k := C + 8) (n := S + 48) (by show C + 3 ≤ C + 8; omega) (by show S + 18 ≤ S + 48; omega) (G_lv (lv' := [(0, .ref b), (1, .ref (g.2.1 0)), (2, .ref (g.2.1 94)), (3, .ref (g.2.1 121)), (4, .int x4)]) [2, 3, 4, 5, 6] rfl (hnext r2.2 (wpO_some h)))
def F_LAWc_36_j1913 (xs : Nat → Int32) (L : Nat) (x4 : Int32) (s1 : Int32) (s2 : Bool) (M : Mem) : Option (Mem) :=
  (F_MO_villageEdge s1 ((b2i s2)) M).bind fun r2 => some r2.2
def F_LAWc_36_j1886 (xs : Nat → Int32) (L : Nat) (x4 : Int32) (s1 : Int32) (s2 : Bool) (M : Mem) : Option (Mem) :=
  (F_LAW_villageEdge s1 ((b2i s2)) M).bind fun r1 => if inb (x4 + 1) L then if inb (x4 + 2) L then if (xs (x4 + 2).toNatClampNeg) = 0 then F_LAWc_36_j1913 xs L x4 (xs (x4 + 1).toNatClampNeg) false r1.2 else F_LAWc_36_j1913 xs L x4 (xs (x4 + 1).toNatClampNeg) true r1.2 else none else none
def F_LAWc_36 (xs : Nat → Int32) (L : Nat) (x4 : Int32) (M : Mem) : Option Mem :=
  if inb (x4 + 1) L then if inb (x4 + 2) L then if (xs (x4 + 2).toNatClampNeg) = 0 then F_LAWc_36_j1886 xs L x4 (xs (x4 + 1).toNatClampNeg) false M else F_LAWc_36_j1886 xs L x4 (xs (x4 + 1).toNatClampNeg) true M else none else none
set_option maxRecDepth 100000 in
set_option maxHeartbeats 8000000 in
theorem K_LAWc_36 {p : Program} {l : Launch} {e : Env} {s : State} {m : MethodId} {args : Array Value} {below : List Frame} {meth : Method} {c : Code} {g : GB} {Q : State → Prop} {b L : Nat} {xs : Nat → Int32} (K : KF p l s m args meth c g code 8 "KeptWellLaw") (htr : l.stackTraces = false) (hX : va_X b L xs s s.heap) (hbl : b < s.heap.size) (hbA : ¬ AS g s.heap.size b) (C S : Nat) (hC : C + 8 ≤ 601024) (hS : S + 48 ≤ 7293034) (x4 : Int32) (M : Mem) (PHI : Mem → Prop) (hnext : ∀ M, PHI M → GG p l e room_1 s m args below meth c g 8 Q (C + 8) (S + 48) 1998 [(0, .ref b), (1, .ref (g.2.1 0)), (2, .ref (g.2.1 94)), (3, .ref (g.2.1 121)), (4, .int x4)] [] M) (h : wpO (F_LAWc_36 xs L x4 M) PHI) : GG p l e room_1 s m args below meth c g 8 Q C S 1865 [(0, .ref b), (1, .ref (g.2.1 0)), (2, .ref (g.2.1 94)), (3, .ref (g.2.1 121)), (4, .int x4)] [] M := by
  have J1913 : ∀ (s1 : Int32) (s2 : Bool) (M : Mem), wpO (F_LAWc_36_j1913 xs L x4 s1 s2 M) PHI → GG p l e room_1 s m args below meth c g 8 Q (C + 1) (S + 6) 1913 [(0, .ref b), (1, .ref (g.2.1 0)), (2, .ref (g.2.1 94)), (3, .ref (g.2.1 121)), (4, .int x4)] [.int ((b2i s2)), .int s1, .ref (g.2.1 94)] M := by
    intro s1 s2 M h
    unfold F_LAWc_36_j1913 at h
    obtain ⟨r2, e2, h⟩ := wpO_bind h
    refine G_callVi (ci := 12) [.int s1, .int ((b2i s2))] [] K dL_1913 wv_1999 yd_X12_villageEdge (Nat.le_of_ble_eq_true rfl) (sh_94 _ _) rfl (by decide) ⟨by show C + 1 + 0 ≤ 601024; omega, by show S + 6 + 0 ≤ 7293034; omega⟩ rfl rfl (Nat.le_of_ble_eq_true rfl) (K_MO_villageEdge l g htr s1 ((b2i s2)) M _ _ e2) ?_
    refine G_istore K dL_1916 (Nat.le_of_ble_eq_true rfl) rfl ?_
    refine G_goto (tgt := 1998) K dL_1918 (by decide) ?_
    exact G_wide (k := C + 8) (n := S + 48) (by show C + 1 ≤ C + 8; omega) (by show S + 6 ≤ S + 48; omega) (G_lv (lv' := [(0, .ref b), (1, .ref (g.2.1 0)), (2, .ref (g.2.1 94)), (3, .ref (g.2.1 121)), (4, .int x4)]) [1, 2, 3, 4, 5] rfl (hnext r2.2 (wpO_some h)))
  have J1886 : ∀ (s1 : Int32) (s2 : Bool) (M : Mem), wpO (F_LAWc_36_j1886 xs L x4 s1 s2 M) PHI → GG p l e room_1 s m args below meth c g 8 Q (C + 0) (S + 0) 1886 [(0, .ref b), (1, .ref (g.2.1 0)), (2, .ref (g.2.1 94)), (3, .ref (g.2.1 121)), (4, .int x4)] [.int ((b2i s2)), .int s1, .ref (g.2.1 0)] M := by
    intro s1 s2 M h
    unfold F_LAWc_36_j1886 at h
    refine G_aload_n rfl 3 rfl K dL_1886 ?_
    obtain ⟨r1, e1, h⟩ := wpO_bind h
    refine G_callH [.ref (g.2.1 0), .int s1, .int ((b2i s2)), .ref (g.2.1 121)] [] K dL_1887 wv_1430 yd_L_villageEdge (by decide) ⟨by show C + 0 + 1 ≤ 601024; omega, by show S + 0 + 6 ≤ 7293034; omega⟩ rfl rfl (Nat.le_of_ble_eq_true rfl) (K_LAW_villageEdge l g htr s1 ((b2i s2)) M _ _ e1) ?_
    refine G_istore K dL_1890 (Nat.le_of_ble_eq_true rfl) rfl ?_
    refine G_aload_n rfl 3 rfl K dL_1892 ?_
    refine G_aload_n rfl 1 rfl K dL_1893 ?_
    refine G_iload 5 rfl K dL_1894 ?_
    refine G_iconst (v := 1) rfl K dL_1896 ?_
    refine G_iadd K dL_1897 ?_
    obtain ⟨hin, h⟩ := wpO_g h
    refine G_sld K hX hbl hbA dL_1898 hin ?_
    refine G_aload_n rfl 1 rfl K dL_1899 ?_
    refine G_iload 5 rfl K dL_1900 ?_
    refine G_iconst (v := 2) rfl K dL_1902 ?_
    refine G_iadd K dL_1903 ?_
    obtain ⟨hin, h⟩ := wpO_g h
    refine G_sld K hX hbl hbA dL_1904 hin ?_
    refine G_if_eq (tgt := 1912) K dL_1905 (by decide) (fun hc => ?_) (fun hc => ?_)
    · have h := wpO_t h hc
      refine G_iconst (v := 0) rfl K dL_1912 ?_
      exact G_lv (lv' := [(0, .ref b), (1, .ref (g.2.1 0)), (2, .ref (g.2.1 94)), (3, .ref (g.2.1 121)), (4, .int x4)]) [1, 2, 3, 4, 5] rfl (J1913 (xs (x4 + 1).toNatClampNeg) false r1.2 h)
    · have h := wpO_f h hc
      refine G_iconst (v := 1) rfl K dL_1908 ?_
      refine G_goto (tgt := 1913) K dL_1909 (by decide) ?_
      exact G_lv (lv' := [(0, .ref b), (1, .ref (g.2.1 0)), (2, .ref (g.2.1 94)), (3, .ref (g.2.1 121)), (4, .int x4)]) [1, 2, 3, 4, 5] rfl (J1913 (xs (x4 + 1).toNatClampNeg) true r1.2 h)
  unfold F_LAWc_36 at h
  refine G_aload_n rfl 1 rfl K dL_1865 ?_
  refine G_aload_n rfl 0 rfl K dL_1866 ?_
  refine G_iload 4 rfl K dL_1867 ?_
  refine G_iconst (v := 1) rfl K dL_1869 ?_
  refine G_iadd K dL_1870 ?_
  obtain ⟨hin, h⟩ := wpO_g h
  refine G_sld K hX hbl hbA dL_1871 hin ?_
  refine G_aload_n rfl 0 rfl K dL_1872 ?_
  refine G_iload 4 rfl K dL_1873 ?_
  refine G_iconst (v := 2) rfl K dL_1875 ?_
  refine G_iadd K dL_1876 ?_
  obtain ⟨hin, h⟩ := wpO_g h
  refine G_sld K hX hbl hbA dL_1877 hin ?_
  refine G_if_eq (tgt := 1885) K dL_1878 (by decide) (fun hc => ?_) (fun hc => ?_)
  · have h := wpO_t h hc
    refine G_iconst (v := 0) rfl K dL_1885 ?_
    exact J1886 (xs (x4 + 1).toNatClampNeg) false M h
  · have h := wpO_f h hc
    refine G_iconst (v := 1) rfl K dL_1881 ?_
    refine G_goto (tgt := 1886) K dL_1882 (by decide) ?_
    exact J1886 (xs (x4 + 1).toNatClampNeg) true M h
def F_LAWc_37 (xs : Nat → Int32) (L : Nat) (x4 : Int32) (M : Mem) : Option Mem :=
  if inb (x4 + 1) L then (F_LAW_village (xs (x4 + 1).toNatClampNeg) M).bind fun r1 => if inb (x4 + 1) L then (F_MO_village (xs (x4 + 1).toNatClampNeg) r1.2).bind fun r2 => some r2.2 else none else none
set_option maxRecDepth 100000 in
set_option maxHeartbeats 8000000 in
theorem K_LAWc_37 {p : Program} {l : Launch} {e : Env} {s : State} {m : MethodId} {args : Array Value} {below : List Frame} {meth : Method} {c : Code} {g : GB} {Q : State → Prop} {b L : Nat} {xs : Nat → Int32} (K : KF p l s m args meth c g code 8 "KeptWellLaw") (htr : l.stackTraces = false) (hX : va_X b L xs s s.heap) (hbl : b < s.heap.size) (hbA : ¬ AS g s.heap.size b) (C S : Nat) (hC : C + 8 ≤ 601024) (hS : S + 48 ≤ 7293034) (x4 : Int32) (M : Mem) (PHI : Mem → Prop) (hnext : ∀ M, PHI M → GG p l e room_1 s m args below meth c g 8 Q (C + 8) (S + 48) 1998 [(0, .ref b), (1, .ref (g.2.1 0)), (2, .ref (g.2.1 94)), (3, .ref (g.2.1 121)), (4, .int x4)] [] M) (h : wpO (F_LAWc_37 xs L x4 M) PHI) : GG p l e room_1 s m args below meth c g 8 Q C S 1921 [(0, .ref b), (1, .ref (g.2.1 0)), (2, .ref (g.2.1 94)), (3, .ref (g.2.1 121)), (4, .int x4)] [] M := by
  unfold F_LAWc_37 at h
  refine G_aload_n rfl 1 rfl K dL_1921 ?_
  refine G_aload_n rfl 0 rfl K dL_1922 ?_
  refine G_iload 4 rfl K dL_1923 ?_
  refine G_iconst (v := 1) rfl K dL_1925 ?_
  refine G_iadd K dL_1926 ?_
  obtain ⟨hin, h⟩ := wpO_g h
  refine G_sld K hX hbl hbA dL_1927 hin ?_
  refine G_aload_n rfl 3 rfl K dL_1928 ?_
  obtain ⟨r1, e1, h⟩ := wpO_bind h
  refine G_callH [.ref (g.2.1 0), .int (xs (x4 + 1).toNatClampNeg), .ref (g.2.1 121)] [] K dL_1929 wv_1443 yd_L_village (by decide) ⟨by show C + 0 + 1 ≤ 601024; omega, by show S + 0 + 6 ≤ 7293034; omega⟩ rfl rfl (Nat.le_of_ble_eq_true rfl) (K_LAW_village l g htr (xs (x4 + 1).toNatClampNeg) M _ _ e1) ?_
  refine G_istore K dL_1932 (Nat.le_of_ble_eq_true rfl) rfl ?_
  refine G_aload_n rfl 3 rfl K dL_1934 ?_
  refine G_aload_n rfl 1 rfl K dL_1935 ?_
  refine G_iload 5 rfl K dL_1936 ?_
  refine G_iconst (v := 1) rfl K dL_1938 ?_
  refine G_iadd K dL_1939 ?_
  obtain ⟨hin, h⟩ := wpO_g h
  refine G_sld K hX hbl hbA dL_1940 hin ?_
  obtain ⟨r2, e2, h⟩ := wpO_bind h
  refine G_callVi (ci := 12) [.int (xs (x4 + 1).toNatClampNeg)] [] K dL_1941 wv_2007 yd_X12_village (Nat.le_of_ble_eq_true rfl) (sh_94 _ _) rfl (by decide) ⟨by show C + 1 + 0 ≤ 601024; omega, by show S + 6 + 0 ≤ 7293034; omega⟩ rfl rfl (Nat.le_of_ble_eq_true rfl) (K_MO_village l g htr (xs (x4 + 1).toNatClampNeg) r1.2 _ _ e2) ?_
  refine G_istore K dL_1944 (Nat.le_of_ble_eq_true rfl) rfl ?_
  refine G_goto (tgt := 1998) K dL_1946 (by decide) ?_
  exact G_wide (k := C + 8) (n := S + 48) (by show C + 1 ≤ C + 8; omega) (by show S + 6 ≤ S + 48; omega) (G_lv (lv' := [(0, .ref b), (1, .ref (g.2.1 0)), (2, .ref (g.2.1 94)), (3, .ref (g.2.1 121)), (4, .int x4)]) [2, 3, 4, 5, 6] rfl (hnext r2.2 (wpO_some h)))
def F_LAWc_38 (xs : Nat → Int32) (L : Nat) (x4 : Int32) (M : Mem) : Option Mem :=
  (F_KW_image M).bind fun r1 => (F_MO_image r1).bind fun r2 => some r2
set_option maxRecDepth 100000 in
set_option maxHeartbeats 8000000 in
theorem K_LAWc_38 {p : Program} {l : Launch} {e : Env} {s : State} {m : MethodId} {args : Array Value} {below : List Frame} {meth : Method} {c : Code} {g : GB} {Q : State → Prop} {b L : Nat} {xs : Nat → Int32} (K : KF p l s m args meth c g code 8 "KeptWellLaw") (htr : l.stackTraces = false) (hX : va_X b L xs s s.heap) (hbl : b < s.heap.size) (hbA : ¬ AS g s.heap.size b) (C S : Nat) (hC : C + 8 ≤ 601024) (hS : S + 48 ≤ 7293034) (x4 : Int32) (M : Mem) (PHI : Mem → Prop) (hnext : ∀ M, PHI M → GG p l e room_1 s m args below meth c g 8 Q (C + 8) (S + 48) 1998 [(0, .ref b), (1, .ref (g.2.1 0)), (2, .ref (g.2.1 94)), (3, .ref (g.2.1 121)), (4, .int x4)] [] M) (h : wpO (F_LAWc_38 xs L x4 M) PHI) : GG p l e room_1 s m args below meth c g 8 Q C S 1949 [(0, .ref b), (1, .ref (g.2.1 0)), (2, .ref (g.2.1 94)), (3, .ref (g.2.1 121)), (4, .int x4)] [] M := by
  unfold F_LAWc_38 at h
  refine G_aload_n rfl 1 rfl K dL_1949 ?_
  obtain ⟨r1, e1, h⟩ := wpO_bind h
  refine G_callVv (ci := 11) [] [] K dL_1950 wv_616 yd_X11_image (Nat.le_of_ble_eq_true rfl) (sh_0 _ _) rfl (by decide) ⟨by show C + 0 + 0 ≤ 601024; omega, by show S + 0 + 0 ≤ 7293034; omega⟩ rfl rfl (Nat.le_of_ble_eq_true rfl) (K_KW_image l g htr  M _ e1) ?_
  refine G_aload_n rfl 2 rfl K dL_1953 ?_
  obtain ⟨r2, e2, h⟩ := wpO_bind h
  refine G_callVv (ci := 12) [] [] K dL_1954 wv_1605 yd_X12_image (Nat.le_of_ble_eq_true rfl) (sh_94 _ _) rfl (by decide) ⟨by show C + 0 + 0 ≤ 601024; omega, by show S + 0 + 0 ≤ 7293034; omega⟩ rfl rfl (Nat.le_of_ble_eq_true rfl) (K_MO_image l g htr  r1 _ e2) ?_
  refine G_goto (tgt := 1998) K dL_1957 (by decide) ?_
  exact G_wide (k := C + 8) (n := S + 48) (by show C + 0 ≤ C + 8; omega) (by show S + 0 ≤ S + 48; omega) (hnext r2 (wpO_some h))
def F_LAWc_39 (xs : Nat → Int32) (L : Nat) (x4 : Int32) (M : Mem) : Option Mem :=
  (F_KW_back M).bind fun r1 => (F_MO_back r1.2).bind fun r2 => some r2.2
set_option maxRecDepth 100000 in
set_option maxHeartbeats 8000000 in
theorem K_LAWc_39 {p : Program} {l : Launch} {e : Env} {s : State} {m : MethodId} {args : Array Value} {below : List Frame} {meth : Method} {c : Code} {g : GB} {Q : State → Prop} {b L : Nat} {xs : Nat → Int32} (K : KF p l s m args meth c g code 8 "KeptWellLaw") (htr : l.stackTraces = false) (hX : va_X b L xs s s.heap) (hbl : b < s.heap.size) (hbA : ¬ AS g s.heap.size b) (C S : Nat) (hC : C + 8 ≤ 601024) (hS : S + 48 ≤ 7293034) (x4 : Int32) (M : Mem) (PHI : Mem → Prop) (hnext : ∀ M, PHI M → GG p l e room_1 s m args below meth c g 8 Q (C + 8) (S + 48) 1998 [(0, .ref b), (1, .ref (g.2.1 0)), (2, .ref (g.2.1 94)), (3, .ref (g.2.1 121)), (4, .int x4)] [] M) (h : wpO (F_LAWc_39 xs L x4 M) PHI) : GG p l e room_1 s m args below meth c g 8 Q C S 1960 [(0, .ref b), (1, .ref (g.2.1 0)), (2, .ref (g.2.1 94)), (3, .ref (g.2.1 121)), (4, .int x4)] [] M := by
  unfold F_LAWc_39 at h
  refine G_aload_n rfl 1 rfl K dL_1960 ?_
  obtain ⟨r1, e1, h⟩ := wpO_bind h
  refine G_callVi (ci := 11) [] [] K dL_1961 wv_629 yd_X11_back (Nat.le_of_ble_eq_true rfl) (sh_0 _ _) rfl (by decide) ⟨by show C + 0 + 0 ≤ 601024; omega, by show S + 0 + 0 ≤ 7293034; omega⟩ rfl rfl (Nat.le_of_ble_eq_true rfl) (K_KW_back l g htr  M _ _ e1) ?_
  refine G_pop rfl K dL_1964 ?_
  refine G_aload_n rfl 2 rfl K dL_1965 ?_
  obtain ⟨r2, e2, h⟩ := wpO_bind h
  refine G_callVi (ci := 12) [] [] K dL_1966 wv_1609 yd_X12_back (Nat.le_of_ble_eq_true rfl) (sh_94 _ _) rfl (by decide) ⟨by show C + 0 + 0 ≤ 601024; omega, by show S + 0 + 0 ≤ 7293034; omega⟩ rfl rfl (Nat.le_of_ble_eq_true rfl) (K_MO_back l g htr  r1.2 _ _ e2) ?_
  refine G_pop rfl K dL_1969 ?_
  refine G_goto (tgt := 1998) K dL_1970 (by decide) ?_
  exact G_wide (k := C + 8) (n := S + 48) (by show C + 0 ≤ C + 8; omega) (by show S + 0 ≤ S + 48; omega) (hnext r2.2 (wpO_some h))
def F_LAWc_40 (xs : Nat → Int32) (L : Nat) (x4 : Int32) (M : Mem) : Option Mem :=
  if inb (x4 + 1) L then (F_KW_count (xs (x4 + 1).toNatClampNeg) M).bind fun r1 => if inb (x4 + 1) L then (F_MO_count (xs (x4 + 1).toNatClampNeg) r1.2).bind fun r2 => some r2.2 else none else none
set_option maxRecDepth 100000 in
set_option maxHeartbeats 8000000 in
theorem K_LAWc_40 {p : Program} {l : Launch} {e : Env} {s : State} {m : MethodId} {args : Array Value} {below : List Frame} {meth : Method} {c : Code} {g : GB} {Q : State → Prop} {b L : Nat} {xs : Nat → Int32} (K : KF p l s m args meth c g code 8 "KeptWellLaw") (htr : l.stackTraces = false) (hX : va_X b L xs s s.heap) (hbl : b < s.heap.size) (hbA : ¬ AS g s.heap.size b) (C S : Nat) (hC : C + 8 ≤ 601024) (hS : S + 48 ≤ 7293034) (x4 : Int32) (M : Mem) (PHI : Mem → Prop) (hnext : ∀ M, PHI M → GG p l e room_1 s m args below meth c g 8 Q (C + 8) (S + 48) 1998 [(0, .ref b), (1, .ref (g.2.1 0)), (2, .ref (g.2.1 94)), (3, .ref (g.2.1 121)), (4, .int x4)] [] M) (h : wpO (F_LAWc_40 xs L x4 M) PHI) : GG p l e room_1 s m args below meth c g 8 Q C S 1973 [(0, .ref b), (1, .ref (g.2.1 0)), (2, .ref (g.2.1 94)), (3, .ref (g.2.1 121)), (4, .int x4)] [] M := by
  unfold F_LAWc_40 at h
  refine G_aload_n rfl 1 rfl K dL_1973 ?_
  refine G_aload_n rfl 0 rfl K dL_1974 ?_
  refine G_iload 4 rfl K dL_1975 ?_
  refine G_iconst (v := 1) rfl K dL_1977 ?_
  refine G_iadd K dL_1978 ?_
  obtain ⟨hin, h⟩ := wpO_g h
  refine G_sld K hX hbl hbA dL_1979 hin ?_
  obtain ⟨r1, e1, h⟩ := wpO_bind h
  refine G_callVi (ci := 11) [.int (xs (x4 + 1).toNatClampNeg)] [] K dL_1980 wv_633 yd_X11_count (Nat.le_of_ble_eq_true rfl) (sh_0 _ _) rfl (by decide) ⟨by show C + 0 + 0 ≤ 601024; omega, by show S + 0 + 0 ≤ 7293034; omega⟩ rfl rfl (Nat.le_of_ble_eq_true rfl) (K_KW_count l g htr (xs (x4 + 1).toNatClampNeg) M _ _ e1) ?_
  refine G_pop rfl K dL_1983 ?_
  refine G_aload_n rfl 2 rfl K dL_1984 ?_
  refine G_aload_n rfl 0 rfl K dL_1985 ?_
  refine G_iload 4 rfl K dL_1986 ?_
  refine G_iconst (v := 1) rfl K dL_1988 ?_
  refine G_iadd K dL_1989 ?_
  obtain ⟨hin, h⟩ := wpO_g h
  refine G_sld K hX hbl hbA dL_1990 hin ?_
  obtain ⟨r2, e2, h⟩ := wpO_bind h
  refine G_callVi (ci := 12) [.int (xs (x4 + 1).toNatClampNeg)] [] K dL_1991 wv_2019 yd_X12_count (Nat.le_of_ble_eq_true rfl) (sh_94 _ _) rfl (by decide) ⟨by show C + 0 + 0 ≤ 601024; omega, by show S + 0 + 0 ≤ 7293034; omega⟩ rfl rfl (Nat.le_of_ble_eq_true rfl) (K_MO_count l g htr (xs (x4 + 1).toNatClampNeg) r1.2 _ _ e2) ?_
  refine G_pop rfl K dL_1994 ?_
  refine G_goto (tgt := 1998) K dL_1995 (by decide) ?_
  exact G_wide (k := C + 8) (n := S + 48) (by show C + 0 ≤ C + 8; omega) (by show S + 0 ≤ S + 48; omega) (hnext r2.2 (wpO_some h))
