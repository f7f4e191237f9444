section GLAW
variable {p : Program} {l : Launch} {e : Env} {R : Room} {s : State} {m : MethodId} {args : Array Value} {below : List Frame} {meth : Method} {c : Code} {g : GB} {nL : Nat} {Q : State → Prop} {cells slots : Nat}
variable {cc : ByteArray} {own : String} {pc pc' : Nat} {lv : List (Nat × Value)} {M : Mem} {rest : List Value}
theorem G_sld {b L : Nat} {xs : Nat → Int32} {i : Int32} (K : KF p l s m args meth c g cc nL own) (hX : va_X b L xs s s.heap) (hbl : b < s.heap.size) (hbA : ¬ AS g s.heap.size b) (d : dc cc pc pc' .iaload 1) (hin : vp_in i L) (k : GG p l e R s m args below meth c g nL Q cells slots pc' lv (.int (xs i.toNatClampNeg) :: rest) M) : GG p l e R s m args below meth c g nL Q cells slots pc lv (.int i :: .ref b :: rest) M := by
  obtain ⟨d, rfl⟩ := d
  exact fun H locs ls hP hS hl => va_sld K.1.1 K.1.2.1 hX hbl hbA hS hin d (k H locs ls hP hS hl)
theorem G_slen {b L : Nat} {xs : Nat → Int32} (K : KF p l s m args meth c g cc nL own) (hX : va_X b L xs s s.heap) (hbl : b < s.heap.size) (hbA : ¬ AS g s.heap.size b) (d : dc cc pc pc' .arraylength 1) (k : GG p l e R s m args below meth c g nL Q cells slots pc' lv (.int (nI L) :: rest) M) : GG p l e R s m args below meth c g nL Q cells slots pc lv (.ref b :: rest) M := by
  obtain ⟨d, rfl⟩ := d
  exact fun H locs ls hP hS hl => va_slen K.1.1 K.1.2.1 hX hbl hbA hS d (k H locs ls hP hS hl)
end GLAW
theorem yd_X11_feed : ydN yX11_feed 5 := ⟨by decide, by decide, by decide +kernel⟩
theorem yd_X12_feed : ydN yX12_feed 5 := ⟨by decide, by decide, by decide +kernel⟩
theorem wv_439 : wdV "KeptWellLaw" 136 yX11_feed cX11_feed 6 (some .int) := ⟨wd_439, wd_440, wd_441, wd_1, wd_442⟩
theorem wv_1640 : wdV "KeptWellLaw" 139 yX12_feed cX12_feed 7 (some .int) := ⟨wd_1640, wd_1641, wd_1642, wd_14, wd_1643⟩
theorem yd_X12_end : ydN yX12_end 1 := ⟨by decide, by decide, by decide +kernel⟩
theorem yd_X11_end : ydN yX11_end 1 := ⟨by decide, by decide, by decide +kernel⟩
theorem wv_455 : wdV "KeptWellLaw" 140 yX11_end cX11_end 2 (some .boolean) := ⟨wd_455, wd_456, wd_457, wd_1, wd_458⟩
theorem wv_1644 : wdV "KeptWellLaw" 143 yX12_end cX12_end 2 (some .boolean) := ⟨wd_1644, wd_1645, wd_1646, wd_14, wd_1647⟩
theorem yd_X12_thrown : ydN yX12_thrown 0 := ⟨by decide, by decide, by decide +kernel⟩
theorem yd_L_acts : ydN yL_acts 2 := ⟨by decide, by decide, by decide +kernel⟩
theorem yd_X12_acts : ydN yX12_acts 1 := ⟨by decide, by decide, by decide +kernel⟩
theorem wv_646 : wdH "KeptWellLaw" 144 yL_acts cL_acts 3 (some .int) [(0, 5, 8, 13)] := ⟨wd_646, wd_647, wd_0, wd_648⟩
theorem wv_1613 : wdV "KeptWellLaw" 149 yX12_acts cX12_acts 2 none := ⟨wd_1613, wd_1614, wd_1615, wd_14, wd_1616⟩
theorem wv_1470 : wdV "KeptWellLaw" 150 yX12_thrown cX12_thrown 1 (some .int) := ⟨wd_1470, wd_1471, wd_1472, wd_14, wd_1473⟩
theorem yd_X12_bring : ydN yX12_bring 4 := ⟨by decide, by decide, by decide +kernel⟩
theorem yd_L_bring : ydN yL_bring 5 := ⟨by decide, by decide, by decide +kernel⟩
theorem wv_723 : wdH "KeptWellLaw" 153 yL_bring cL_bring 6 (some .int) [(0, 9, 12, 19), (0, 9, 16, 13)] := ⟨wd_723, wd_724, wd_0, wd_725⟩
theorem wv_1624 : wdV "KeptWellLaw" 156 yX12_bring cX12_bring 5 none := ⟨wd_1624, wd_1625, wd_1626, wd_14, wd_1627⟩
theorem yd_L_tomorrow : ydN yL_tomorrow 3 := ⟨by decide, by decide, by decide +kernel⟩
theorem yd_X12_tomorrow : ydN yX12_tomorrow 2 := ⟨by decide, by decide, by decide +kernel⟩
theorem wv_755 : wdH "KeptWellLaw" 157 yL_tomorrow cL_tomorrow 4 (some .int) [(0, 6, 9, 13)] := ⟨wd_755, wd_756, wd_0, wd_757⟩
theorem wv_1636 : wdV "KeptWellLaw" 160 yX12_tomorrow cX12_tomorrow 3 none := ⟨wd_1636, wd_1637, wd_1638, wd_14, wd_1639⟩
theorem yd_X12_way : ydN yX12_way 0 := ⟨by decide, by decide, by decide +kernel⟩
theorem yd_L_way : ydN yL_way 2 := ⟨by decide, by decide, by decide +kernel⟩
theorem wv_762 : wdH "KeptWellLaw" 161 yL_way cL_way 3 (some .int) [(0, 8, 11, 13), (0, 8, 14, 29)] := ⟨wd_762, wd_763, wd_0, wd_764⟩
theorem wv_1652 : wdV "KeptWellLaw" 164 yX12_way cX12_way 4 (some .int) := ⟨wd_1652, wd_1653, wd_1654, wd_14, wd_1655⟩
theorem yd_X11_fault : ydN yX11_fault 0 := ⟨by decide, by decide, by decide +kernel⟩
theorem yd_X12_fault : ydN yX12_fault 0 := ⟨by decide, by decide, by decide +kernel⟩
theorem wv_459 : wdV "KeptWellLaw" 165 yX11_fault cX11_fault 1 (some .int) := ⟨wd_459, wd_460, wd_461, wd_1, wd_462⟩
theorem wv_1648 : wdV "KeptWellLaw" 168 yX12_fault cX12_fault 1 (some .int) := ⟨wd_1648, wd_1649, wd_1650, wd_14, wd_1651⟩
theorem yd_X12_mood : ydN yX12_mood 3 := ⟨by decide, by decide, by decide +kernel⟩
theorem yd_L_mood : ydN yL_mood 5 := ⟨by decide, by decide, by decide +kernel⟩
theorem wv_890 : wdH "KeptWellLaw" 169 yL_mood cL_mood 6 (some .int) [(0, 12, 15, 19), (0, 12, 19, 35)] := ⟨wd_890, wd_891, wd_0, wd_892⟩
theorem wv_1705 : wdV "KeptWellLaw" 172 yX12_mood cX12_mood 4 (some .int) := ⟨wd_1705, wd_1706, wd_1707, wd_14, wd_1708⟩
theorem yd_X12_worth : ydN yX12_worth 6 := ⟨by decide, by decide, by decide +kernel⟩
theorem yd_L_worth : ydN yL_worth 8 := ⟨by decide, by decide, by decide +kernel⟩
theorem wv_929 : wdH "KeptWellLaw" 173 yL_worth cL_worth 9 (some .int) [(0, 17, 20, 19), (0, 17, 24, 41)] := ⟨wd_929, wd_930, wd_0, wd_931⟩
theorem wv_1733 : wdV "KeptWellLaw" 176 yX12_worth cX12_worth 8 (some .long) := ⟨wd_1733, wd_1734, wd_1735, wd_14, wd_1736⟩
theorem yd_X12_hold : ydN yX12_hold 2 := ⟨by decide, by decide, by decide +kernel⟩
theorem yd_L_hold : ydN yL_hold 4 := ⟨by decide, by decide, by decide +kernel⟩
theorem wv_983 : wdH "KeptWellLaw" 177 yL_hold cL_hold 5 (some .int) [(0, 17, 20, 19), (0, 17, 24, 41)] := ⟨wd_983, wd_984, wd_0, wd_985⟩
theorem wv_1781 : wdV "KeptWellLaw" 180 yX12_hold cX12_hold 3 (some .boolean) := ⟨wd_1781, wd_1782, wd_1783, wd_14, wd_1784⟩
theorem yd_X12_first : ydN yX12_first 2 := ⟨by decide, by decide, by decide +kernel⟩
theorem yd_L_first : ydN yL_first 4 := ⟨by decide, by decide, by decide +kernel⟩
theorem wv_995 : wdH "KeptWellLaw" 181 yL_first cL_first 5 (some .int) [(0, 10, 13, 19), (0, 10, 17, 41)] := ⟨wd_995, wd_996, wd_0, wd_997⟩
theorem wv_1797 : wdV "KeptWellLaw" 183 yX12_first cX12_first 3 (some .int) := ⟨wd_1797, wd_1798, wd_1799, wd_14, wd_1800⟩
theorem yd_X12_best : ydN yX12_best 3 := ⟨by decide, by decide, by decide +kernel⟩
theorem yd_L_best : ydN yL_best 5 := ⟨by decide, by decide, by decide +kernel⟩
theorem wv_1002 : wdH "KeptWellLaw" 184 yL_best cL_best 6 (some .int) [(0, 12, 15, 19), (0, 12, 19, 41)] := ⟨wd_1002, wd_1003, wd_0, wd_1004⟩
theorem wv_1801 : wdV "KeptWellLaw" 186 yX12_best cX12_best 4 (some .int) := ⟨wd_1801, wd_1802, wd_1803, wd_14, wd_1804⟩
theorem yd_X12_answer : ydN yX12_answer 4 := ⟨by decide, by decide, by decide +kernel⟩
theorem yd_L_answer : ydN yL_answer 6 := ⟨by decide, by decide, by decide +kernel⟩
theorem wv_1049 : wdH "KeptWellLaw" 187 yL_answer cL_answer 7 (some .int) [(0, 13, 16, 19), (0, 13, 20, 41)] := ⟨wd_1049, wd_1050, wd_0, wd_1051⟩
theorem wv_1813 : wdV "KeptWellLaw" 190 yX12_answer cX12_answer 5 (some .long) := ⟨wd_1813, wd_1814, wd_1815, wd_14, wd_1816⟩
theorem yd_X12_least : ydN yX12_least 2 := ⟨by decide, by decide, by decide +kernel⟩
theorem yd_L_least : ydN yL_least 4 := ⟨by decide, by decide, by decide +kernel⟩
theorem wv_1061 : wdH "KeptWellLaw" 191 yL_least cL_least 5 (some .int) [(0, 10, 13, 19)] := ⟨wd_1061, wd_1062, wd_0, wd_1063⟩
theorem wv_1817 : wdV "KeptWellLaw" 194 yX12_least cX12_least 3 (some .int) := ⟨wd_1817, wd_1818, wd_1819, wd_14, wd_1820⟩
theorem yd_X12_lots : ydN yX12_lots 2 := ⟨by decide, by decide, by decide +kernel⟩
theorem yd_L_lots : ydN yL_lots 4 := ⟨by decide, by decide, by decide +kernel⟩
theorem wv_1077 : wdH "KeptWellLaw" 195 yL_lots cL_lots 5 (some .int) [(0, 9, 12, 19)] := ⟨wd_1077, wd_1078, wd_0, wd_1079⟩
theorem wv_1838 : wdV "KeptWellLaw" 197 yX12_lots cX12_lots 6 (some .long) := ⟨wd_1838, wd_1839, wd_1840, wd_14, wd_1841⟩
theorem yd_X11_once : ydN yX11_once 0 := ⟨by decide, by decide, by decide +kernel⟩
theorem yd_X12_once : ydN yX12_once 0 := ⟨by decide, by decide, by decide +kernel⟩
theorem wv_564 : wdV "KeptWellLaw" 198 yX11_once cX11_once 1 (some .int) := ⟨wd_564, wd_565, wd_566, wd_1, wd_567⟩
theorem wv_1858 : wdV "KeptWellLaw" 201 yX12_once cX12_once 4 (some .int) := ⟨wd_1858, wd_1859, wd_1860, wd_14, wd_1861⟩
theorem yd_X11_corner : ydN yX11_corner 2 := ⟨by decide, by decide, by decide +kernel⟩
theorem yd_X12_corner : ydN yX12_corner 2 := ⟨by decide, by decide, by decide +kernel⟩
theorem wv_582 : wdV "KeptWellLaw" 202 yX11_corner cX11_corner 3 (some .int) := ⟨wd_582, wd_583, wd_584, wd_1, wd_585⟩
theorem wv_1862 : wdV "KeptWellLaw" 205 yX12_corner cX12_corner 3 (some .int) := ⟨wd_1862, wd_1863, wd_1864, wd_14, wd_1865⟩
theorem yd_L_in : ydN yL_in 6 := ⟨by decide, by decide, by decide +kernel⟩
theorem yd_X12_in : ydN yX12_in 4 := ⟨by decide, by decide, by decide +kernel⟩
theorem wv_1119 : wdH "KeptWellLaw" 206 yL_in cL_in 7 (some .int) [(0, 21, 24, 13)] := ⟨wd_1119, wd_1120, wd_0, wd_1121⟩
theorem wv_1876 : wdV "KeptWellLaw" 208 yX12_in cX12_in 5 (some .boolean) := ⟨wd_1876, wd_1877, wd_1878, wd_14, wd_1879⟩
theorem yd_X12_mild : ydN yX12_mild 4 := ⟨by decide, by decide, by decide +kernel⟩
theorem yd_L_mild : ydN yL_mild 6 := ⟨by decide, by decide, by decide +kernel⟩
theorem wv_1144 : wdH "KeptWellLaw" 209 yL_mild cL_mild 7 (some .int) [(0, 14, 17, 19)] := ⟨wd_1144, wd_1145, wd_0, wd_1146⟩
theorem wv_1887 : wdV "KeptWellLaw" 212 yX12_mild cX12_mild 11 (some .int) := ⟨wd_1887, wd_1888, wd_1889, wd_14, wd_1890⟩
theorem yd_X12_edge : ydN yX12_edge 3 := ⟨by decide, by decide, by decide +kernel⟩
theorem yd_L_edge : ydN yL_edge 5 := ⟨by decide, by decide, by decide +kernel⟩
theorem wv_1167 : wdH "KeptWellLaw" 213 yL_edge cL_edge 6 (some .int) [(0, 12, 15, 19), (0, 12, 19, 13), (0, 12, 23, 41)] := ⟨wd_1167, wd_1168, wd_0, wd_1169⟩
theorem wv_1902 : wdV "KeptWellLaw" 215 yX12_edge cX12_edge 8 (some .int) := ⟨wd_1902, wd_1903, wd_1904, wd_14, wd_1905⟩
theorem yd_X12_together : ydN yX12_together 0 := ⟨by decide, by decide, by decide +kernel⟩
theorem yd_X11_together : ydN yX11_together 0 := ⟨by decide, by decide, by decide +kernel⟩
theorem wv_463 : wdV "KeptWellLaw" 216 yX11_together cX11_together 1 (some .int) := ⟨wd_463, wd_464, wd_465, wd_1, wd_466⟩
theorem wv_1906 : wdV "KeptWellLaw" 219 yX12_together cX12_together 8 (some .int) := ⟨wd_1906, wd_1907, wd_1908, wd_14, wd_1909⟩
theorem yd_L_mistakes : ydN yL_mistakes 3 := ⟨by decide, by decide, by decide +kernel⟩
theorem yd_X12_mistakes : ydN yX12_mistakes 2 := ⟨by decide, by decide, by decide +kernel⟩
theorem wv_1179 : wdH "KeptWellLaw" 220 yL_mistakes cL_mistakes 4 (some .int) [(0, 6, 9, 13)] := ⟨wd_1179, wd_1180, wd_0, wd_1181⟩
theorem wv_1914 : wdV "KeptWellLaw" 222 yX12_mistakes cX12_mistakes 3 none := ⟨wd_1914, wd_1915, wd_1916, wd_14, wd_1917⟩
theorem yd_L_doubt : ydN yL_doubt 7 := ⟨by decide, by decide, by decide +kernel⟩
theorem yd_X12_doubt : ydN yX12_doubt 5 := ⟨by decide, by decide, by decide +kernel⟩
theorem wv_1186 : wdH "KeptWellLaw" 223 yL_doubt cL_doubt 8 (some .int) [(0, 15, 18, 19), (0, 15, 22, 41)] := ⟨wd_1186, wd_1187, wd_0, wd_1188⟩
theorem wv_1918 : wdV "KeptWellLaw" 226 yX12_doubt cX12_doubt 12 (some .long) := ⟨wd_1918, wd_1919, wd_1920, wd_14, wd_1921⟩
theorem yd_X12_row : ydN yX12_row 0 := ⟨by decide, by decide, by decide +kernel⟩
theorem yd_L_row : ydN yL_row 2 := ⟨by decide, by decide, by decide +kernel⟩
theorem wv_1225 : wdH "KeptWellLaw" 227 yL_row cL_row 3 (some .int) [(0, 8, 11, 13)] := ⟨wd_1225, wd_1226, wd_0, wd_1227⟩
theorem wv_1926 : wdV "KeptWellLaw" 229 yX12_row cX12_row 3 (some .int) := ⟨wd_1926, wd_1927, wd_1928, wd_14, wd_1929⟩
theorem yd_L_judge : ydN yL_judge 4 := ⟨by decide, by decide, by decide +kernel⟩
theorem yd_X12_judge : ydN yX12_judge 2 := ⟨by decide, by decide, by decide +kernel⟩
theorem wv_1237 : wdH "KeptWellLaw" 230 yL_judge cL_judge 5 (some .int) [(0, 10, 13, 19), (0, 10, 17, 41)] := ⟨wd_1237, wd_1238, wd_0, wd_1239⟩
theorem wv_1930 : wdV "KeptWellLaw" 232 yX12_judge cX12_judge 8 (some .int) := ⟨wd_1930, wd_1931, wd_1932, wd_14, wd_1933⟩
theorem yd_X12_brought : ydN yX12_brought 1 := ⟨by decide, by decide, by decide +kernel⟩
theorem yd_L_brought : ydN yL_brought 3 := ⟨by decide, by decide, by decide +kernel⟩
theorem wv_1263 : wdH "KeptWellLaw" 233 yL_brought cL_brought 4 (some .int) [(0, 9, 12, 19)] := ⟨wd_1263, wd_1264, wd_0, wd_1265⟩
theorem wv_1938 : wdV "KeptWellLaw" 236 yX12_brought cX12_brought 4 (some .int) := ⟨wd_1938, wd_1939, wd_1940, wd_14, wd_1941⟩
theorem yd_X12_drawn : ydN yX12_drawn 5 := ⟨by decide, by decide, by decide +kernel⟩
theorem yd_L_drawn : ydN yL_drawn 7 := ⟨by decide, by decide, by decide +kernel⟩
theorem wv_1275 : wdH "KeptWellLaw" 237 yL_drawn cL_drawn 8 (some .int) [(0, 16, 19, 19), (0, 16, 23, 13), (0, 16, 27, 41), (0, 16, 31, 35)] := ⟨wd_1275, wd_1276, wd_0, wd_1277⟩
theorem wv_1942 : wdV "KeptWellLaw" 240 yX12_drawn cX12_drawn 14 (some .int) := ⟨wd_1942, wd_1943, wd_1944, wd_14, wd_1945⟩
theorem yd_L_field : ydN yL_field 3 := ⟨by decide, by decide, by decide +kernel⟩
theorem yd_X12_field : ydN yX12_field 2 := ⟨by decide, by decide, by decide +kernel⟩
theorem wv_1291 : wdH "KeptWellLaw" 241 yL_field cL_field 4 (some .int) [(0, 6, 9, 19), (0, 6, 12, 13)] := ⟨wd_1291, wd_1292, wd_0, wd_1293⟩
theorem wv_1951 : wdV "KeptWellLaw" 243 yX12_field cX12_field 3 none := ⟨wd_1951, wd_1952, wd_1953, wd_14, wd_1954⟩
theorem yd_L_rounds : ydN yL_rounds 2 := ⟨by decide, by decide, by decide +kernel⟩
theorem yd_X12_rounds : ydN yX12_rounds 1 := ⟨by decide, by decide, by decide +kernel⟩
theorem wv_1299 : wdH "KeptWellLaw" 244 yL_rounds cL_rounds 3 (some .int) [(0, 5, 8, 13)] := ⟨wd_1299, wd_1300, wd_0, wd_1301⟩
theorem wv_1955 : wdV "KeptWellLaw" 246 yX12_rounds cX12_rounds 2 none := ⟨wd_1955, wd_1956, wd_1957, wd_14, wd_1958⟩
theorem yd_X12_meet : ydN yX12_meet 2 := ⟨by decide, by decide, by decide +kernel⟩
theorem yd_L_meet : ydN yL_meet 4 := ⟨by decide, by decide, by decide +kernel⟩
theorem wv_1306 : wdH "KeptWellLaw" 247 yL_meet cL_meet 5 (some .int) [(0, 10, 13, 19), (0, 10, 17, 41)] := ⟨wd_1306, wd_1307, wd_0, wd_1308⟩
theorem wv_1959 : wdV "KeptWellLaw" 249 yX12_meet cX12_meet 3 (some .int) := ⟨wd_1959, wd_1960, wd_1961, wd_14, wd_1962⟩
theorem yd_X12_grow : ydN yX12_grow 1 := ⟨by decide, by decide, by decide +kernel⟩
theorem yd_L_grow : ydN yL_grow 3 := ⟨by decide, by decide, by decide +kernel⟩
theorem wv_1317 : wdH "KeptWellLaw" 250 yL_grow cL_grow 4 (some .int) [(0, 9, 12, 13)] := ⟨wd_1317, wd_1318, wd_0, wd_1319⟩
theorem wv_1967 : wdV "KeptWellLaw" 252 yX12_grow cX12_grow 4 (some .int) := ⟨wd_1967, wd_1968, wd_1969, wd_14, wd_1970⟩
theorem yd_X12_beings : ydN yX12_beings 1 := ⟨by decide, by decide, by decide +kernel⟩
theorem yd_L_beings : ydN yL_beings 3 := ⟨by decide, by decide, by decide +kernel⟩
theorem wv_1367 : wdH "KeptWellLaw" 253 yL_beings cL_beings 4 (some .int) [(0, 9, 12, 19)] := ⟨wd_1367, wd_1368, wd_0, wd_1369⟩
theorem wv_1975 : wdV "KeptWellLaw" 255 yX12_beings cX12_beings 2 (some .int) := ⟨wd_1975, wd_1976, wd_1977, wd_14, wd_1978⟩
theorem yd_X12_stays : ydN yX12_stays 1 := ⟨by decide, by decide, by decide +kernel⟩
theorem yd_L_stays : ydN yL_stays 3 := ⟨by decide, by decide, by decide +kernel⟩
theorem wv_1374 : wdH "KeptWellLaw" 256 yL_stays cL_stays 4 (some .int) [(0, 16, 19, 19), (0, 16, 22, 41)] := ⟨wd_1374, wd_1375, wd_0, wd_1376⟩
theorem wv_1979 : wdV "KeptWellLaw" 258 yX12_stays cX12_stays 6 (some .boolean) := ⟨wd_1979, wd_1980, wd_1981, wd_14, wd_1982⟩
theorem yd_L_all : ydN yL_all 4 := ⟨by decide, by decide, by decide +kernel⟩
theorem yd_X12_all : ydN yX12_all 2 := ⟨by decide, by decide, by decide +kernel⟩
theorem wv_1389 : wdH "KeptWellLaw" 259 yL_all cL_all 5 (some .int) [(0, 10, 13, 19), (0, 10, 17, 41), (0, 10, 21, 35)] := ⟨wd_1389, wd_1390, wd_0, wd_1391⟩
theorem wv_1983 : wdV "KeptWellLaw" 261 yX12_all cX12_all 8 (some .int) := ⟨wd_1983, wd_1984, wd_1985, wd_14, wd_1986⟩
theorem yd_X12_begin : ydN yX12_begin 2 := ⟨by decide, by decide, by decide +kernel⟩
theorem yd_L_begin : ydN yL_begin 4 := ⟨by decide, by decide, by decide +kernel⟩
theorem wv_1405 : wdH "KeptWellLaw" 262 yL_begin cL_begin 5 (some .int) [(0, 10, 13, 19), (0, 10, 17, 41)] := ⟨wd_1405, wd_1406, wd_0, wd_1407⟩
theorem wv_1991 : wdV "KeptWellLaw" 264 yX12_begin cX12_begin 11 (some .int) := ⟨wd_1991, wd_1992, wd_1993, wd_14, wd_1994⟩
theorem yd_X12_villager : ydN yX12_villager 2 := ⟨by decide, by decide, by decide +kernel⟩
theorem yd_L_villager : ydN yL_villager 4 := ⟨by decide, by decide, by decide +kernel⟩
theorem wv_1423 : wdH "KeptWellLaw" 265 yL_villager cL_villager 5 (some .int) [(0, 10, 13, 13), (0, 10, 17, 29)] := ⟨wd_1423, wd_1424, wd_0, wd_1425⟩
theorem wv_1995 : wdV "KeptWellLaw" 267 yX12_villager cX12_villager 4 (some .int) := ⟨wd_1995, wd_1996, wd_1997, wd_14, wd_1998⟩
theorem yd_X12_villageEdge : ydN yX12_villageEdge 2 := ⟨by decide, by decide, by decide +kernel⟩
theorem yd_L_villageEdge : ydN yL_villageEdge 4 := ⟨by decide, by decide, by decide +kernel⟩
theorem wv_1430 : wdH "KeptWellLaw" 268 yL_villageEdge cL_villageEdge 5 (some .int) [(0, 10, 13, 19)] := ⟨wd_1430, wd_1431, wd_0, wd_1432⟩
theorem wv_1999 : wdV "KeptWellLaw" 270 yX12_villageEdge cX12_villageEdge 3 (some .int) := ⟨wd_1999, wd_2000, wd_2001, wd_14, wd_2002⟩
theorem yd_X12_village : ydN yX12_village 1 := ⟨by decide, by decide, by decide +kernel⟩
theorem yd_L_village : ydN yL_village 3 := ⟨by decide, by decide, by decide +kernel⟩
theorem wv_1443 : wdH "KeptWellLaw" 271 yL_village cL_village 4 (some .int) [(0, 9, 12, 35)] := ⟨wd_1443, wd_1444, wd_0, wd_1445⟩
theorem wv_2007 : wdV "KeptWellLaw" 273 yX12_village cX12_village 5 (some .int) := ⟨wd_2007, wd_2008, wd_2009, wd_14, wd_2010⟩
theorem yd_X12_image : ydN yX12_image 0 := ⟨by decide, by decide, by decide +kernel⟩
theorem yd_X11_image : ydN yX11_image 0 := ⟨by decide, by decide, by decide +kernel⟩
theorem wv_616 : wdV "KeptWellLaw" 274 yX11_image cX11_image 1 none := ⟨wd_616, wd_617, wd_618, wd_1, wd_619⟩
theorem wv_1605 : wdV "KeptWellLaw" 277 yX12_image cX12_image 2 none := ⟨wd_1605, wd_1606, wd_1607, wd_14, wd_1608⟩
theorem yd_X12_back : ydN yX12_back 0 := ⟨by decide, by decide, by decide +kernel⟩
theorem yd_X11_back : ydN yX11_back 0 := ⟨by decide, by decide, by decide +kernel⟩
theorem wv_629 : wdV "KeptWellLaw" 278 yX11_back cX11_back 1 (some .boolean) := ⟨wd_629, wd_630, wd_631, wd_1, wd_632⟩
theorem wv_1609 : wdV "KeptWellLaw" 282 yX12_back cX12_back 2 (some .boolean) := ⟨wd_1609, wd_1610, wd_1611, wd_14, wd_1612⟩
theorem yd_X11_count : ydN yX11_count 1 := ⟨by decide, by decide, by decide +kernel⟩
theorem yd_X12_count : ydN yX12_count 1 := ⟨by decide, by decide, by decide +kernel⟩
theorem wv_633 : wdV "KeptWellLaw" 283 yX11_count cX11_count 2 (some .int) := ⟨wd_633, wd_634, wd_635, wd_1, wd_636⟩
theorem wv_2019 : wdV "KeptWellLaw" 286 yX12_count cX12_count 4 (some .int) := ⟨wd_2019, wd_2020, wd_2021, wd_14, wd_2022⟩
def F_LAWc_0 (xs : Nat → Int32) (L : Nat) (x4 : Int32) (M : Mem) : Option Mem :=
  if inb (x4 + 1) L then if inb (x4 + 2) L then if inb (x4 + 3) L then if inb (x4 + 4) L then if inb (x4 + 5) L then (F_KW_feed (xs (x4 + 1).toNatClampNeg) (xs (x4 + 2).toNatClampNeg) (xs (x4 + 3).toNatClampNeg) (xs (x4 + 4).toNatClampNeg) (xs (x4 + 5).toNatClampNeg) M).bind fun r1 => if inb (x4 + 1) L then if inb (x4 + 2) L then if inb (x4 + 3) L then if inb (x4 + 4) L then if inb (x4 + 5) L then (F_MO_feed (xs (x4 + 1).toNatClampNeg) (xs (x4 + 2).toNatClampNeg) (xs (x4 + 3).toNatClampNeg) (xs (x4 + 4).toNatClampNeg) (xs (x4 + 5).toNatClampNeg) r1.2).bind fun r2 => if r1.1 = r2.1 then some r2.2 else none else none else none else none else none else none else none else none else none else none else none
set_option maxRecDepth 100000 in
set_option maxHeartbeats 8000000 in
theorem K_LAWc_0 {p : Program} {l : Launch} {e : Env} {s : State} {m : MethodId} {args : Array Value} {below : List Frame} {meth : Method} {c : Code} {g : GB} {Q : State → Prop} {b L : Nat} {xs : Nat → Int32} (K : KF p l s m args meth c g code 8 "KeptWellLaw") (htr : l.stackTraces = false) (hX : va_X b L xs s s.heap) (hbl : b < s.heap.size) (hbA : ¬ AS g s.heap.size b) (C S : Nat) (hC : C + 8 ≤ 600002) (hS : S + 48 ≤ 7302231) (x4 : Int32) (M : Mem) (PHI : Mem → Prop) (hnext : ∀ M, PHI M → GG p l e room_1 s m args below meth c g 8 Q (C + 8) (S + 48) 2782 [(0, .ref b), (1, .ref (g.2.1 0)), (2, .ref (g.2.1 94)), (3, .ref (g.2.1 121)), (4, .int x4)] [] M) (h : wpO (F_LAWc_0 xs L x4 M) PHI) : GG p l e room_1 s m args below meth c g 8 Q C S 220 [(0, .ref b), (1, .ref (g.2.1 0)), (2, .ref (g.2.1 94)), (3, .ref (g.2.1 121)), (4, .int x4)] [] M := by
  unfold F_LAWc_0 at h
  refine G_aload_n rfl 1 rfl K dL_220 ?_
  refine G_aload_n rfl 0 rfl K dL_221 ?_
  refine G_iload 4 rfl K dL_222 ?_
  refine G_iconst (v := 1) rfl K dL_224 ?_
  refine G_iadd K dL_225 ?_
  obtain ⟨hin, h⟩ := wpO_g h
  refine G_sld K hX hbl hbA dL_226 hin ?_
  refine G_aload_n rfl 0 rfl K dL_227 ?_
  refine G_iload 4 rfl K dL_228 ?_
  refine G_iconst (v := 2) rfl K dL_230 ?_
  refine G_iadd K dL_231 ?_
  obtain ⟨hin, h⟩ := wpO_g h
  refine G_sld K hX hbl hbA dL_232 hin ?_
  refine G_aload_n rfl 0 rfl K dL_233 ?_
  refine G_iload 4 rfl K dL_234 ?_
  refine G_iconst (v := 3) rfl K dL_236 ?_
  refine G_iadd K dL_237 ?_
  obtain ⟨hin, h⟩ := wpO_g h
  refine G_sld K hX hbl hbA dL_238 hin ?_
  refine G_aload_n rfl 0 rfl K dL_239 ?_
  refine G_iload 4 rfl K dL_240 ?_
  refine G_iconst (v := 4) rfl K dL_242 ?_
  refine G_iadd K dL_243 ?_
  obtain ⟨hin, h⟩ := wpO_g h
  refine G_sld K hX hbl hbA dL_244 hin ?_
  refine G_aload_n rfl 0 rfl K dL_245 ?_
  refine G_iload 4 rfl K dL_246 ?_
  refine G_iconst (v := 5) rfl K dL_248 ?_
  refine G_iadd K dL_249 ?_
  obtain ⟨hin, h⟩ := wpO_g h
  refine G_sld K hX hbl hbA dL_250 hin ?_
  obtain ⟨r1, e1, h⟩ := wpO_bind h
  refine G_callVi (ci := 11) [.int (xs (x4 + 1).toNatClampNeg), .int (xs (x4 + 2).toNatClampNeg), .int (xs (x4 + 3).toNatClampNeg), .int (xs (x4 + 4).toNatClampNeg), .int (xs (x4 + 5).toNatClampNeg)] [] K dL_251 wv_439 yd_X11_feed (Nat.le_of_ble_eq_true rfl) (sh_0 _ _) rfl (by decide) ⟨by show C + 0 + 0 ≤ 600002; omega, by show S + 0 + 0 ≤ 7302231; omega⟩ rfl rfl (Nat.le_of_ble_eq_true rfl) (K_KW_feed l g htr (xs (x4 + 1).toNatClampNeg) (xs (x4 + 2).toNatClampNeg) (xs (x4 + 3).toNatClampNeg) (xs (x4 + 4).toNatClampNeg) (xs (x4 + 5).toNatClampNeg) M _ _ e1) ?_
  refine G_aload_n rfl 2 rfl K dL_254 ?_
  refine G_aload_n rfl 0 rfl K dL_255 ?_
  refine G_iload 4 rfl K dL_256 ?_
  refine G_iconst (v := 1) rfl K dL_258 ?_
  refine G_iadd K dL_259 ?_
  obtain ⟨hin, h⟩ := wpO_g h
  refine G_sld K hX hbl hbA dL_260 hin ?_
  refine G_aload_n rfl 0 rfl K dL_261 ?_
  refine G_iload 4 rfl K dL_262 ?_
  refine G_iconst (v := 2) rfl K dL_264 ?_
  refine G_iadd K dL_265 ?_
  obtain ⟨hin, h⟩ := wpO_g h
  refine G_sld K hX hbl hbA dL_266 hin ?_
  refine G_aload_n rfl 0 rfl K dL_267 ?_
  refine G_iload 4 rfl K dL_268 ?_
  refine G_iconst (v := 3) rfl K dL_270 ?_
  refine G_iadd K dL_271 ?_
  obtain ⟨hin, h⟩ := wpO_g h
  refine G_sld K hX hbl hbA dL_272 hin ?_
  refine G_aload_n rfl 0 rfl K dL_273 ?_
  refine G_iload 4 rfl K dL_274 ?_
  refine G_iconst (v := 4) rfl K dL_276 ?_
  refine G_iadd K dL_277 ?_
  obtain ⟨hin, h⟩ := wpO_g h
  refine G_sld K hX hbl hbA dL_278 hin ?_
  refine G_aload_n rfl 0 rfl K dL_279 ?_
  refine G_iload 4 rfl K dL_280 ?_
  refine G_iconst (v := 5) rfl K dL_282 ?_
  refine G_iadd K dL_283 ?_
  obtain ⟨hin, h⟩ := wpO_g h
  refine G_sld K hX hbl hbA dL_284 hin ?_
  obtain ⟨r2, e2, h⟩ := wpO_bind h
  refine G_callVi (ci := 12) [.int (xs (x4 + 1).toNatClampNeg), .int (xs (x4 + 2).toNatClampNeg), .int (xs (x4 + 3).toNatClampNeg), .int (xs (x4 + 4).toNatClampNeg), .int (xs (x4 + 5).toNatClampNeg)] [.int r1.1] K dL_285 wv_1640 yd_X12_feed (Nat.le_of_ble_eq_true rfl) (sh_94 _ _) rfl (by decide) ⟨by show C + 0 + 0 ≤ 600002; omega, by show S + 0 + 0 ≤ 7302231; omega⟩ rfl rfl (Nat.le_of_ble_eq_true rfl) (K_MO_feed l g htr (xs (x4 + 1).toNatClampNeg) (xs (x4 + 2).toNatClampNeg) (xs (x4 + 3).toNatClampNeg) (xs (x4 + 4).toNatClampNeg) (xs (x4 + 5).toNatClampNeg) r1.2 _ _ e2) ?_
  refine G_icmp_eq (tgt := 2782) K dL_288 (by decide) (fun hc => ?_) (fun hc => ?_)
  · have h := wpO_t h hc
    exact G_wide (k := C + 8) (n := S + 48) (by show C + 0 ≤ C + 8; omega) (by show S + 0 ≤ S + 48; omega) (hnext r2.2 (wpO_some h))
  · have h := wpO_f h hc
    refine G_iconst (v := 0) rfl K dL_291 ?_
    exact wpO_none h
def F_LAWc_1 (xs : Nat → Int32) (L : Nat) (x4 : Int32) (M : Mem) : Option Mem :=
  if inb (x4 + 1) L then (F_KW_end (xs (x4 + 1).toNatClampNeg) M).bind fun r1 => if inb (x4 + 1) L then (F_MO_end (xs (x4 + 1).toNatClampNeg) r1.2).bind fun r2 => if ((b2i r1.1)) = ((b2i r2.1)) then some r2.2 else none else none else none
set_option maxRecDepth 100000 in
set_option maxHeartbeats 8000000 in
theorem K_LAWc_1 {p : Program} {l : Launch} {e : Env} {s : State} {m : MethodId} {args : Array Value} {below : List Frame} {meth : Method} {c : Code} {g : GB} {Q : State → Prop} {b L : Nat} {xs : Nat → Int32} (K : KF p l s m args meth c g code 8 "KeptWellLaw") (htr : l.stackTraces = false) (hX : va_X b L xs s s.heap) (hbl : b < s.heap.size) (hbA : ¬ AS g s.heap.size b) (C S : Nat) (hC : C + 8 ≤ 600002) (hS : S + 48 ≤ 7302231) (x4 : Int32) (M : Mem) (PHI : Mem → Prop) (hnext : ∀ M, PHI M → GG p l e room_1 s m args below meth c g 8 Q (C + 8) (S + 48) 2782 [(0, .ref b), (1, .ref (g.2.1 0)), (2, .ref (g.2.1 94)), (3, .ref (g.2.1 121)), (4, .int x4)] [] M) (h : wpO (F_LAWc_1 xs L x4 M) PHI) : GG p l e room_1 s m args below meth c g 8 Q C S 293 [(0, .ref b), (1, .ref (g.2.1 0)), (2, .ref (g.2.1 94)), (3, .ref (g.2.1 121)), (4, .int x4)] [] M := by
  unfold F_LAWc_1 at h
  refine G_aload_n rfl 1 rfl K dL_293 ?_
  refine G_aload_n rfl 0 rfl K dL_294 ?_
  refine G_iload 4 rfl K dL_295 ?_
  refine G_iconst (v := 1) rfl K dL_297 ?_
  refine G_iadd K dL_298 ?_
  obtain ⟨hin, h⟩ := wpO_g h
  refine G_sld K hX hbl hbA dL_299 hin ?_
  obtain ⟨r1, e1, h⟩ := wpO_bind h
  refine G_callVi (ci := 11) [.int (xs (x4 + 1).toNatClampNeg)] [] K dL_300 wv_455 yd_X11_end (Nat.le_of_ble_eq_true rfl) (sh_0 _ _) rfl (by decide) ⟨by show C + 0 + 0 ≤ 600002; omega, by show S + 0 + 0 ≤ 7302231; omega⟩ rfl rfl (Nat.le_of_ble_eq_true rfl) (K_KW_end l g htr (xs (x4 + 1).toNatClampNeg) M _ _ e1) ?_
  refine G_aload_n rfl 2 rfl K dL_303 ?_
  refine G_aload_n rfl 0 rfl K dL_304 ?_
  refine G_iload 4 rfl K dL_305 ?_
  refine G_iconst (v := 1) rfl K dL_307 ?_
  refine G_iadd K dL_308 ?_
  obtain ⟨hin, h⟩ := wpO_g h
  refine G_sld K hX hbl hbA dL_309 hin ?_
  obtain ⟨r2, e2, h⟩ := wpO_bind h
  refine G_callVi (ci := 12) [.int (xs (x4 + 1).toNatClampNeg)] [.int ((b2i r1.1))] K dL_310 wv_1644 yd_X12_end (Nat.le_of_ble_eq_true rfl) (sh_94 _ _) rfl (by decide) ⟨by show C + 0 + 0 ≤ 600002; omega, by show S + 0 + 0 ≤ 7302231; omega⟩ rfl rfl (Nat.le_of_ble_eq_true rfl) (K_MO_end l g htr (xs (x4 + 1).toNatClampNeg) r1.2 _ _ e2) ?_
  refine G_icmp_eq (tgt := 2782) K dL_313 (by decide) (fun hc => ?_) (fun hc => ?_)
  · have h := wpO_t h hc
    exact G_wide (k := C + 8) (n := S + 48) (by show C + 0 ≤ C + 8; omega) (by show S + 0 ≤ S + 48; omega) (hnext r2.2 (wpO_some h))
  · have h := wpO_f h hc
    refine G_iconst (v := 0) rfl K dL_316 ?_
    exact wpO_none h
def F_LAWc_2 (xs : Nat → Int32) (L : Nat) (x4 : Int32) (M : Mem) : Option Mem :=
  if inb (x4 + 1) L then (F_LAW_acts (xs (x4 + 1).toNatClampNeg) M).bind fun r1 => if inb (x4 + 1) L then (F_MO_acts (xs (x4 + 1).toNatClampNeg) r1.2).bind fun r2 => (F_MO_thrown r2).bind fun r3 => if r3 = r1.1 then some r2 else none else none else none
set_option maxRecDepth 100000 in
set_option maxHeartbeats 8000000 in
theorem K_LAWc_2 {p : Program} {l : Launch} {e : Env} {s : State} {m : MethodId} {args : Array Value} {below : List Frame} {meth : Method} {c : Code} {g : GB} {Q : State → Prop} {b L : Nat} {xs : Nat → Int32} (K : KF p l s m args meth c g code 8 "KeptWellLaw") (htr : l.stackTraces = false) (hX : va_X b L xs s s.heap) (hbl : b < s.heap.size) (hbA : ¬ AS g s.heap.size b) (C S : Nat) (hC : C + 8 ≤ 600002) (hS : S + 48 ≤ 7302231) (x4 : Int32) (M : Mem) (PHI : Mem → Prop) (hnext : ∀ M, PHI M → GG p l e room_1 s m args below meth c g 8 Q (C + 8) (S + 48) 2782 [(0, .ref b), (1, .ref (g.2.1 0)), (2, .ref (g.2.1 94)), (3, .ref (g.2.1 121)), (4, .int x4)] [] M) (h : wpO (F_LAWc_2 xs L x4 M) PHI) : GG p l e room_1 s m args below meth c g 8 Q C S 318 [(0, .ref b), (1, .ref (g.2.1 0)), (2, .ref (g.2.1 94)), (3, .ref (g.2.1 121)), (4, .int x4)] [] M := by
  unfold F_LAWc_2 at h
  refine G_aload_n rfl 1 rfl K dL_318 ?_
  refine G_aload_n rfl 0 rfl K dL_319 ?_
  refine G_iload 4 rfl K dL_320 ?_
  refine G_iconst (v := 1) rfl K dL_322 ?_
  refine G_iadd K dL_323 ?_
  obtain ⟨hin, h⟩ := wpO_g h
  refine G_sld K hX hbl hbA dL_324 hin ?_
  obtain ⟨r1, e1, h⟩ := wpO_bind h
  refine G_callH [.ref (g.2.1 0), .int (xs (x4 + 1).toNatClampNeg)] [] K dL_325 wv_646 yd_L_acts (by decide) ⟨by show C + 0 + 1 ≤ 600002; omega, by show S + 0 + 6 ≤ 7302231; omega⟩ rfl rfl (Nat.le_of_ble_eq_true rfl) (K_LAW_acts l g htr (xs (x4 + 1).toNatClampNeg) M _ _ e1) ?_
  refine G_istore K dL_328 (Nat.le_of_ble_eq_true rfl) rfl ?_
  refine G_aload_n rfl 3 rfl K dL_330 ?_
  refine G_aload_n rfl 1 rfl K dL_331 ?_
  refine G_iload 5 rfl K dL_332 ?_
  refine G_iconst (v := 1) rfl K dL_334 ?_
  refine G_iadd K dL_335 ?_
  obtain ⟨hin, h⟩ := wpO_g h
  refine G_sld K hX hbl hbA dL_336 hin ?_
  obtain ⟨r2, e2, h⟩ := wpO_bind h
  refine G_callVv (ci := 12) [.int (xs (x4 + 1).toNatClampNeg)] [] K dL_337 wv_1613 yd_X12_acts (Nat.le_of_ble_eq_true rfl) (sh_94 _ _) rfl (by decide) ⟨by show C + 1 + 0 ≤ 600002; omega, by show S + 6 + 0 ≤ 7302231; omega⟩ rfl rfl (Nat.le_of_ble_eq_true rfl) (K_MO_acts l g htr (xs (x4 + 1).toNatClampNeg) r1.2 _ e2) ?_
  refine G_aload_n rfl 3 rfl K dL_340 ?_
  obtain ⟨r3, e3, h⟩ := wpO_bind h
  refine G_callVi (ci := 12) [] [] K dL_341 wv_1470 yd_X12_thrown (Nat.le_of_ble_eq_true rfl) (sh_94 _ _) rfl (by decide) ⟨by show C + 1 + 0 ≤ 600002; omega, by show S + 6 + 0 ≤ 7302231; omega⟩ rfl rfl (Nat.le_of_ble_eq_true rfl) (K_MO_thrown l g htr  r2 _ e3) ?_
  refine G_iload 0 rfl K dL_344 ?_
  refine G_icmp_eq (tgt := 351) K dL_346 (by decide) (fun hc => ?_) (fun hc => ?_)
  · have h := wpO_t h hc
    refine G_goto (tgt := 2782) K dL_351 (by decide) ?_
    exact G_wide (k := C + 8) (n := S + 48) (by show C + 1 ≤ C + 8; omega) (by show S + 6 ≤ S + 48; omega) (G_lv (lv' := [(0, .ref b), (1, .ref (g.2.1 0)), (2, .ref (g.2.1 94)), (3, .ref (g.2.1 121)), (4, .int x4)]) [1, 2, 3, 4, 5] rfl (hnext r2 (wpO_some h)))
  · have h := wpO_f h hc
    refine G_iconst (v := 0) rfl K dL_349 ?_
    exact wpO_none h
def F_LAWc_3 (xs : Nat → Int32) (L : Nat) (x4 : Int32) (M : Mem) : Option Mem :=
  if inb (x4 + 1) L then if inb (x4 + 2) L then if inb (x4 + 3) L then if inb (x4 + 4) L then (F_LAW_bring (xs (x4 + 1).toNatClampNeg) (xs (x4 + 2).toNatClampNeg) (xs (x4 + 3).toNatClampNeg) (xs (x4 + 4).toNatClampNeg) M).bind fun r1 => if inb (x4 + 1) L then if inb (x4 + 2) L then if inb (x4 + 3) L then if inb (x4 + 4) L then (F_MO_bring (xs (x4 + 1).toNatClampNeg) (xs (x4 + 2).toNatClampNeg) (xs (x4 + 3).toNatClampNeg) (xs (x4 + 4).toNatClampNeg) r1.2).bind fun r2 => (F_MO_thrown r2).bind fun r3 => if r3 = r1.1 then some r2 else none else none else none else none else none else none else none else none else none
set_option maxRecDepth 100000 in
set_option maxHeartbeats 8000000 in
theorem K_LAWc_3 {p : Program} {l : Launch} {e : Env} {s : State} {m : MethodId} {args : Array Value} {below : List Frame} {meth : Method} {c : Code} {g : GB} {Q : State → Prop} {b L : Nat} {xs : Nat → Int32} (K : KF p l s m args meth c g code 8 "KeptWellLaw") (htr : l.stackTraces = false) (hX : va_X b L xs s s.heap) (hbl : b < s.heap.size) (hbA : ¬ AS g s.heap.size b) (C S : Nat) (hC : C + 8 ≤ 600002) (hS : S + 48 ≤ 7302231) (x4 : Int32) (M : Mem) (PHI : Mem → Prop) (hnext : ∀ M, PHI M → GG p l e room_1 s m args below meth c g 8 Q (C + 8) (S + 48) 2782 [(0, .ref b), (1, .ref (g.2.1 0)), (2, .ref (g.2.1 94)), (3, .ref (g.2.1 121)), (4, .int x4)] [] M) (h : wpO (F_LAWc_3 xs L x4 M) PHI) : GG p l e room_1 s m args below meth c g 8 Q C S 354 [(0, .ref b), (1, .ref (g.2.1 0)), (2, .ref (g.2.1 94)), (3, .ref (g.2.1 121)), (4, .int x4)] [] M := by
  unfold F_LAWc_3 at h
  refine G_aload_n rfl 1 rfl K dL_354 ?_
  refine G_aload_n rfl 0 rfl K dL_355 ?_
  refine G_iload 4 rfl K dL_356 ?_
  refine G_iconst (v := 1) rfl K dL_358 ?_
  refine G_iadd K dL_359 ?_
  obtain ⟨hin, h⟩ := wpO_g h
  refine G_sld K hX hbl hbA dL_360 hin ?_
  refine G_aload_n rfl 0 rfl K dL_361 ?_
  refine G_iload 4 rfl K dL_362 ?_
  refine G_iconst (v := 2) rfl K dL_364 ?_
  refine G_iadd K dL_365 ?_
  obtain ⟨hin, h⟩ := wpO_g h
  refine G_sld K hX hbl hbA dL_366 hin ?_
  refine G_aload_n rfl 0 rfl K dL_367 ?_
  refine G_iload 4 rfl K dL_368 ?_
  refine G_iconst (v := 3) rfl K dL_370 ?_
  refine G_iadd K dL_371 ?_
  obtain ⟨hin, h⟩ := wpO_g h
  refine G_sld K hX hbl hbA dL_372 hin ?_
  refine G_aload_n rfl 0 rfl K dL_373 ?_
  refine G_iload 4 rfl K dL_374 ?_
  refine G_iconst (v := 4) rfl K dL_376 ?_
  refine G_iadd K dL_377 ?_
  obtain ⟨hin, h⟩ := wpO_g h
  refine G_sld K hX hbl hbA dL_378 hin ?_
  obtain ⟨r1, e1, h⟩ := wpO_bind h
  refine G_callH [.ref (g.2.1 0), .int (xs (x4 + 1).toNatClampNeg), .int (xs (x4 + 2).toNatClampNeg), .int (xs (x4 + 3).toNatClampNeg), .int (xs (x4 + 4).toNatClampNeg)] [] K dL_379 wv_723 yd_L_bring (by decide) ⟨by show C + 0 + 4 ≤ 600002; omega, by show S + 0 + 24 ≤ 7302231; omega⟩ rfl rfl (Nat.le_of_ble_eq_true rfl) (K_LAW_bring l g htr (xs (x4 + 1).toNatClampNeg) (xs (x4 + 2).toNatClampNeg) (xs (x4 + 3).toNatClampNeg) (xs (x4 + 4).toNatClampNeg) M _ _ e1) ?_
  refine G_istore K dL_382 (Nat.le_of_ble_eq_true rfl) rfl ?_
  refine G_aload_n rfl 3 rfl K dL_384 ?_
  refine G_aload_n rfl 1 rfl K dL_385 ?_
  refine G_iload 5 rfl K dL_386 ?_
  refine G_iconst (v := 1) rfl K dL_388 ?_
  refine G_iadd K dL_389 ?_
  obtain ⟨hin, h⟩ := wpO_g h
  refine G_sld K hX hbl hbA dL_390 hin ?_
  refine G_aload_n rfl 1 rfl K dL_391 ?_
  refine G_iload 5 rfl K dL_392 ?_
  refine G_iconst (v := 2) rfl K dL_394 ?_
  refine G_iadd K dL_395 ?_
  obtain ⟨hin, h⟩ := wpO_g h
  refine G_sld K hX hbl hbA dL_396 hin ?_
  refine G_aload_n rfl 1 rfl K dL_397 ?_
  refine G_iload 5 rfl K dL_398 ?_
  refine G_iconst (v := 3) rfl K dL_400 ?_
  refine G_iadd K dL_401 ?_
  obtain ⟨hin, h⟩ := wpO_g h
  refine G_sld K hX hbl hbA dL_402 hin ?_
  refine G_aload_n rfl 1 rfl K dL_403 ?_
  refine G_iload 5 rfl K dL_404 ?_
  refine G_iconst (v := 4) rfl K dL_406 ?_
  refine G_iadd K dL_407 ?_
  obtain ⟨hin, h⟩ := wpO_g h
  refine G_sld K hX hbl hbA dL_408 hin ?_
  obtain ⟨r2, e2, h⟩ := wpO_bind h
  refine G_callVv (ci := 12) [.int (xs (x4 + 1).toNatClampNeg), .int (xs (x4 + 2).toNatClampNeg), .int (xs (x4 + 3).toNatClampNeg), .int (xs (x4 + 4).toNatClampNeg)] [] K dL_409 wv_1624 yd_X12_bring (Nat.le_of_ble_eq_true rfl) (sh_94 _ _) rfl (by decide) ⟨by show C + 4 + 0 ≤ 600002; omega, by show S + 24 + 0 ≤ 7302231; omega⟩ rfl rfl (Nat.le_of_ble_eq_true rfl) (K_MO_bring l g htr (xs (x4 + 1).toNatClampNeg) (xs (x4 + 2).toNatClampNeg) (xs (x4 + 3).toNatClampNeg) (xs (x4 + 4).toNatClampNeg) r1.2 _ e2) ?_
  refine G_aload_n rfl 3 rfl K dL_412 ?_
  obtain ⟨r3, e3, h⟩ := wpO_bind h
  refine G_callVi (ci := 12) [] [] K dL_413 wv_1470 yd_X12_thrown (Nat.le_of_ble_eq_true rfl) (sh_94 _ _) rfl (by decide) ⟨by show C + 4 + 0 ≤ 600002; omega, by show S + 24 + 0 ≤ 7302231; omega⟩ rfl rfl (Nat.le_of_ble_eq_true rfl) (K_MO_thrown l g htr  r2 _ e3) ?_
  refine G_iload 0 rfl K dL_416 ?_
  refine G_icmp_eq (tgt := 423) K dL_418 (by decide) (fun hc => ?_) (fun hc => ?_)
  · have h := wpO_t h hc
    refine G_goto (tgt := 2782) K dL_423 (by decide) ?_
    exact G_wide (k := C + 8) (n := S + 48) (by show C + 4 ≤ C + 8; omega) (by show S + 24 ≤ S + 48; omega) (G_lv (lv' := [(0, .ref b), (1, .ref (g.2.1 0)), (2, .ref (g.2.1 94)), (3, .ref (g.2.1 121)), (4, .int x4)]) [1, 2, 3, 4, 5] rfl (hnext r2 (wpO_some h)))
  · have h := wpO_f h hc
    refine G_iconst (v := 0) rfl K dL_421 ?_
    exact wpO_none h
def F_LAWc_4 (xs : Nat → Int32) (L : Nat) (x4 : Int32) (M : Mem) : Option Mem :=
  if inb (x4 + 1) L then if inb (x4 + 2) L then (F_LAW_tomorrow (xs (x4 + 1).toNatClampNeg) (xs (x4 + 2).toNatClampNeg) M).bind fun r1 => if inb (x4 + 1) L then if inb (x4 + 2) L then (F_MO_tomorrow (xs (x4 + 1).toNatClampNeg) (xs (x4 + 2).toNatClampNeg) r1.2).bind fun r2 => (F_MO_thrown r2).bind fun r3 => if r3 = r1.1 then some r2 else none else none else none else none else none
set_option maxRecDepth 100000 in
set_option maxHeartbeats 8000000 in
theorem K_LAWc_4 {p : Program} {l : Launch} {e : Env} {s : State} {m : MethodId} {args : Array Value} {below : List Frame} {meth : Method} {c : Code} {g : GB} {Q : State → Prop} {b L : Nat} {xs : Nat → Int32} (K : KF p l s m args meth c g code 8 "KeptWellLaw") (htr : l.stackTraces = false) (hX : va_X b L xs s s.heap) (hbl : b < s.heap.size) (hbA : ¬ AS g s.heap.size b) (C S : Nat) (hC : C + 8 ≤ 600002) (hS : S + 48 ≤ 7302231) (x4 : Int32) (M : Mem) (PHI : Mem → Prop) (hnext : ∀ M, PHI M → GG p l e room_1 s m args below meth c g 8 Q (C + 8) (S + 48) 2782 [(0, .ref b), (1, .ref (g.2.1 0)), (2, .ref (g.2.1 94)), (3, .ref (g.2.1 121)), (4, .int x4)] [] M) (h : wpO (F_LAWc_4 xs L x4 M) PHI) : GG p l e room_1 s m args below meth c g 8 Q C S 426 [(0, .ref b), (1, .ref (g.2.1 0)), (2, .ref (g.2.1 94)), (3, .ref (g.2.1 121)), (4, .int x4)] [] M := by
  unfold F_LAWc_4 at h
  refine G_aload_n rfl 1 rfl K dL_426 ?_
  refine G_aload_n rfl 0 rfl K dL_427 ?_
  refine G_iload 4 rfl K dL_428 ?_
  refine G_iconst (v := 1) rfl K dL_430 ?_
  refine G_iadd K dL_431 ?_
  obtain ⟨hin, h⟩ := wpO_g h
  refine G_sld K hX hbl hbA dL_432 hin ?_
  refine G_aload_n rfl 0 rfl K dL_433 ?_
  refine G_iload 4 rfl K dL_434 ?_
  refine G_iconst (v := 2) rfl K dL_436 ?_
  refine G_iadd K dL_437 ?_
  obtain ⟨hin, h⟩ := wpO_g h
  refine G_sld K hX hbl hbA dL_438 hin ?_
  obtain ⟨r1, e1, h⟩ := wpO_bind h
  refine G_callH [.ref (g.2.1 0), .int (xs (x4 + 1).toNatClampNeg), .int (xs (x4 + 2).toNatClampNeg)] [] K dL_439 wv_755 yd_L_tomorrow (by decide) ⟨by show C + 0 + 2 ≤ 600002; omega, by show S + 0 + 12 ≤ 7302231; omega⟩ rfl rfl (Nat.le_of_ble_eq_true rfl) (K_LAW_tomorrow l g htr (xs (x4 + 1).toNatClampNeg) (xs (x4 + 2).toNatClampNeg) M _ _ e1) ?_
  refine G_istore K dL_442 (Nat.le_of_ble_eq_true rfl) rfl ?_
  refine G_aload_n rfl 3 rfl K dL_444 ?_
  refine G_aload_n rfl 1 rfl K dL_445 ?_
  refine G_iload 5 rfl K dL_446 ?_
  refine G_iconst (v := 1) rfl K dL_448 ?_
  refine G_iadd K dL_449 ?_
  obtain ⟨hin, h⟩ := wpO_g h
  refine G_sld K hX hbl hbA dL_450 hin ?_
  refine G_aload_n rfl 1 rfl K dL_451 ?_
  refine G_iload 5 rfl K dL_452 ?_
  refine G_iconst (v := 2) rfl K dL_454 ?_
  refine G_iadd K dL_455 ?_
  obtain ⟨hin, h⟩ := wpO_g h
  refine G_sld K hX hbl hbA dL_456 hin ?_
  obtain ⟨r2, e2, h⟩ := wpO_bind h
  refine G_callVv (ci := 12) [.int (xs (x4 + 1).toNatClampNeg), .int (xs (x4 + 2).toNatClampNeg)] [] K dL_457 wv_1636 yd_X12_tomorrow (Nat.le_of_ble_eq_true rfl) (sh_94 _ _) rfl (by decide) ⟨by show C + 2 + 0 ≤ 600002; omega, by show S + 12 + 0 ≤ 7302231; omega⟩ rfl rfl (Nat.le_of_ble_eq_true rfl) (K_MO_tomorrow l g htr (xs (x4 + 1).toNatClampNeg) (xs (x4 + 2).toNatClampNeg) r1.2 _ e2) ?_
  refine G_aload_n rfl 3 rfl K dL_460 ?_
  obtain ⟨r3, e3, h⟩ := wpO_bind h
  refine G_callVi (ci := 12) [] [] K dL_461 wv_1470 yd_X12_thrown (Nat.le_of_ble_eq_true rfl) (sh_94 _ _) rfl (by decide) ⟨by show C + 2 + 0 ≤ 600002; omega, by show S + 12 + 0 ≤ 7302231; omega⟩ rfl rfl (Nat.le_of_ble_eq_true rfl) (K_MO_thrown l g htr  r2 _ e3) ?_
  refine G_iload 0 rfl K dL_464 ?_
  refine G_icmp_eq (tgt := 471) K dL_466 (by decide) (fun hc => ?_) (fun hc => ?_)
  · have h := wpO_t h hc
    refine G_goto (tgt := 2782) K dL_471 (by decide) ?_
    exact G_wide (k := C + 8) (n := S + 48) (by show C + 2 ≤ C + 8; omega) (by show S + 12 ≤ S + 48; omega) (G_lv (lv' := [(0, .ref b), (1, .ref (g.2.1 0)), (2, .ref (g.2.1 94)), (3, .ref (g.2.1 121)), (4, .int x4)]) [1, 2, 3, 4, 5] rfl (hnext r2 (wpO_some h)))
  · have h := wpO_f h hc
    refine G_iconst (v := 0) rfl K dL_469 ?_
    exact wpO_none h
def F_LAWc_5 (xs : Nat → Int32) (L : Nat) (x4 : Int32) (M : Mem) : Option Mem :=
  (F_LAW_way M).bind fun r1 => (F_MO_way r1.2).bind fun r2 => (F_MO_thrown r2.2).bind fun r3 => if r3 = r1.1 then if r1.1 = 0 then if inb ((0 : Int32)) 1 then if (r2.2.2 121 ((0 : Int32)).toNatClampNeg) = r2.1.toInt64 then some r2.2 else none else none else some r2.2 else none
set_option maxRecDepth 100000 in
set_option maxHeartbeats 8000000 in
theorem K_LAWc_5 {p : Program} {l : Launch} {e : Env} {s : State} {m : MethodId} {args : Array Value} {below : List Frame} {meth : Method} {c : Code} {g : GB} {Q : State → Prop} {b L : Nat} {xs : Nat → Int32} (K : KF p l s m args meth c g code 8 "KeptWellLaw") (htr : l.stackTraces = false) (hX : va_X b L xs s s.heap) (hbl : b < s.heap.size) (hbA : ¬ AS g s.heap.size b) (C S : Nat) (hC : C + 8 ≤ 600002) (hS : S + 48 ≤ 7302231) (x4 : Int32) (M : Mem) (PHI : Mem → Prop) (hnext : ∀ M, PHI M → GG p l e room_1 s m args below meth c g 8 Q (C + 8) (S + 48) 2782 [(0, .ref b), (1, .ref (g.2.1 0)), (2, .ref (g.2.1 94)), (3, .ref (g.2.1 121)), (4, .int x4)] [] M) (h : wpO (F_LAWc_5 xs L x4 M) PHI) : GG p l e room_1 s m args below meth c g 8 Q C S 474 [(0, .ref b), (1, .ref (g.2.1 0)), (2, .ref (g.2.1 94)), (3, .ref (g.2.1 121)), (4, .int x4)] [] M := by
  unfold F_LAWc_5 at h
  refine G_aload_n rfl 1 rfl K dL_474 ?_
  refine G_aload_n rfl 3 rfl K dL_475 ?_
  obtain ⟨r1, e1, h⟩ := wpO_bind h
  refine G_callH [.ref (g.2.1 0), .ref (g.2.1 121)] [] K dL_476 wv_762 yd_L_way (by decide) ⟨by show C + 0 + 1 ≤ 600002; omega, by show S + 0 + 6 ≤ 7302231; omega⟩ rfl rfl (Nat.le_of_ble_eq_true rfl) (K_LAW_way l g htr  M _ _ e1) ?_
  refine G_istore K dL_479 (Nat.le_of_ble_eq_true rfl) rfl ?_
  refine G_aload_n rfl 3 rfl K dL_481 ?_
  obtain ⟨r2, e2, h⟩ := wpO_bind h
  refine G_callVi (ci := 12) [] [] K dL_482 wv_1652 yd_X12_way (Nat.le_of_ble_eq_true rfl) (sh_94 _ _) rfl (by decide) ⟨by show C + 1 + 0 ≤ 600002; omega, by show S + 6 + 0 ≤ 7302231; omega⟩ rfl rfl (Nat.le_of_ble_eq_true rfl) (K_MO_way l g htr  r1.2 _ _ e2) ?_
  refine G_istore K dL_485 (Nat.le_of_ble_eq_true rfl) rfl ?_
  refine G_aload_n rfl 4 rfl K dL_487 ?_
  obtain ⟨r3, e3, h⟩ := wpO_bind h
  refine G_callVi (ci := 12) [] [] K dL_488 wv_1470 yd_X12_thrown (Nat.le_of_ble_eq_true rfl) (sh_94 _ _) rfl (by decide) ⟨by show C + 1 + 0 ≤ 600002; omega, by show S + 6 + 0 ≤ 7302231; omega⟩ rfl rfl (Nat.le_of_ble_eq_true rfl) (K_MO_thrown l g htr  r2.2 _ e3) ?_
  refine G_iload 1 rfl K dL_491 ?_
  refine G_icmp_eq (tgt := 498) K dL_493 (by decide) (fun hc => ?_) (fun hc => ?_)
  · have h := wpO_t h hc
    refine G_iload 1 rfl K dL_498 ?_
    refine G_if_ne (tgt := 515) K dL_500 (by decide) (fun hc => ?_) (fun hc => ?_)
    · have h := wpO_f h hc
      refine G_goto (tgt := 2782) K dL_515 (by decide) ?_
      exact G_wide (k := C + 8) (n := S + 48) (by show C + 1 ≤ C + 8; omega) (by show S + 6 ≤ S + 48; omega) (G_lv (lv' := [(0, .ref b), (1, .ref (g.2.1 0)), (2, .ref (g.2.1 94)), (3, .ref (g.2.1 121)), (4, .int x4)]) [2, 3, 4, 5, 6] rfl (hnext r2.2 (wpO_some h)))
    · have h := wpO_t h hc
      refine G_aload_n rfl 5 rfl K dL_503 ?_
      refine G_iconst (v := 0) rfl K dL_504 ?_
      obtain ⟨hin, h⟩ := wpO_g h
      refine G_lald K dL_505 (Nat.le_of_ble_eq_true rfl) (sh_121 _ _) hin ?_
      refine G_iload 0 rfl K dL_506 ?_
      refine G_i2l K dL_508 ?_
      refine G_lcmp_eq (tgt := 515) K dL_509 dL_510 (by decide) (fun hc => ?_) (fun hc => ?_)
      · have h := wpO_t h hc
        refine G_goto (tgt := 2782) K dL_515 (by decide) ?_
        exact G_wide (k := C + 8) (n := S + 48) (by show C + 1 ≤ C + 8; omega) (by show S + 6 ≤ S + 48; omega) (G_lv (lv' := [(0, .ref b), (1, .ref (g.2.1 0)), (2, .ref (g.2.1 94)), (3, .ref (g.2.1 121)), (4, .int x4)]) [2, 3, 4, 5, 6] rfl (hnext r2.2 (wpO_some h)))
      · have h := wpO_f h hc
        refine G_iconst (v := 0) rfl K dL_513 ?_
        exact wpO_none h
  · have h := wpO_f h hc
    refine G_iconst (v := 0) rfl K dL_496 ?_
    exact wpO_none h
def F_LAWc_6 (xs : Nat → Int32) (L : Nat) (x4 : Int32) (M : Mem) : Option Mem :=
  (F_KW_fault M).bind fun r1 => (F_MO_fault M).bind fun r2 => if r1 = r2.1 then some r2.2 else none
set_option maxRecDepth 100000 in
set_option maxHeartbeats 8000000 in
theorem K_LAWc_6 {p : Program} {l : Launch} {e : Env} {s : State} {m : MethodId} {args : Array Value} {below : List Frame} {meth : Method} {c : Code} {g : GB} {Q : State → Prop} {b L : Nat} {xs : Nat → Int32} (K : KF p l s m args meth c g code 8 "KeptWellLaw") (htr : l.stackTraces = false) (hX : va_X b L xs s s.heap) (hbl : b < s.heap.size) (hbA : ¬ AS g s.heap.size b) (C S : Nat) (hC : C + 8 ≤ 600002) (hS : S + 48 ≤ 7302231) (x4 : Int32) (M : Mem) (PHI : Mem → Prop) (hnext : ∀ M, PHI M → GG p l e room_1 s m args below meth c g 8 Q (C + 8) (S + 48) 2782 [(0, .ref b), (1, .ref (g.2.1 0)), (2, .ref (g.2.1 94)), (3, .ref (g.2.1 121)), (4, .int x4)] [] M) (h : wpO (F_LAWc_6 xs L x4 M) PHI) : GG p l e room_1 s m args below meth c g 8 Q C S 518 [(0, .ref b), (1, .ref (g.2.1 0)), (2, .ref (g.2.1 94)), (3, .ref (g.2.1 121)), (4, .int x4)] [] M := by
  unfold F_LAWc_6 at h
  refine G_aload_n rfl 1 rfl K dL_518 ?_
  obtain ⟨r1, e1, h⟩ := wpO_bind h
  refine G_callVi (ci := 11) [] [] K dL_519 wv_459 yd_X11_fault (Nat.le_of_ble_eq_true rfl) (sh_0 _ _) rfl (by decide) ⟨by show C + 0 + 0 ≤ 600002; omega, by show S + 0 + 0 ≤ 7302231; omega⟩ rfl rfl (Nat.le_of_ble_eq_true rfl) (K_KW_fault l g htr  M _ e1) ?_
  refine G_aload_n rfl 2 rfl K dL_522 ?_
  obtain ⟨r2, e2, h⟩ := wpO_bind h
  refine G_callVi (ci := 12) [] [.int r1] K dL_523 wv_1648 yd_X12_fault (Nat.le_of_ble_eq_true rfl) (sh_94 _ _) rfl (by decide) ⟨by show C + 0 + 0 ≤ 600002; omega, by show S + 0 + 0 ≤ 7302231; omega⟩ rfl rfl (Nat.le_of_ble_eq_true rfl) (K_MO_fault l g htr  M _ _ e2) ?_
  refine G_icmp_eq (tgt := 2782) K dL_526 (by decide) (fun hc => ?_) (fun hc => ?_)
  · have h := wpO_t h hc
    exact G_wide (k := C + 8) (n := S + 48) (by show C + 0 ≤ C + 8; omega) (by show S + 0 ≤ S + 48; omega) (hnext r2.2 (wpO_some h))
  · have h := wpO_f h hc
    refine G_iconst (v := 0) rfl K dL_529 ?_
    exact wpO_none h
def F_LAWc_7 (xs : Nat → Int32) (L : Nat) (x4 : Int32) (M : Mem) : Option Mem :=
  if inb (x4 + 1) L then if inb (x4 + 2) L then if inb (x4 + 3) L then (F_LAW_mood (xs (x4 + 1).toNatClampNeg) (xs (x4 + 2).toNatClampNeg) (xs (x4 + 3).toNatClampNeg) M).bind fun r1 => if inb (x4 + 1) L then if inb (x4 + 2) L then if inb (x4 + 3) L then (F_MO_mood (xs (x4 + 1).toNatClampNeg) (xs (x4 + 2).toNatClampNeg) (xs (x4 + 3).toNatClampNeg) r1.2).bind fun r2 => (F_MO_thrown r2.2).bind fun r3 => if r3 = r1.1 then if r1.1 = 0 then if inb ((0 : Int32)) 1 then if (r2.2.2 121 ((0 : Int32)).toNatClampNeg) = r2.1.toInt64 then some r2.2 else none else none else some r2.2 else none else none else none else none else none else none else none
set_option maxRecDepth 100000 in
set_option maxHeartbeats 8000000 in
theorem K_LAWc_7 {p : Program} {l : Launch} {e : Env} {s : State} {m : MethodId} {args : Array Value} {below : List Frame} {meth : Method} {c : Code} {g : GB} {Q : State → Prop} {b L : Nat} {xs : Nat → Int32} (K : KF p l s m args meth c g code 8 "KeptWellLaw") (htr : l.stackTraces = false) (hX : va_X b L xs s s.heap) (hbl : b < s.heap.size) (hbA : ¬ AS g s.heap.size b) (C S : Nat) (hC : C + 8 ≤ 600002) (hS : S + 48 ≤ 7302231) (x4 : Int32) (M : Mem) (PHI : Mem → Prop) (hnext : ∀ M, PHI M → GG p l e room_1 s m args below meth c g 8 Q (C + 8) (S + 48) 2782 [(0, .ref b), (1, .ref (g.2.1 0)), (2, .ref (g.2.1 94)), (3, .ref (g.2.1 121)), (4, .int x4)] [] M) (h : wpO (F_LAWc_7 xs L x4 M) PHI) : GG p l e room_1 s m args below meth c g 8 Q C S 531 [(0, .ref b), (1, .ref (g.2.1 0)), (2, .ref (g.2.1 94)), (3, .ref (g.2.1 121)), (4, .int x4)] [] M := by
  unfold F_LAWc_7 at h
  refine G_aload_n rfl 1 rfl K dL_531 ?_
  refine G_aload_n rfl 0 rfl K dL_532 ?_
  refine G_iload 4 rfl K dL_533 ?_
  refine G_iconst (v := 1) rfl K dL_535 ?_
  refine G_iadd K dL_536 ?_
  obtain ⟨hin, h⟩ := wpO_g h
  refine G_sld K hX hbl hbA dL_537 hin ?_
  refine G_aload_n rfl 0 rfl K dL_538 ?_
  refine G_iload 4 rfl K dL_539 ?_
  refine G_iconst (v := 2) rfl K dL_541 ?_
  refine G_iadd K dL_542 ?_
  obtain ⟨hin, h⟩ := wpO_g h
  refine G_sld K hX hbl hbA dL_543 hin ?_
  refine G_aload_n rfl 0 rfl K dL_544 ?_
  refine G_iload 4 rfl K dL_545 ?_
  refine G_iconst (v := 3) rfl K dL_547 ?_
  refine G_iadd K dL_548 ?_
  obtain ⟨hin, h⟩ := wpO_g h
  refine G_sld K hX hbl hbA dL_549 hin ?_
  refine G_aload_n rfl 3 rfl K dL_550 ?_
  obtain ⟨r1, e1, h⟩ := wpO_bind h
  refine G_callH [.ref (g.2.1 0), .int (xs (x4 + 1).toNatClampNeg), .int (xs (x4 + 2).toNatClampNeg), .int (xs (x4 + 3).toNatClampNeg), .ref (g.2.1 121)] [] K dL_551 wv_890 yd_L_mood (by decide) ⟨by show C + 0 + 3 ≤ 600002; omega, by show S + 0 + 18 ≤ 7302231; omega⟩ rfl rfl (Nat.le_of_ble_eq_true rfl) (K_LAW_mood l g htr (xs (x4 + 1).toNatClampNeg) (xs (x4 + 2).toNatClampNeg) (xs (x4 + 3).toNatClampNeg) M _ _ e1) ?_
  refine G_istore K dL_554 (Nat.le_of_ble_eq_true rfl) rfl ?_
  refine G_aload_n rfl 3 rfl K dL_556 ?_
  refine G_aload_n rfl 1 rfl K dL_557 ?_
  refine G_iload 5 rfl K dL_558 ?_
  refine G_iconst (v := 1) rfl K dL_560 ?_
  refine G_iadd K dL_561 ?_
  obtain ⟨hin, h⟩ := wpO_g h
  refine G_sld K hX hbl hbA dL_562 hin ?_
  refine G_aload_n rfl 1 rfl K dL_563 ?_
  refine G_iload 5 rfl K dL_564 ?_
  refine G_iconst (v := 2) rfl K dL_566 ?_
  refine G_iadd K dL_567 ?_
  obtain ⟨hin, h⟩ := wpO_g h
  refine G_sld K hX hbl hbA dL_568 hin ?_
  refine G_aload_n rfl 1 rfl K dL_569 ?_
  refine G_iload 5 rfl K dL_570 ?_
  refine G_iconst (v := 3) rfl K dL_572 ?_
  refine G_iadd K dL_573 ?_
  obtain ⟨hin, h⟩ := wpO_g h
  refine G_sld K hX hbl hbA dL_574 hin ?_
  obtain ⟨r2, e2, h⟩ := wpO_bind h
  refine G_callVi (ci := 12) [.int (xs (x4 + 1).toNatClampNeg), .int (xs (x4 + 2).toNatClampNeg), .int (xs (x4 + 3).toNatClampNeg)] [] K dL_575 wv_1705 yd_X12_mood (Nat.le_of_ble_eq_true rfl) (sh_94 _ _) rfl (by decide) ⟨by show C + 3 + 0 ≤ 600002; omega, by show S + 18 + 0 ≤ 7302231; omega⟩ rfl rfl (Nat.le_of_ble_eq_true rfl) (K_MO_mood l g htr (xs (x4 + 1).toNatClampNeg) (xs (x4 + 2).toNatClampNeg) (xs (x4 + 3).toNatClampNeg) r1.2 _ _ e2) ?_
  refine G_istore K dL_578 (Nat.le_of_ble_eq_true rfl) rfl ?_
  refine G_aload_n rfl 4 rfl K dL_580 ?_
  obtain ⟨r3, e3, h⟩ := wpO_bind h
  refine G_callVi (ci := 12) [] [] K dL_581 wv_1470 yd_X12_thrown (Nat.le_of_ble_eq_true rfl) (sh_94 _ _) rfl (by decide) ⟨by show C + 3 + 0 ≤ 600002; omega, by show S + 18 + 0 ≤ 7302231; omega⟩ rfl rfl (Nat.le_of_ble_eq_true rfl) (K_MO_thrown l g htr  r2.2 _ e3) ?_
  refine G_iload 1 rfl K dL_584 ?_
  refine G_icmp_eq (tgt := 591) K dL_586 (by decide) (fun hc => ?_) (fun hc => ?_)
  · have h := wpO_t h hc
    refine G_iload 1 rfl K dL_591 ?_
    refine G_if_ne (tgt := 608) K dL_593 (by decide) (fun hc => ?_) (fun hc => ?_)
    · have h := wpO_f h hc
      refine G_goto (tgt := 2782) K dL_608 (by decide) ?_
      exact G_wide (k := C + 8) (n := S + 48) (by show C + 3 ≤ C + 8; omega) (by show S + 18 ≤ S + 48; omega) (G_lv (lv' := [(0, .ref b), (1, .ref (g.2.1 0)), (2, .ref (g.2.1 94)), (3, .ref (g.2.1 121)), (4, .int x4)]) [2, 3, 4, 5, 6] rfl (hnext r2.2 (wpO_some h)))
    · have h := wpO_t h hc
      refine G_aload_n rfl 5 rfl K dL_596 ?_
      refine G_iconst (v := 0) rfl K dL_597 ?_
      obtain ⟨hin, h⟩ := wpO_g h
      refine G_lald K dL_598 (Nat.le_of_ble_eq_true rfl) (sh_121 _ _) hin ?_
      refine G_iload 0 rfl K dL_599 ?_
      refine G_i2l K dL_601 ?_
      refine G_lcmp_eq (tgt := 608) K dL_602 dL_603 (by decide) (fun hc => ?_) (fun hc => ?_)
      · have h := wpO_t h hc
        refine G_goto (tgt := 2782) K dL_608 (by decide) ?_
        exact G_wide (k := C + 8) (n := S + 48) (by show C + 3 ≤ C + 8; omega) (by show S + 18 ≤ S + 48; omega) (G_lv (lv' := [(0, .ref b), (1, .ref (g.2.1 0)), (2, .ref (g.2.1 94)), (3, .ref (g.2.1 121)), (4, .int x4)]) [2, 3, 4, 5, 6] rfl (hnext r2.2 (wpO_some h)))
      · have h := wpO_f h hc
        refine G_iconst (v := 0) rfl K dL_606 ?_
        exact wpO_none h
  · have h := wpO_f h hc
    refine G_iconst (v := 0) rfl K dL_589 ?_
    exact wpO_none h
def F_LAWc_8_j709 (xs : Nat → Int32) (L : Nat) (x4 : Int32) (x5 : Int32) (s1 : Int32) (s2 : Int32) (s3 : Int32) (s4 : Int32) (s5 : Int32) (s6 : Bool) (M : Mem) : Option (Mem) :=
  (F_MO_worth s1 s2 s3 s4 s5 ((b2i s6)) M).bind fun r2 => (F_MO_thrown r2.2).bind fun r3 => if r3 = x5 then if x5 = 0 then if inb ((0 : Int32)) 1 then if (r2.2.2 121 ((0 : Int32)).toNatClampNeg) = r2.1 then some r2.2 else none else none else some r2.2 else none
def F_LAWc_8_j657 (xs : Nat → Int32) (L : Nat) (x4 : Int32) (s1 : Int32) (s2 : Int32) (s3 : Int32) (s4 : Int32) (s5 : Int32) (s6 : Bool) (M : Mem) : Option (Mem) :=
  (F_LAW_worth s1 s2 s3 s4 s5 ((b2i s6)) M).bind fun r1 => if inb (x4 + 1) L then if inb (x4 + 2) L then if inb (x4 + 3) L then if inb (x4 + 4) L then if inb (x4 + 5) L then if inb (x4 + 6) L then if (xs (x4 + 6).toNatClampNeg) = 0 then F_LAWc_8_j709 xs L x4 r1.1 (xs (x4 + 1).toNatClampNeg) (xs (x4 + 2).toNatClampNeg) (xs (x4 + 3).toNatClampNeg) (xs (x4 + 4).toNatClampNeg) (xs (x4 + 5).toNatClampNeg) false r1.2 else F_LAWc_8_j709 xs L x4 r1.1 (xs (x4 + 1).toNatClampNeg) (xs (x4 + 2).toNatClampNeg) (xs (x4 + 3).toNatClampNeg) (xs (x4 + 4).toNatClampNeg) (xs (x4 + 5).toNatClampNeg) true r1.2 else none else none else none else none else none else none
def F_LAWc_8 (xs : Nat → Int32) (L : Nat) (x4 : Int32) (M : Mem) : Option Mem :=
  if inb (x4 + 1) L then if inb (x4 + 2) L then if inb (x4 + 3) L then if inb (x4 + 4) L then if inb (x4 + 5) L then if inb (x4 + 6) L then if (xs (x4 + 6).toNatClampNeg) = 0 then F_LAWc_8_j657 xs L x4 (xs (x4 + 1).toNatClampNeg) (xs (x4 + 2).toNatClampNeg) (xs (x4 + 3).toNatClampNeg) (xs (x4 + 4).toNatClampNeg) (xs (x4 + 5).toNatClampNeg) false M else F_LAWc_8_j657 xs L x4 (xs (x4 + 1).toNatClampNeg) (xs (x4 + 2).toNatClampNeg) (xs (x4 + 3).toNatClampNeg) (xs (x4 + 4).toNatClampNeg) (xs (x4 + 5).toNatClampNeg) true M else none else none else none else none else none else none
set_option maxRecDepth 100000 in
set_option maxHeartbeats 8000000 in
theorem K_LAWc_8 {p : Program} {l : Launch} {e : Env} {s : State} {m : MethodId} {args : Array Value} {below : List Frame} {meth : Method} {c : Code} {g : GB} {Q : State → Prop} {b L : Nat} {xs : Nat → Int32} (K : KF p l s m args meth c g code 8 "KeptWellLaw") (htr : l.stackTraces = false) (hX : va_X b L xs s s.heap) (hbl : b < s.heap.size) (hbA : ¬ AS g s.heap.size b) (C S : Nat) (hC : C + 8 ≤ 600002) (hS : S + 48 ≤ 7302231) (x4 : Int32) (M : Mem) (PHI : Mem → Prop) (hnext : ∀ M, PHI M → GG p l e room_1 s m args below meth c g 8 Q (C + 8) (S + 48) 2782 [(0, .ref b), (1, .ref (g.2.1 0)), (2, .ref (g.2.1 94)), (3, .ref (g.2.1 121)), (4, .int x4)] [] M) (h : wpO (F_LAWc_8 xs L x4 M) PHI) : GG p l e room_1 s m args below meth c g 8 Q C S 611 [(0, .ref b), (1, .ref (g.2.1 0)), (2, .ref (g.2.1 94)), (3, .ref (g.2.1 121)), (4, .int x4)] [] M := by
  have J709 : ∀ (x5 : Int32) (s1 : Int32) (s2 : Int32) (s3 : Int32) (s4 : Int32) (s5 : Int32) (s6 : Bool) (M : Mem), wpO (F_LAWc_8_j709 xs L x4 x5 s1 s2 s3 s4 s5 s6 M) PHI → GG p l e room_1 s m args below meth c g 8 Q (C + 7) (S + 42) 709 [(0, .ref b), (1, .ref (g.2.1 0)), (2, .ref (g.2.1 94)), (3, .ref (g.2.1 121)), (4, .int x4), (5, .int x5)] [.int ((b2i s6)), .int s5, .int s4, .int s3, .int s2, .int s1, .ref (g.2.1 94)] M := by
    intro x5 s1 s2 s3 s4 s5 s6 M h
    unfold F_LAWc_8_j709 at h
    obtain ⟨r2, e2, h⟩ := wpO_bind h
    refine G_callVl (ci := 12) [.int s1, .int s2, .int s3, .int s4, .int s5, .int ((b2i s6))] [] K dL_709 wv_1733 yd_X12_worth (Nat.le_of_ble_eq_true rfl) (sh_94 _ _) rfl (by decide) ⟨by show C + 7 + 0 ≤ 600002; omega, by show S + 42 + 0 ≤ 7302231; omega⟩ rfl rfl (Nat.le_of_ble_eq_true rfl) (K_MO_worth l g htr s1 s2 s3 s4 s5 ((b2i s6)) M _ _ e2) ?_
    refine G_lstore K dL_712 (Nat.le_of_ble_eq_true rfl) rfl ?_
    refine G_aload_n rfl 3 rfl K dL_714 ?_
    obtain ⟨r3, e3, h⟩ := wpO_bind h
    refine G_callVi (ci := 12) [] [] K dL_715 wv_1470 yd_X12_thrown (Nat.le_of_ble_eq_true rfl) (sh_94 _ _) rfl (by decide) ⟨by show C + 7 + 0 ≤ 600002; omega, by show S + 42 + 0 ≤ 7302231; omega⟩ rfl rfl (Nat.le_of_ble_eq_true rfl) (K_MO_thrown l g htr  r2.2 _ e3) ?_
    refine G_iload 6 rfl K dL_718 ?_
    refine G_icmp_eq (tgt := 725) K dL_720 (by decide) (fun hc => ?_) (fun hc => ?_)
    · have h := wpO_t h hc
      refine G_iload 6 rfl K dL_725 ?_
      refine G_if_ne (tgt := 741) K dL_727 (by decide) (fun hc => ?_) (fun hc => ?_)
      · have h := wpO_f h hc
        refine G_goto (tgt := 2782) K dL_741 (by decide) ?_
        exact G_wide (k := C + 8) (n := S + 48) (by show C + 7 ≤ C + 8; omega) (by show S + 42 ≤ S + 48; omega) (G_lv (lv' := [(0, .ref b), (1, .ref (g.2.1 0)), (2, .ref (g.2.1 94)), (3, .ref (g.2.1 121)), (4, .int x4)]) [1, 2, 3, 4, 5] rfl (hnext r2.2 (wpO_some h)))
      · have h := wpO_t h hc
        refine G_aload_n rfl 4 rfl K dL_730 ?_
        refine G_iconst (v := 0) rfl K dL_731 ?_
        obtain ⟨hin, h⟩ := wpO_g h
        refine G_lald K dL_732 (Nat.le_of_ble_eq_true rfl) (sh_121 _ _) hin ?_
        refine G_lload 0 rfl K dL_733 ?_
        refine G_lcmp_eq (tgt := 741) K dL_735 dL_736 (by decide) (fun hc => ?_) (fun hc => ?_)
        · have h := wpO_t h hc
          refine G_goto (tgt := 2782) K dL_741 (by decide) ?_
          exact G_wide (k := C + 8) (n := S + 48) (by show C + 7 ≤ C + 8; omega) (by show S + 42 ≤ S + 48; omega) (G_lv (lv' := [(0, .ref b), (1, .ref (g.2.1 0)), (2, .ref (g.2.1 94)), (3, .ref (g.2.1 121)), (4, .int x4)]) [1, 2, 3, 4, 5] rfl (hnext r2.2 (wpO_some h)))
        · have h := wpO_f h hc
          refine G_iconst (v := 0) rfl K dL_739 ?_
          exact wpO_none h
    · have h := wpO_f h hc
      refine G_iconst (v := 0) rfl K dL_723 ?_
      exact wpO_none h
  have J657 : ∀ (s1 : Int32) (s2 : Int32) (s3 : Int32) (s4 : Int32) (s5 : Int32) (s6 : Bool) (M : Mem), wpO (F_LAWc_8_j657 xs L x4 s1 s2 s3 s4 s5 s6 M) PHI → GG p l e room_1 s m args below meth c g 8 Q (C + 0) (S + 0) 657 [(0, .ref b), (1, .ref (g.2.1 0)), (2, .ref (g.2.1 94)), (3, .ref (g.2.1 121)), (4, .int x4)] [.int ((b2i s6)), .int s5, .int s4, .int s3, .int s2, .int s1, .ref (g.2.1 0)] M := by
    intro s1 s2 s3 s4 s5 s6 M h
    unfold F_LAWc_8_j657 at h
    refine G_aload_n rfl 3 rfl K dL_657 ?_
    obtain ⟨r1, e1, h⟩ := wpO_bind h
    refine G_callH [.ref (g.2.1 0), .int s1, .int s2, .int s3, .int s4, .int s5, .int ((b2i s6)), .ref (g.2.1 121)] [] K dL_658 wv_929 yd_L_worth (by decide) ⟨by show C + 0 + 7 ≤ 600002; omega, by show S + 0 + 42 ≤ 7302231; omega⟩ rfl rfl (Nat.le_of_ble_eq_true rfl) (K_LAW_worth l g htr s1 s2 s3 s4 s5 ((b2i s6)) M _ _ e1) ?_
    refine G_istore K dL_661 (Nat.le_of_ble_eq_true rfl) rfl ?_
    refine G_aload_n rfl 3 rfl K dL_663 ?_
    refine G_aload_n rfl 1 rfl K dL_664 ?_
    refine G_iload 5 rfl K dL_665 ?_
    refine G_iconst (v := 1) rfl K dL_667 ?_
    refine G_iadd K dL_668 ?_
    obtain ⟨hin, h⟩ := wpO_g h
    refine G_sld K hX hbl hbA dL_669 hin ?_
    refine G_aload_n rfl 1 rfl K dL_670 ?_
    refine G_iload 5 rfl K dL_671 ?_
    refine G_iconst (v := 2) rfl K dL_673 ?_
    refine G_iadd K dL_674 ?_
    obtain ⟨hin, h⟩ := wpO_g h
    refine G_sld K hX hbl hbA dL_675 hin ?_
    refine G_aload_n rfl 1 rfl K dL_676 ?_
    refine G_iload 5 rfl K dL_677 ?_
    refine G_iconst (v := 3) rfl K dL_679 ?_
    refine G_iadd K dL_680 ?_
    obtain ⟨hin, h⟩ := wpO_g h
    refine G_sld K hX hbl hbA dL_681 hin ?_
    refine G_aload_n rfl 1 rfl K dL_682 ?_
    refine G_iload 5 rfl K dL_683 ?_
    refine G_iconst (v := 4) rfl K dL_685 ?_
    refine G_iadd K dL_686 ?_
    obtain ⟨hin, h⟩ := wpO_g h
    refine G_sld K hX hbl hbA dL_687 hin ?_
    refine G_aload_n rfl 1 rfl K dL_688 ?_
    refine G_iload 5 rfl K dL_689 ?_
    refine G_iconst (v := 5) rfl K dL_691 ?_
    refine G_iadd K dL_692 ?_
    obtain ⟨hin, h⟩ := wpO_g h
    refine G_sld K hX hbl hbA dL_693 hin ?_
    refine G_aload_n rfl 1 rfl K dL_694 ?_
    refine G_iload 5 rfl K dL_695 ?_
    refine G_bipush (v := 6) rfl K dL_697 ?_
    refine G_iadd K dL_699 ?_
    obtain ⟨hin, h⟩ := wpO_g h
    refine G_sld K hX hbl hbA dL_700 hin ?_
    refine G_if_eq (tgt := 708) K dL_701 (by decide) (fun hc => ?_) (fun hc => ?_)
    · have h := wpO_t h hc
      refine G_iconst (v := 0) rfl K dL_708 ?_
      exact G_lv (lv' := [(0, .ref b), (1, .ref (g.2.1 0)), (2, .ref (g.2.1 94)), (3, .ref (g.2.1 121)), (4, .int x4), (5, .int r1.1)]) [1, 2, 3, 4, 5, 0] rfl (J709 r1.1 (xs (x4 + 1).toNatClampNeg) (xs (x4 + 2).toNatClampNeg) (xs (x4 + 3).toNatClampNeg) (xs (x4 + 4).toNatClampNeg) (xs (x4 + 5).toNatClampNeg) false r1.2 h)
    · have h := wpO_f h hc
      refine G_iconst (v := 1) rfl K dL_704 ?_
      refine G_goto (tgt := 709) K dL_705 (by decide) ?_
      exact G_lv (lv' := [(0, .ref b), (1, .ref (g.2.1 0)), (2, .ref (g.2.1 94)), (3, .ref (g.2.1 121)), (4, .int x4), (5, .int r1.1)]) [1, 2, 3, 4, 5, 0] rfl (J709 r1.1 (xs (x4 + 1).toNatClampNeg) (xs (x4 + 2).toNatClampNeg) (xs (x4 + 3).toNatClampNeg) (xs (x4 + 4).toNatClampNeg) (xs (x4 + 5).toNatClampNeg) true r1.2 h)
  unfold F_LAWc_8 at h
  refine G_aload_n rfl 1 rfl K dL_611 ?_
  refine G_aload_n rfl 0 rfl K dL_612 ?_
  refine G_iload 4 rfl K dL_613 ?_
  refine G_iconst (v := 1) rfl K dL_615 ?_
  refine G_iadd K dL_616 ?_
  obtain ⟨hin, h⟩ := wpO_g h
  refine G_sld K hX hbl hbA dL_617 hin ?_
  refine G_aload_n rfl 0 rfl K dL_618 ?_
  refine G_iload 4 rfl K dL_619 ?_
  refine G_iconst (v := 2) rfl K dL_621 ?_
  refine G_iadd K dL_622 ?_
  obtain ⟨hin, h⟩ := wpO_g h
  refine G_sld K hX hbl hbA dL_623 hin ?_
  refine G_aload_n rfl 0 rfl K dL_624 ?_
  refine G_iload 4 rfl K dL_625 ?_
  refine G_iconst (v := 3) rfl K dL_627 ?_
  refine G_iadd K dL_628 ?_
  obtain ⟨hin, h⟩ := wpO_g h
  refine G_sld K hX hbl hbA dL_629 hin ?_
  refine G_aload_n rfl 0 rfl K dL_630 ?_
  refine G_iload 4 rfl K dL_631 ?_
  refine G_iconst (v := 4) rfl K dL_633 ?_
  refine G_iadd K dL_634 ?_
  obtain ⟨hin, h⟩ := wpO_g h
  refine G_sld K hX hbl hbA dL_635 hin ?_
  refine G_aload_n rfl 0 rfl K dL_636 ?_
  refine G_iload 4 rfl K dL_637 ?_
  refine G_iconst (v := 5) rfl K dL_639 ?_
  refine G_iadd K dL_640 ?_
  obtain ⟨hin, h⟩ := wpO_g h
  refine G_sld K hX hbl hbA dL_641 hin ?_
  refine G_aload_n rfl 0 rfl K dL_642 ?_
  refine G_iload 4 rfl K dL_643 ?_
  refine G_bipush (v := 6) rfl K dL_645 ?_
  refine G_iadd K dL_647 ?_
  obtain ⟨hin, h⟩ := wpO_g h
  refine G_sld K hX hbl hbA dL_648 hin ?_
  refine G_if_eq (tgt := 656) K dL_649 (by decide) (fun hc => ?_) (fun hc => ?_)
  · have h := wpO_t h hc
    refine G_iconst (v := 0) rfl K dL_656 ?_
    exact J657 (xs (x4 + 1).toNatClampNeg) (xs (x4 + 2).toNatClampNeg) (xs (x4 + 3).toNatClampNeg) (xs (x4 + 4).toNatClampNeg) (xs (x4 + 5).toNatClampNeg) false M h
  · have h := wpO_f h hc
    refine G_iconst (v := 1) rfl K dL_652 ?_
    refine G_goto (tgt := 657) K dL_653 (by decide) ?_
    exact J657 (xs (x4 + 1).toNatClampNeg) (xs (x4 + 2).toNatClampNeg) (xs (x4 + 3).toNatClampNeg) (xs (x4 + 4).toNatClampNeg) (xs (x4 + 5).toNatClampNeg) true M h
def F_LAWc_9_j810 (xs : Nat → Int32) (L : Nat) (x4 : Int32) (s0 : Int64) (s1 : Int64) (M : Mem) : Option (Mem) :=
  if s0 = s1 then some M else none
def F_LAWc_9 (xs : Nat → Int32) (L : Nat) (x4 : Int32) (M : Mem) : Option Mem :=
  if inb (x4 + 1) L then if inb (x4 + 2) L then (F_LAW_hold (xs (x4 + 1).toNatClampNeg) (xs (x4 + 2).toNatClampNeg) M).bind fun r1 => if inb (x4 + 1) L then if inb (x4 + 2) L then (F_MO_hold (xs (x4 + 1).toNatClampNeg) (xs (x4 + 2).toNatClampNeg) r1.2).bind fun r2 => (F_MO_thrown r2.2).bind fun r3 => if r3 = r1.1 then if r1.1 = 0 then if inb ((0 : Int32)) 1 then if r2.1 = true then F_LAWc_9_j810 xs L x4 (r2.2.2 121 ((0 : Int32)).toNatClampNeg) 1 r2.2 else F_LAWc_9_j810 xs L x4 (r2.2.2 121 ((0 : Int32)).toNatClampNeg) 0 r2.2 else none else some r2.2 else none else none else none else none else none
set_option maxRecDepth 100000 in
set_option maxHeartbeats 8000000 in
theorem K_LAWc_9 {p : Program} {l : Launch} {e : Env} {s : State} {m : MethodId} {args : Array Value} {below : List Frame} {meth : Method} {c : Code} {g : GB} {Q : State → Prop} {b L : Nat} {xs : Nat → Int32} (K : KF p l s m args meth c g code 8 "KeptWellLaw") (htr : l.stackTraces = false) (hX : va_X b L xs s s.heap) (hbl : b < s.heap.size) (hbA : ¬ AS g s.heap.size b) (C S : Nat) (hC : C + 8 ≤ 600002) (hS : S + 48 ≤ 7302231) (x4 : Int32) (M : Mem) (PHI : Mem → Prop) (hnext : ∀ M, PHI M → GG p l e room_1 s m args below meth c g 8 Q (C + 8) (S + 48) 2782 [(0, .ref b), (1, .ref (g.2.1 0)), (2, .ref (g.2.1 94)), (3, .ref (g.2.1 121)), (4, .int x4)] [] M) (h : wpO (F_LAWc_9 xs L x4 M) PHI) : GG p l e room_1 s m args below meth c g 8 Q C S 744 [(0, .ref b), (1, .ref (g.2.1 0)), (2, .ref (g.2.1 94)), (3, .ref (g.2.1 121)), (4, .int x4)] [] M := by
  have J810 : ∀ (s0 : Int64) (s1 : Int64) (M : Mem), wpO (F_LAWc_9_j810 xs L x4 s0 s1 M) PHI → GG p l e room_1 s m args below meth c g 8 Q (C + 4) (S + 24) 810 [(0, .ref b), (1, .ref (g.2.1 0)), (2, .ref (g.2.1 94)), (3, .ref (g.2.1 121)), (4, .int x4)] [.long s1, .long s0] M := by
    intro s0 s1 M h
    unfold F_LAWc_9_j810 at h
    refine G_lcmp_eq (tgt := 816) K dL_810 dL_811 (by decide) (fun hc => ?_) (fun hc => ?_)
    · have h := wpO_t h hc
      refine G_goto (tgt := 2782) K dL_816 (by decide) ?_
      exact G_wide (k := C + 8) (n := S + 48) (by show C + 4 ≤ C + 8; omega) (by show S + 24 ≤ S + 48; omega) (hnext M (wpO_some h))
    · have h := wpO_f h hc
      refine G_iconst (v := 0) rfl K dL_814 ?_
      exact wpO_none h
  unfold F_LAWc_9 at h
  refine G_aload_n rfl 1 rfl K dL_744 ?_
  refine G_aload_n rfl 0 rfl K dL_745 ?_
  refine G_iload 4 rfl K dL_746 ?_
  refine G_iconst (v := 1) rfl K dL_748 ?_
  refine G_iadd K dL_749 ?_
  obtain ⟨hin, h⟩ := wpO_g h
  refine G_sld K hX hbl hbA dL_750 hin ?_
  refine G_aload_n rfl 0 rfl K dL_751 ?_
  refine G_iload 4 rfl K dL_752 ?_
  refine G_iconst (v := 2) rfl K dL_754 ?_
  refine G_iadd K dL_755 ?_
  obtain ⟨hin, h⟩ := wpO_g h
  refine G_sld K hX hbl hbA dL_756 hin ?_
  refine G_aload_n rfl 3 rfl K dL_757 ?_
  obtain ⟨r1, e1, h⟩ := wpO_bind h
  refine G_callH [.ref (g.2.1 0), .int (xs (x4 + 1).toNatClampNeg), .int (xs (x4 + 2).toNatClampNeg), .ref (g.2.1 121)] [] K dL_758 wv_983 yd_L_hold (by decide) ⟨by show C + 0 + 4 ≤ 600002; omega, by show S + 0 + 24 ≤ 7302231; omega⟩ rfl rfl (Nat.le_of_ble_eq_true rfl) (K_LAW_hold l g htr (xs (x4 + 1).toNatClampNeg) (xs (x4 + 2).toNatClampNeg) M _ _ e1) ?_
  refine G_istore K dL_761 (Nat.le_of_ble_eq_true rfl) rfl ?_
  refine G_aload_n rfl 3 rfl K dL_763 ?_
  refine G_aload_n rfl 1 rfl K dL_764 ?_
  refine G_iload 5 rfl K dL_765 ?_
  refine G_iconst (v := 1) rfl K dL_767 ?_
  refine G_iadd K dL_768 ?_
  obtain ⟨hin, h⟩ := wpO_g h
  refine G_sld K hX hbl hbA dL_769 hin ?_
  refine G_aload_n rfl 1 rfl K dL_770 ?_
  refine G_iload 5 rfl K dL_771 ?_
  refine G_iconst (v := 2) rfl K dL_773 ?_
  refine G_iadd K dL_774 ?_
  obtain ⟨hin, h⟩ := wpO_g h
  refine G_sld K hX hbl hbA dL_775 hin ?_
  obtain ⟨r2, e2, h⟩ := wpO_bind h
  refine G_callVi (ci := 12) [.int (xs (x4 + 1).toNatClampNeg), .int (xs (x4 + 2).toNatClampNeg)] [] K dL_776 wv_1781 yd_X12_hold (Nat.le_of_ble_eq_true rfl) (sh_94 _ _) rfl (by decide) ⟨by show C + 4 + 0 ≤ 600002; omega, by show S + 24 + 0 ≤ 7302231; omega⟩ rfl rfl (Nat.le_of_ble_eq_true rfl) (K_MO_hold l g htr (xs (x4 + 1).toNatClampNeg) (xs (x4 + 2).toNatClampNeg) r1.2 _ _ e2) ?_
  refine G_istore K dL_779 (Nat.le_of_ble_eq_true rfl) rfl ?_
  refine G_aload_n rfl 4 rfl K dL_781 ?_
  obtain ⟨r3, e3, h⟩ := wpO_bind h
  refine G_callVi (ci := 12) [] [] K dL_782 wv_1470 yd_X12_thrown (Nat.le_of_ble_eq_true rfl) (sh_94 _ _) rfl (by decide) ⟨by show C + 4 + 0 ≤ 600002; omega, by show S + 24 + 0 ≤ 7302231; omega⟩ rfl rfl (Nat.le_of_ble_eq_true rfl) (K_MO_thrown l g htr  r2.2 _ e3) ?_
  refine G_iload 1 rfl K dL_785 ?_
  refine G_icmp_eq (tgt := 792) K dL_787 (by decide) (fun hc => ?_) (fun hc => ?_)
  · have h := wpO_t h hc
    refine G_iload 1 rfl K dL_792 ?_
    refine G_if_ne (tgt := 816) K dL_794 (by decide) (fun hc => ?_) (fun hc => ?_)
    · have h := wpO_f h hc
      refine G_goto (tgt := 2782) K dL_816 (by decide) ?_
      exact G_wide (k := C + 8) (n := S + 48) (by show C + 4 ≤ C + 8; omega) (by show S + 24 ≤ S + 48; omega) (G_lv (lv' := [(0, .ref b), (1, .ref (g.2.1 0)), (2, .ref (g.2.1 94)), (3, .ref (g.2.1 121)), (4, .int x4)]) [2, 3, 4, 5, 6] rfl (hnext r2.2 (wpO_some h)))
    · have h := wpO_t h hc
      refine G_aload_n rfl 5 rfl K dL_797 ?_
      refine G_iconst (v := 0) rfl K dL_798 ?_
      obtain ⟨hin, h⟩ := wpO_g h
      refine G_lald K dL_799 (Nat.le_of_ble_eq_true rfl) (sh_121 _ _) hin ?_
      refine G_iload 0 rfl K dL_800 ?_
      refine G_ifb_eq (tgt := 809) K dL_802 (by decide) (fun hc => ?_) (fun hc => ?_)
      · have h := wpO_bf h hc
        refine G_lconst (v := 0) rfl K dL_809 ?_
        exact G_lv (lv' := [(0, .ref b), (1, .ref (g.2.1 0)), (2, .ref (g.2.1 94)), (3, .ref (g.2.1 121)), (4, .int x4)]) [2, 3, 4, 5, 6] rfl (J810 (r2.2.2 121 ((0 : Int32)).toNatClampNeg) 0 r2.2 h)
      · have h := wpO_t h hc
        refine G_lconst (v := 1) rfl K dL_805 ?_
        refine G_goto (tgt := 810) K dL_806 (by decide) ?_
        exact G_lv (lv' := [(0, .ref b), (1, .ref (g.2.1 0)), (2, .ref (g.2.1 94)), (3, .ref (g.2.1 121)), (4, .int x4)]) [2, 3, 4, 5, 6] rfl (J810 (r2.2.2 121 ((0 : Int32)).toNatClampNeg) 1 r2.2 h)
  · have h := wpO_f h hc
    refine G_iconst (v := 0) rfl K dL_790 ?_
    exact wpO_none h
def F_LAWc_10 (xs : Nat → Int32) (L : Nat) (x4 : Int32) (M : Mem) : Option Mem :=
  if inb (x4 + 1) L then if inb (x4 + 2) L then (F_LAW_first (xs (x4 + 1).toNatClampNeg) (xs (x4 + 2).toNatClampNeg) M).bind fun r1 => if inb (x4 + 1) L then if inb (x4 + 2) L then (F_MO_first (xs (x4 + 1).toNatClampNeg) (xs (x4 + 2).toNatClampNeg) r1.2).bind fun r2 => (F_MO_thrown r2.2).bind fun r3 => if r3 = r1.1 then if r1.1 = 0 then if inb ((0 : Int32)) 1 then if (r2.2.2 121 ((0 : Int32)).toNatClampNeg) = r2.1.toInt64 then some r2.2 else none else none else some r2.2 else none else none else none else none else none
set_option maxRecDepth 100000 in
set_option maxHeartbeats 8000000 in
theorem K_LAWc_10 {p : Program} {l : Launch} {e : Env} {s : State} {m : MethodId} {args : Array Value} {below : List Frame} {meth : Method} {c : Code} {g : GB} {Q : State → Prop} {b L : Nat} {xs : Nat → Int32} (K : KF p l s m args meth c g code 8 "KeptWellLaw") (htr : l.stackTraces = false) (hX : va_X b L xs s s.heap) (hbl : b < s.heap.size) (hbA : ¬ AS g s.heap.size b) (C S : Nat) (hC : C + 8 ≤ 600002) (hS : S + 48 ≤ 7302231) (x4 : Int32) (M : Mem) (PHI : Mem → Prop) (hnext : ∀ M, PHI M → GG p l e room_1 s m args below meth c g 8 Q (C + 8) (S + 48) 2782 [(0, .ref b), (1, .ref (g.2.1 0)), (2, .ref (g.2.1 94)), (3, .ref (g.2.1 121)), (4, .int x4)] [] M) (h : wpO (F_LAWc_10 xs L x4 M) PHI) : GG p l e room_1 s m args below meth c g 8 Q C S 819 [(0, .ref b), (1, .ref (g.2.1 0)), (2, .ref (g.2.1 94)), (3, .ref (g.2.1 121)), (4, .int x4)] [] M := by
  unfold F_LAWc_10 at h
  refine G_aload_n rfl 1 rfl K dL_819 ?_
  refine G_aload_n rfl 0 rfl K dL_820 ?_
  refine G_iload 4 rfl K dL_821 ?_
  refine G_iconst (v := 1) rfl K dL_823 ?_
  refine G_iadd K dL_824 ?_
  obtain ⟨hin, h⟩ := wpO_g h
  refine G_sld K hX hbl hbA dL_825 hin ?_
  refine G_aload_n rfl 0 rfl K dL_826 ?_
  refine G_iload 4 rfl K dL_827 ?_
  refine G_iconst (v := 2) rfl K dL_829 ?_
  refine G_iadd K dL_830 ?_
  obtain ⟨hin, h⟩ := wpO_g h
  refine G_sld K hX hbl hbA dL_831 hin ?_
  refine G_aload_n rfl 3 rfl K dL_832 ?_
  obtain ⟨r1, e1, h⟩ := wpO_bind h
  refine G_callH [.ref (g.2.1 0), .int (xs (x4 + 1).toNatClampNeg), .int (xs (x4 + 2).toNatClampNeg), .ref (g.2.1 121)] [] K dL_833 wv_995 yd_L_first (by decide) ⟨by show C + 0 + 4 ≤ 600002; omega, by show S + 0 + 24 ≤ 7302231; omega⟩ rfl rfl (Nat.le_of_ble_eq_true rfl) (K_LAW_first l g htr (xs (x4 + 1).toNatClampNeg) (xs (x4 + 2).toNatClampNeg) M _ _ e1) ?_
  refine G_istore K dL_836 (Nat.le_of_ble_eq_true rfl) rfl ?_
  refine G_aload_n rfl 3 rfl K dL_838 ?_
  refine G_aload_n rfl 1 rfl K dL_839 ?_
  refine G_iload 5 rfl K dL_840 ?_
  refine G_iconst (v := 1) rfl K dL_842 ?_
  refine G_iadd K dL_843 ?_
  obtain ⟨hin, h⟩ := wpO_g h
  refine G_sld K hX hbl hbA dL_844 hin ?_
  refine G_aload_n rfl 1 rfl K dL_845 ?_
  refine G_iload 5 rfl K dL_846 ?_
  refine G_iconst (v := 2) rfl K dL_848 ?_
  refine G_iadd K dL_849 ?_
  obtain ⟨hin, h⟩ := wpO_g h
  refine G_sld K hX hbl hbA dL_850 hin ?_
  obtain ⟨r2, e2, h⟩ := wpO_bind h
  refine G_callVi (ci := 12) [.int (xs (x4 + 1).toNatClampNeg), .int (xs (x4 + 2).toNatClampNeg)] [] K dL_851 wv_1797 yd_X12_first (Nat.le_of_ble_eq_true rfl) (sh_94 _ _) rfl (by decide) ⟨by show C + 4 + 0 ≤ 600002; omega, by show S + 24 + 0 ≤ 7302231; omega⟩ rfl rfl (Nat.le_of_ble_eq_true rfl) (K_MO_first l g htr (xs (x4 + 1).toNatClampNeg) (xs (x4 + 2).toNatClampNeg) r1.2 _ _ e2) ?_
  refine G_istore K dL_854 (Nat.le_of_ble_eq_true rfl) rfl ?_
  refine G_aload_n rfl 4 rfl K dL_856 ?_
  obtain ⟨r3, e3, h⟩ := wpO_bind h
  refine G_callVi (ci := 12) [] [] K dL_857 wv_1470 yd_X12_thrown (Nat.le_of_ble_eq_true rfl) (sh_94 _ _) rfl (by decide) ⟨by show C + 4 + 0 ≤ 600002; omega, by show S + 24 + 0 ≤ 7302231; omega⟩ rfl rfl (Nat.le_of_ble_eq_true rfl) (K_MO_thrown l g htr  r2.2 _ e3) ?_
  refine G_iload 1 rfl K dL_860 ?_
  refine G_icmp_eq (tgt := 867) K dL_862 (by decide) (fun hc => ?_) (fun hc => ?_)
  · have h := wpO_t h hc
    refine G_iload 1 rfl K dL_867 ?_
    refine G_if_ne (tgt := 884) K dL_869 (by decide) (fun hc => ?_) (fun hc => ?_)
    · have h := wpO_f h hc
      refine G_goto (tgt := 2782) K dL_884 (by decide) ?_
      exact G_wide (k := C + 8) (n := S + 48) (by show C + 4 ≤ C + 8; omega) (by show S + 24 ≤ S + 48; omega) (G_lv (lv' := [(0, .ref b), (1, .ref (g.2.1 0)), (2, .ref (g.2.1 94)), (3, .ref (g.2.1 121)), (4, .int x4)]) [2, 3, 4, 5, 6] rfl (hnext r2.2 (wpO_some h)))
    · have h := wpO_t h hc
      refine G_aload_n rfl 5 rfl K dL_872 ?_
      refine G_iconst (v := 0) rfl K dL_873 ?_
      obtain ⟨hin, h⟩ := wpO_g h
      refine G_lald K dL_874 (Nat.le_of_ble_eq_true rfl) (sh_121 _ _) hin ?_
      refine G_iload 0 rfl K dL_875 ?_
      refine G_i2l K dL_877 ?_
      refine G_lcmp_eq (tgt := 884) K dL_878 dL_879 (by decide) (fun hc => ?_) (fun hc => ?_)
      · have h := wpO_t h hc
        refine G_goto (tgt := 2782) K dL_884 (by decide) ?_
        exact G_wide (k := C + 8) (n := S + 48) (by show C + 4 ≤ C + 8; omega) (by show S + 24 ≤ S + 48; omega) (G_lv (lv' := [(0, .ref b), (1, .ref (g.2.1 0)), (2, .ref (g.2.1 94)), (3, .ref (g.2.1 121)), (4, .int x4)]) [2, 3, 4, 5, 6] rfl (hnext r2.2 (wpO_some h)))
      · have h := wpO_f h hc
        refine G_iconst (v := 0) rfl K dL_882 ?_
        exact wpO_none h
  · have h := wpO_f h hc
    refine G_iconst (v := 0) rfl K dL_865 ?_
    exact wpO_none h
def F_LAWc_11 (xs : Nat → Int32) (L : Nat) (x4 : Int32) (M : Mem) : Option Mem :=
  if inb (x4 + 1) L then if inb (x4 + 2) L then if inb (x4 + 3) L then (F_LAW_best (xs (x4 + 1).toNatClampNeg) (xs (x4 + 2).toNatClampNeg) (xs (x4 + 3).toNatClampNeg) M).bind fun r1 => if inb (x4 + 1) L then if inb (x4 + 2) L then if inb (x4 + 3) L then (F_MO_best (xs (x4 + 1).toNatClampNeg) (xs (x4 + 2).toNatClampNeg) (xs (x4 + 3).toNatClampNeg) r1.2).bind fun r2 => (F_MO_thrown r2.2).bind fun r3 => if r3 = r1.1 then if r1.1 = 0 then if inb ((0 : Int32)) 1 then if (r2.2.2 121 ((0 : Int32)).toNatClampNeg) = r2.1.toInt64 then some r2.2 else none else none else some r2.2 else none else none else none else none else none else none else none
set_option maxRecDepth 100000 in
set_option maxHeartbeats 8000000 in
theorem K_LAWc_11 {p : Program} {l : Launch} {e : Env} {s : State} {m : MethodId} {args : Array Value} {below : List Frame} {meth : Method} {c : Code} {g : GB} {Q : State → Prop} {b L : Nat} {xs : Nat → Int32} (K : KF p l s m args meth c g code 8 "KeptWellLaw") (htr : l.stackTraces = false) (hX : va_X b L xs s s.heap) (hbl : b < s.heap.size) (hbA : ¬ AS g s.heap.size b) (C S : Nat) (hC : C + 8 ≤ 600002) (hS : S + 48 ≤ 7302231) (x4 : Int32) (M : Mem) (PHI : Mem → Prop) (hnext : ∀ M, PHI M → GG p l e room_1 s m args below meth c g 8 Q (C + 8) (S + 48) 2782 [(0, .ref b), (1, .ref (g.2.1 0)), (2, .ref (g.2.1 94)), (3, .ref (g.2.1 121)), (4, .int x4)] [] M) (h : wpO (F_LAWc_11 xs L x4 M) PHI) : GG p l e room_1 s m args below meth c g 8 Q C S 887 [(0, .ref b), (1, .ref (g.2.1 0)), (2, .ref (g.2.1 94)), (3, .ref (g.2.1 121)), (4, .int x4)] [] M := by
  unfold F_LAWc_11 at h
  refine G_aload_n rfl 1 rfl K dL_887 ?_
  refine G_aload_n rfl 0 rfl K dL_888 ?_
  refine G_iload 4 rfl K dL_889 ?_
  refine G_iconst (v := 1) rfl K dL_891 ?_
  refine G_iadd K dL_892 ?_
  obtain ⟨hin, h⟩ := wpO_g h
  refine G_sld K hX hbl hbA dL_893 hin ?_
  refine G_aload_n rfl 0 rfl K dL_894 ?_
  refine G_iload 4 rfl K dL_895 ?_
  refine G_iconst (v := 2) rfl K dL_897 ?_
  refine G_iadd K dL_898 ?_
  obtain ⟨hin, h⟩ := wpO_g h
  refine G_sld K hX hbl hbA dL_899 hin ?_
  refine G_aload_n rfl 0 rfl K dL_900 ?_
  refine G_iload 4 rfl K dL_901 ?_
  refine G_iconst (v := 3) rfl K dL_903 ?_
  refine G_iadd K dL_904 ?_
  obtain ⟨hin, h⟩ := wpO_g h
  refine G_sld K hX hbl hbA dL_905 hin ?_
  refine G_aload_n rfl 3 rfl K dL_906 ?_
  obtain ⟨r1, e1, h⟩ := wpO_bind h
  refine G_callH [.ref (g.2.1 0), .int (xs (x4 + 1).toNatClampNeg), .int (xs (x4 + 2).toNatClampNeg), .int (xs (x4 + 3).toNatClampNeg), .ref (g.2.1 121)] [] K dL_907 wv_1002 yd_L_best (by decide) ⟨by show C + 0 + 4 ≤ 600002; omega, by show S + 0 + 24 ≤ 7302231; omega⟩ rfl rfl (Nat.le_of_ble_eq_true rfl) (K_LAW_best l g htr (xs (x4 + 1).toNatClampNeg) (xs (x4 + 2).toNatClampNeg) (xs (x4 + 3).toNatClampNeg) M _ _ e1) ?_
  refine G_istore K dL_910 (Nat.le_of_ble_eq_true rfl) rfl ?_
  refine G_aload_n rfl 3 rfl K dL_912 ?_
  refine G_aload_n rfl 1 rfl K dL_913 ?_
  refine G_iload 5 rfl K dL_914 ?_
  refine G_iconst (v := 1) rfl K dL_916 ?_
  refine G_iadd K dL_917 ?_
  obtain ⟨hin, h⟩ := wpO_g h
  refine G_sld K hX hbl hbA dL_918 hin ?_
  refine G_aload_n rfl 1 rfl K dL_919 ?_
  refine G_iload 5 rfl K dL_920 ?_
  refine G_iconst (v := 2) rfl K dL_922 ?_
  refine G_iadd K dL_923 ?_
  obtain ⟨hin, h⟩ := wpO_g h
  refine G_sld K hX hbl hbA dL_924 hin ?_
  refine G_aload_n rfl 1 rfl K dL_925 ?_
  refine G_iload 5 rfl K dL_926 ?_
  refine G_iconst (v := 3) rfl K dL_928 ?_
  refine G_iadd K dL_929 ?_
  obtain ⟨hin, h⟩ := wpO_g h
  refine G_sld K hX hbl hbA dL_930 hin ?_
  obtain ⟨r2, e2, h⟩ := wpO_bind h
  refine G_callVi (ci := 12) [.int (xs (x4 + 1).toNatClampNeg), .int (xs (x4 + 2).toNatClampNeg), .int (xs (x4 + 3).toNatClampNeg)] [] K dL_931 wv_1801 yd_X12_best (Nat.le_of_ble_eq_true rfl) (sh_94 _ _) rfl (by decide) ⟨by show C + 4 + 0 ≤ 600002; omega, by show S + 24 + 0 ≤ 7302231; omega⟩ rfl rfl (Nat.le_of_ble_eq_true rfl) (K_MO_best l g htr (xs (x4 + 1).toNatClampNeg) (xs (x4 + 2).toNatClampNeg) (xs (x4 + 3).toNatClampNeg) r1.2 _ _ e2) ?_
  refine G_istore K dL_934 (Nat.le_of_ble_eq_true rfl) rfl ?_
  refine G_aload_n rfl 4 rfl K dL_936 ?_
  obtain ⟨r3, e3, h⟩ := wpO_bind h
  refine G_callVi (ci := 12) [] [] K dL_937 wv_1470 yd_X12_thrown (Nat.le_of_ble_eq_true rfl) (sh_94 _ _) rfl (by decide) ⟨by show C + 4 + 0 ≤ 600002; omega, by show S + 24 + 0 ≤ 7302231; omega⟩ rfl rfl (Nat.le_of_ble_eq_true rfl) (K_MO_thrown l g htr  r2.2 _ e3) ?_
  refine G_iload 1 rfl K dL_940 ?_
  refine G_icmp_eq (tgt := 947) K dL_942 (by decide) (fun hc => ?_) (fun hc => ?_)
  · have h := wpO_t h hc
    refine G_iload 1 rfl K dL_947 ?_
    refine G_if_ne (tgt := 964) K dL_949 (by decide) (fun hc => ?_) (fun hc => ?_)
    · have h := wpO_f h hc
      refine G_goto (tgt := 2782) K dL_964 (by decide) ?_
      exact G_wide (k := C + 8) (n := S + 48) (by show C + 4 ≤ C + 8; omega) (by show S + 24 ≤ S + 48; omega) (G_lv (lv' := [(0, .ref b), (1, .ref (g.2.1 0)), (2, .ref (g.2.1 94)), (3, .ref (g.2.1 121)), (4, .int x4)]) [2, 3, 4, 5, 6] rfl (hnext r2.2 (wpO_some h)))
    · have h := wpO_t h hc
      refine G_aload_n rfl 5 rfl K dL_952 ?_
      refine G_iconst (v := 0) rfl K dL_953 ?_
      obtain ⟨hin, h⟩ := wpO_g h
      refine G_lald K dL_954 (Nat.le_of_ble_eq_true rfl) (sh_121 _ _) hin ?_
      refine G_iload 0 rfl K dL_955 ?_
      refine G_i2l K dL_957 ?_
      refine G_lcmp_eq (tgt := 964) K dL_958 dL_959 (by decide) (fun hc => ?_) (fun hc => ?_)
      · have h := wpO_t h hc
        refine G_goto (tgt := 2782) K dL_964 (by decide) ?_
        exact G_wide (k := C + 8) (n := S + 48) (by show C + 4 ≤ C + 8; omega) (by show S + 24 ≤ S + 48; omega) (G_lv (lv' := [(0, .ref b), (1, .ref (g.2.1 0)), (2, .ref (g.2.1 94)), (3, .ref (g.2.1 121)), (4, .int x4)]) [2, 3, 4, 5, 6] rfl (hnext r2.2 (wpO_some h)))
      · have h := wpO_f h hc
        refine G_iconst (v := 0) rfl K dL_962 ?_
        exact wpO_none h
  · have h := wpO_f h hc
    refine G_iconst (v := 0) rfl K dL_945 ?_
    exact wpO_none h
def F_LAWc_12_j1039 (xs : Nat → Int32) (L : Nat) (x4 : Int32) (x5 : Int32) (s1 : Int32) (s2 : Int32) (s3 : Int32) (s4 : Bool) (M : Mem) : Option (Mem) :=
  (F_MO_answer s1 s2 s3 ((b2i s4)) M).bind fun r2 => (F_MO_thrown r2.2).bind fun r3 => if r3 = x5 then if x5 = 0 then if inb ((0 : Int32)) 1 then if (r2.2.2 121 ((0 : Int32)).toNatClampNeg) = r2.1 then some r2.2 else none else none else some r2.2 else none
def F_LAWc_12_j1000 (xs : Nat → Int32) (L : Nat) (x4 : Int32) (s1 : Int32) (s2 : Int32) (s3 : Int32) (s4 : Bool) (M : Mem) : Option (Mem) :=
  (F_LAW_answer s1 s2 s3 ((b2i s4)) M).bind fun r1 => if inb (x4 + 1) L then if inb (x4 + 2) L then if inb (x4 + 3) L then if inb (x4 + 4) L then if (xs (x4 + 4).toNatClampNeg) = 0 then F_LAWc_12_j1039 xs L x4 r1.1 (xs (x4 + 1).toNatClampNeg) (xs (x4 + 2).toNatClampNeg) (xs (x4 + 3).toNatClampNeg) false r1.2 else F_LAWc_12_j1039 xs L x4 r1.1 (xs (x4 + 1).toNatClampNeg) (xs (x4 + 2).toNatClampNeg) (xs (x4 + 3).toNatClampNeg) true r1.2 else none else none else none else none
def F_LAWc_12 (xs : Nat → Int32) (L : Nat) (x4 : Int32) (M : Mem) : Option Mem :=
  if inb (x4 + 1) L then if inb (x4 + 2) L then if inb (x4 + 3) L then if inb (x4 + 4) L then if (xs (x4 + 4).toNatClampNeg) = 0 then F_LAWc_12_j1000 xs L x4 (xs (x4 + 1).toNatClampNeg) (xs (x4 + 2).toNatClampNeg) (xs (x4 + 3).toNatClampNeg) false M else F_LAWc_12_j1000 xs L x4 (xs (x4 + 1).toNatClampNeg) (xs (x4 + 2).toNatClampNeg) (xs (x4 + 3).toNatClampNeg) true M else none else none else none else none
set_option maxRecDepth 100000 in
set_option maxHeartbeats 8000000 in
theorem K_LAWc_12 {p : Program} {l : Launch} {e : Env} {s : State} {m : MethodId} {args : Array Value} {below : List Frame} {meth : Method} {c : Code} {g : GB} {Q : State → Prop} {b L : Nat} {xs : Nat → Int32} (K : KF p l s m args meth c g code 8 "KeptWellLaw") (htr : l.stackTraces = false) (hX : va_X b L xs s s.heap) (hbl : b < s.heap.size) (hbA : ¬ AS g s.heap.size b) (C S : Nat) (hC : C + 8 ≤ 600002) (hS : S + 48 ≤ 7302231) (x4 : Int32) (M : Mem) (PHI : Mem → Prop) (hnext : ∀ M, PHI M → GG p l e room_1 s m args below meth c g 8 Q (C + 8) (S + 48) 2782 [(0, .ref b), (1, .ref (g.2.1 0)), (2, .ref (g.2.1 94)), (3, .ref (g.2.1 121)), (4, .int x4)] [] M) (h : wpO (F_LAWc_12 xs L x4 M) PHI) : GG p l e room_1 s m args below meth c g 8 Q C S 967 [(0, .ref b), (1, .ref (g.2.1 0)), (2, .ref (g.2.1 94)), (3, .ref (g.2.1 121)), (4, .int x4)] [] M := by
  have J1039 : ∀ (x5 : Int32) (s1 : Int32) (s2 : Int32) (s3 : Int32) (s4 : Bool) (M : Mem), wpO (F_LAWc_12_j1039 xs L x4 x5 s1 s2 s3 s4 M) PHI → GG p l e room_1 s m args below meth c g 8 Q (C + 4) (S + 24) 1039 [(0, .ref b), (1, .ref (g.2.1 0)), (2, .ref (g.2.1 94)), (3, .ref (g.2.1 121)), (4, .int x4), (5, .int x5)] [.int ((b2i s4)), .int s3, .int s2, .int s1, .ref (g.2.1 94)] M := by
    intro x5 s1 s2 s3 s4 M h
    unfold F_LAWc_12_j1039 at h
    obtain ⟨r2, e2, h⟩ := wpO_bind h
    refine G_callVl (ci := 12) [.int s1, .int s2, .int s3, .int ((b2i s4))] [] K dL_1039 wv_1813 yd_X12_answer (Nat.le_of_ble_eq_true rfl) (sh_94 _ _) rfl (by decide) ⟨by show C + 4 + 0 ≤ 600002; omega, by show S + 24 + 0 ≤ 7302231; omega⟩ rfl rfl (Nat.le_of_ble_eq_true rfl) (K_MO_answer l g htr s1 s2 s3 ((b2i s4)) M _ _ e2) ?_
    refine G_lstore K dL_1042 (Nat.le_of_ble_eq_true rfl) rfl ?_
    refine G_aload_n rfl 3 rfl K dL_1044 ?_
    obtain ⟨r3, e3, h⟩ := wpO_bind h
    refine G_callVi (ci := 12) [] [] K dL_1045 wv_1470 yd_X12_thrown (Nat.le_of_ble_eq_true rfl) (sh_94 _ _) rfl (by decide) ⟨by show C + 4 + 0 ≤ 600002; omega, by show S + 24 + 0 ≤ 7302231; omega⟩ rfl rfl (Nat.le_of_ble_eq_true rfl) (K_MO_thrown l g htr  r2.2 _ e3) ?_
    refine G_iload 6 rfl K dL_1048 ?_
    refine G_icmp_eq (tgt := 1055) K dL_1050 (by decide) (fun hc => ?_) (fun hc => ?_)
    · have h := wpO_t h hc
      refine G_iload 6 rfl K dL_1055 ?_
      refine G_if_ne (tgt := 1071) K dL_1057 (by decide) (fun hc => ?_) (fun hc => ?_)
      · have h := wpO_f h hc
        refine G_goto (tgt := 2782) K dL_1071 (by decide) ?_
        exact G_wide (k := C + 8) (n := S + 48) (by show C + 4 ≤ C + 8; omega) (by show S + 24 ≤ S + 48; omega) (G_lv (lv' := [(0, .ref b), (1, .ref (g.2.1 0)), (2, .ref (g.2.1 94)), (3, .ref (g.2.1 121)), (4, .int x4)]) [1, 2, 3, 4, 5] rfl (hnext r2.2 (wpO_some h)))
      · have h := wpO_t h hc
        refine G_aload_n rfl 4 rfl K dL_1060 ?_
        refine G_iconst (v := 0) rfl K dL_1061 ?_
        obtain ⟨hin, h⟩ := wpO_g h
        refine G_lald K dL_1062 (Nat.le_of_ble_eq_true rfl) (sh_121 _ _) hin ?_
        refine G_lload 0 rfl K dL_1063 ?_
        refine G_lcmp_eq (tgt := 1071) K dL_1065 dL_1066 (by decide) (fun hc => ?_) (fun hc => ?_)
        · have h := wpO_t h hc
          refine G_goto (tgt := 2782) K dL_1071 (by decide) ?_
          exact G_wide (k := C + 8) (n := S + 48) (by show C + 4 ≤ C + 8; omega) (by show S + 24 ≤ S + 48; omega) (G_lv (lv' := [(0, .ref b), (1, .ref (g.2.1 0)), (2, .ref (g.2.1 94)), (3, .ref (g.2.1 121)), (4, .int x4)]) [1, 2, 3, 4, 5] rfl (hnext r2.2 (wpO_some h)))
        · have h := wpO_f h hc
          refine G_iconst (v := 0) rfl K dL_1069 ?_
          exact wpO_none h
    · have h := wpO_f h hc
      refine G_iconst (v := 0) rfl K dL_1053 ?_
      exact wpO_none h
  have J1000 : ∀ (s1 : Int32) (s2 : Int32) (s3 : Int32) (s4 : Bool) (M : Mem), wpO (F_LAWc_12_j1000 xs L x4 s1 s2 s3 s4 M) PHI → GG p l e room_1 s m args below meth c g 8 Q (C + 0) (S + 0) 1000 [(0, .ref b), (1, .ref (g.2.1 0)), (2, .ref (g.2.1 94)), (3, .ref (g.2.1 121)), (4, .int x4)] [.int ((b2i s4)), .int s3, .int s2, .int s1, .ref (g.2.1 0)] M := by
    intro s1 s2 s3 s4 M h
    unfold F_LAWc_12_j1000 at h
    refine G_aload_n rfl 3 rfl K dL_1000 ?_
    obtain ⟨r1, e1, h⟩ := wpO_bind h
    refine G_callH [.ref (g.2.1 0), .int s1, .int s2, .int s3, .int ((b2i s4)), .ref (g.2.1 121)] [] K dL_1001 wv_1049 yd_L_answer (by decide) ⟨by show C + 0 + 4 ≤ 600002; omega, by show S + 0 + 24 ≤ 7302231; omega⟩ rfl rfl (Nat.le_of_ble_eq_true rfl) (K_LAW_answer l g htr s1 s2 s3 ((b2i s4)) M _ _ e1) ?_
    refine G_istore K dL_1004 (Nat.le_of_ble_eq_true rfl) rfl ?_
    refine G_aload_n rfl 3 rfl K dL_1006 ?_
    refine G_aload_n rfl 1 rfl K dL_1007 ?_
    refine G_iload 5 rfl K dL_1008 ?_
    refine G_iconst (v := 1) rfl K dL_1010 ?_
    refine G_iadd K dL_1011 ?_
    obtain ⟨hin, h⟩ := wpO_g h
    refine G_sld K hX hbl hbA dL_1012 hin ?_
    refine G_aload_n rfl 1 rfl K dL_1013 ?_
    refine G_iload 5 rfl K dL_1014 ?_
    refine G_iconst (v := 2) rfl K dL_1016 ?_
    refine G_iadd K dL_1017 ?_
    obtain ⟨hin, h⟩ := wpO_g h
    refine G_sld K hX hbl hbA dL_1018 hin ?_
    refine G_aload_n rfl 1 rfl K dL_1019 ?_
    refine G_iload 5 rfl K dL_1020 ?_
    refine G_iconst (v := 3) rfl K dL_1022 ?_
    refine G_iadd K dL_1023 ?_
    obtain ⟨hin, h⟩ := wpO_g h
    refine G_sld K hX hbl hbA dL_1024 hin ?_
    refine G_aload_n rfl 1 rfl K dL_1025 ?_
    refine G_iload 5 rfl K dL_1026 ?_
    refine G_iconst (v := 4) rfl K dL_1028 ?_
    refine G_iadd K dL_1029 ?_
    obtain ⟨hin, h⟩ := wpO_g h
    refine G_sld K hX hbl hbA dL_1030 hin ?_
    refine G_if_eq (tgt := 1038) K dL_1031 (by decide) (fun hc => ?_) (fun hc => ?_)
    · have h := wpO_t h hc
      refine G_iconst (v := 0) rfl K dL_1038 ?_
      exact G_lv (lv' := [(0, .ref b), (1, .ref (g.2.1 0)), (2, .ref (g.2.1 94)), (3, .ref (g.2.1 121)), (4, .int x4), (5, .int r1.1)]) [1, 2, 3, 4, 5, 0] rfl (J1039 r1.1 (xs (x4 + 1).toNatClampNeg) (xs (x4 + 2).toNatClampNeg) (xs (x4 + 3).toNatClampNeg) false r1.2 h)
    · have h := wpO_f h hc
      refine G_iconst (v := 1) rfl K dL_1034 ?_
      refine G_goto (tgt := 1039) K dL_1035 (by decide) ?_
      exact G_lv (lv' := [(0, .ref b), (1, .ref (g.2.1 0)), (2, .ref (g.2.1 94)), (3, .ref (g.2.1 121)), (4, .int x4), (5, .int r1.1)]) [1, 2, 3, 4, 5, 0] rfl (J1039 r1.1 (xs (x4 + 1).toNatClampNeg) (xs (x4 + 2).toNatClampNeg) (xs (x4 + 3).toNatClampNeg) true r1.2 h)
  unfold F_LAWc_12 at h
  refine G_aload_n rfl 1 rfl K dL_967 ?_
  refine G_aload_n rfl 0 rfl K dL_968 ?_
  refine G_iload 4 rfl K dL_969 ?_
  refine G_iconst (v := 1) rfl K dL_971 ?_
  refine G_iadd K dL_972 ?_
  obtain ⟨hin, h⟩ := wpO_g h
  refine G_sld K hX hbl hbA dL_973 hin ?_
  refine G_aload_n rfl 0 rfl K dL_974 ?_
  refine G_iload 4 rfl K dL_975 ?_
  refine G_iconst (v := 2) rfl K dL_977 ?_
  refine G_iadd K dL_978 ?_
  obtain ⟨hin, h⟩ := wpO_g h
  refine G_sld K hX hbl hbA dL_979 hin ?_
  refine G_aload_n rfl 0 rfl K dL_980 ?_
  refine G_iload 4 rfl K dL_981 ?_
  refine G_iconst (v := 3) rfl K dL_983 ?_
  refine G_iadd K dL_984 ?_
  obtain ⟨hin, h⟩ := wpO_g h
  refine G_sld K hX hbl hbA dL_985 hin ?_
  refine G_aload_n rfl 0 rfl K dL_986 ?_
  refine G_iload 4 rfl K dL_987 ?_
  refine G_iconst (v := 4) rfl K dL_989 ?_
  refine G_iadd K dL_990 ?_
  obtain ⟨hin, h⟩ := wpO_g h
  refine G_sld K hX hbl hbA dL_991 hin ?_
  refine G_if_eq (tgt := 999) K dL_992 (by decide) (fun hc => ?_) (fun hc => ?_)
  · have h := wpO_t h hc
    refine G_iconst (v := 0) rfl K dL_999 ?_
    exact J1000 (xs (x4 + 1).toNatClampNeg) (xs (x4 + 2).toNatClampNeg) (xs (x4 + 3).toNatClampNeg) false M h
  · have h := wpO_f h hc
    refine G_iconst (v := 1) rfl K dL_995 ?_
    refine G_goto (tgt := 1000) K dL_996 (by decide) ?_
    exact J1000 (xs (x4 + 1).toNatClampNeg) (xs (x4 + 2).toNatClampNeg) (xs (x4 + 3).toNatClampNeg) true M h
def F_LAWc_13_j1122 (xs : Nat → Int32) (L : Nat) (x4 : Int32) (x5 : Int32) (s1 : Int32) (s2 : Bool) (M : Mem) : Option (Mem) :=
  (F_MO_least s1 ((b2i s2)) M).bind fun r2 => (F_MO_thrown r2.2).bind fun r3 => if r3 = x5 then if x5 = 0 then if inb ((0 : Int32)) 1 then if (r2.2.2 121 ((0 : Int32)).toNatClampNeg) = r2.1.toInt64 then some r2.2 else none else none else some r2.2 else none
def F_LAWc_13_j1095 (xs : Nat → Int32) (L : Nat) (x4 : Int32) (s1 : Int32) (s2 : Bool) (M : Mem) : Option (Mem) :=
  (F_LAW_least s1 ((b2i s2)) M).bind fun r1 => if inb (x4 + 1) L then if inb (x4 + 2) L then if (xs (x4 + 2).toNatClampNeg) = 0 then F_LAWc_13_j1122 xs L x4 r1.1 (xs (x4 + 1).toNatClampNeg) false r1.2 else F_LAWc_13_j1122 xs L x4 r1.1 (xs (x4 + 1).toNatClampNeg) true r1.2 else none else none
def F_LAWc_13 (xs : Nat → Int32) (L : Nat) (x4 : Int32) (M : Mem) : Option Mem :=
  if inb (x4 + 1) L then if inb (x4 + 2) L then if (xs (x4 + 2).toNatClampNeg) = 0 then F_LAWc_13_j1095 xs L x4 (xs (x4 + 1).toNatClampNeg) false M else F_LAWc_13_j1095 xs L x4 (xs (x4 + 1).toNatClampNeg) true M else none else none
set_option maxRecDepth 100000 in
set_option maxHeartbeats 8000000 in
theorem K_LAWc_13 {p : Program} {l : Launch} {e : Env} {s : State} {m : MethodId} {args : Array Value} {below : List Frame} {meth : Method} {c : Code} {g : GB} {Q : State → Prop} {b L : Nat} {xs : Nat → Int32} (K : KF p l s m args meth c g code 8 "KeptWellLaw") (htr : l.stackTraces = false) (hX : va_X b L xs s s.heap) (hbl : b < s.heap.size) (hbA : ¬ AS g s.heap.size b) (C S : Nat) (hC : C + 8 ≤ 600002) (hS : S + 48 ≤ 7302231) (x4 : Int32) (M : Mem) (PHI : Mem → Prop) (hnext : ∀ M, PHI M → GG p l e room_1 s m args below meth c g 8 Q (C + 8) (S + 48) 2782 [(0, .ref b), (1, .ref (g.2.1 0)), (2, .ref (g.2.1 94)), (3, .ref (g.2.1 121)), (4, .int x4)] [] M) (h : wpO (F_LAWc_13 xs L x4 M) PHI) : GG p l e room_1 s m args below meth c g 8 Q C S 1074 [(0, .ref b), (1, .ref (g.2.1 0)), (2, .ref (g.2.1 94)), (3, .ref (g.2.1 121)), (4, .int x4)] [] M := by
  have J1122 : ∀ (x5 : Int32) (s1 : Int32) (s2 : Bool) (M : Mem), wpO (F_LAWc_13_j1122 xs L x4 x5 s1 s2 M) PHI → GG p l e room_1 s m args below meth c g 8 Q (C + 1) (S + 6) 1122 [(0, .ref b), (1, .ref (g.2.1 0)), (2, .ref (g.2.1 94)), (3, .ref (g.2.1 121)), (4, .int x4), (5, .int x5)] [.int ((b2i s2)), .int s1, .ref (g.2.1 94)] M := by
    intro x5 s1 s2 M h
    unfold F_LAWc_13_j1122 at h
    obtain ⟨r2, e2, h⟩ := wpO_bind h
    refine G_callVi (ci := 12) [.int s1, .int ((b2i s2))] [] K dL_1122 wv_1817 yd_X12_least (Nat.le_of_ble_eq_true rfl) (sh_94 _ _) rfl (by decide) ⟨by show C + 1 + 0 ≤ 600002; omega, by show S + 6 + 0 ≤ 7302231; omega⟩ rfl rfl (Nat.le_of_ble_eq_true rfl) (K_MO_least l g htr s1 ((b2i s2)) M _ _ e2) ?_
    refine G_istore K dL_1125 (Nat.le_of_ble_eq_true rfl) rfl ?_
    refine G_aload_n rfl 3 rfl K dL_1127 ?_
    obtain ⟨r3, e3, h⟩ := wpO_bind h
    refine G_callVi (ci := 12) [] [] K dL_1128 wv_1470 yd_X12_thrown (Nat.le_of_ble_eq_true rfl) (sh_94 _ _) rfl (by decide) ⟨by show C + 1 + 0 ≤ 600002; omega, by show S + 6 + 0 ≤ 7302231; omega⟩ rfl rfl (Nat.le_of_ble_eq_true rfl) (K_MO_thrown l g htr  r2.2 _ e3) ?_
    refine G_iload 6 rfl K dL_1131 ?_
    refine G_icmp_eq (tgt := 1138) K dL_1133 (by decide) (fun hc => ?_) (fun hc => ?_)
    · have h := wpO_t h hc
      refine G_iload 6 rfl K dL_1138 ?_
      refine G_if_ne (tgt := 1155) K dL_1140 (by decide) (fun hc => ?_) (fun hc => ?_)
      · have h := wpO_f h hc
        refine G_goto (tgt := 2782) K dL_1155 (by decide) ?_
        exact G_wide (k := C + 8) (n := S + 48) (by show C + 1 ≤ C + 8; omega) (by show S + 6 ≤ S + 48; omega) (G_lv (lv' := [(0, .ref b), (1, .ref (g.2.1 0)), (2, .ref (g.2.1 94)), (3, .ref (g.2.1 121)), (4, .int x4)]) [1, 2, 3, 4, 5] rfl (hnext r2.2 (wpO_some h)))
      · have h := wpO_t h hc
        refine G_aload_n rfl 4 rfl K dL_1143 ?_
        refine G_iconst (v := 0) rfl K dL_1144 ?_
        obtain ⟨hin, h⟩ := wpO_g h
        refine G_lald K dL_1145 (Nat.le_of_ble_eq_true rfl) (sh_121 _ _) hin ?_
        refine G_iload 0 rfl K dL_1146 ?_
        refine G_i2l K dL_1148 ?_
        refine G_lcmp_eq (tgt := 1155) K dL_1149 dL_1150 (by decide) (fun hc => ?_) (fun hc => ?_)
        · have h := wpO_t h hc
          refine G_goto (tgt := 2782) K dL_1155 (by decide) ?_
          exact G_wide (k := C + 8) (n := S + 48) (by show C + 1 ≤ C + 8; omega) (by show S + 6 ≤ S + 48; omega) (G_lv (lv' := [(0, .ref b), (1, .ref (g.2.1 0)), (2, .ref (g.2.1 94)), (3, .ref (g.2.1 121)), (4, .int x4)]) [1, 2, 3, 4, 5] rfl (hnext r2.2 (wpO_some h)))
        · have h := wpO_f h hc
          refine G_iconst (v := 0) rfl K dL_1153 ?_
          exact wpO_none h
    · have h := wpO_f h hc
      refine G_iconst (v := 0) rfl K dL_1136 ?_
      exact wpO_none h
  have J1095 : ∀ (s1 : Int32) (s2 : Bool) (M : Mem), wpO (F_LAWc_13_j1095 xs L x4 s1 s2 M) PHI → GG p l e room_1 s m args below meth c g 8 Q (C + 0) (S + 0) 1095 [(0, .ref b), (1, .ref (g.2.1 0)), (2, .ref (g.2.1 94)), (3, .ref (g.2.1 121)), (4, .int x4)] [.int ((b2i s2)), .int s1, .ref (g.2.1 0)] M := by
    intro s1 s2 M h
    unfold F_LAWc_13_j1095 at h
    refine G_aload_n rfl 3 rfl K dL_1095 ?_
    obtain ⟨r1, e1, h⟩ := wpO_bind h
    refine G_callH [.ref (g.2.1 0), .int s1, .int ((b2i s2)), .ref (g.2.1 121)] [] K dL_1096 wv_1061 yd_L_least (by decide) ⟨by show C + 0 + 1 ≤ 600002; omega, by show S + 0 + 6 ≤ 7302231; omega⟩ rfl rfl (Nat.le_of_ble_eq_true rfl) (K_LAW_least l g htr s1 ((b2i s2)) M _ _ e1) ?_
    refine G_istore K dL_1099 (Nat.le_of_ble_eq_true rfl) rfl ?_
    refine G_aload_n rfl 3 rfl K dL_1101 ?_
    refine G_aload_n rfl 1 rfl K dL_1102 ?_
    refine G_iload 5 rfl K dL_1103 ?_
    refine G_iconst (v := 1) rfl K dL_1105 ?_
    refine G_iadd K dL_1106 ?_
    obtain ⟨hin, h⟩ := wpO_g h
    refine G_sld K hX hbl hbA dL_1107 hin ?_
    refine G_aload_n rfl 1 rfl K dL_1108 ?_
    refine G_iload 5 rfl K dL_1109 ?_
    refine G_iconst (v := 2) rfl K dL_1111 ?_
    refine G_iadd K dL_1112 ?_
    obtain ⟨hin, h⟩ := wpO_g h
    refine G_sld K hX hbl hbA dL_1113 hin ?_
    refine G_if_eq (tgt := 1121) K dL_1114 (by decide) (fun hc => ?_) (fun hc => ?_)
    · have h := wpO_t h hc
      refine G_iconst (v := 0) rfl K dL_1121 ?_
      exact G_lv (lv' := [(0, .ref b), (1, .ref (g.2.1 0)), (2, .ref (g.2.1 94)), (3, .ref (g.2.1 121)), (4, .int x4), (5, .int r1.1)]) [1, 2, 3, 4, 5, 0] rfl (J1122 r1.1 (xs (x4 + 1).toNatClampNeg) false r1.2 h)
    · have h := wpO_f h hc
      refine G_iconst (v := 1) rfl K dL_1117 ?_
      refine G_goto (tgt := 1122) K dL_1118 (by decide) ?_
      exact G_lv (lv' := [(0, .ref b), (1, .ref (g.2.1 0)), (2, .ref (g.2.1 94)), (3, .ref (g.2.1 121)), (4, .int x4), (5, .int r1.1)]) [1, 2, 3, 4, 5, 0] rfl (J1122 r1.1 (xs (x4 + 1).toNatClampNeg) true r1.2 h)
  unfold F_LAWc_13 at h
  refine G_aload_n rfl 1 rfl K dL_1074 ?_
  refine G_aload_n rfl 0 rfl K dL_1075 ?_
  refine G_iload 4 rfl K dL_1076 ?_
  refine G_iconst (v := 1) rfl K dL_1078 ?_
  refine G_iadd K dL_1079 ?_
  obtain ⟨hin, h⟩ := wpO_g h
  refine G_sld K hX hbl hbA dL_1080 hin ?_
  refine G_aload_n rfl 0 rfl K dL_1081 ?_
  refine G_iload 4 rfl K dL_1082 ?_
  refine G_iconst (v := 2) rfl K dL_1084 ?_
  refine G_iadd K dL_1085 ?_
  obtain ⟨hin, h⟩ := wpO_g h
  refine G_sld K hX hbl hbA dL_1086 hin ?_
  refine G_if_eq (tgt := 1094) K dL_1087 (by decide) (fun hc => ?_) (fun hc => ?_)
  · have h := wpO_t h hc
    refine G_iconst (v := 0) rfl K dL_1094 ?_
    exact J1095 (xs (x4 + 1).toNatClampNeg) false M h
  · have h := wpO_f h hc
    refine G_iconst (v := 1) rfl K dL_1090 ?_
    refine G_goto (tgt := 1095) K dL_1091 (by decide) ?_
    exact J1095 (xs (x4 + 1).toNatClampNeg) true M h
def F_LAWc_14_j1206 (xs : Nat → Int32) (L : Nat) (x4 : Int32) (x5 : Int32) (s1 : Int32) (s2 : Bool) (M : Mem) : Option (Mem) :=
  (F_MO_lots s1 ((b2i s2)) M).bind fun r2 => (F_MO_thrown r2.2).bind fun r3 => if r3 = x5 then if x5 = 0 then if inb ((0 : Int32)) 1 then if (r2.2.2 121 ((0 : Int32)).toNatClampNeg) = r2.1 then some r2.2 else none else none else some r2.2 else none
def F_LAWc_14_j1179 (xs : Nat → Int32) (L : Nat) (x4 : Int32) (s1 : Int32) (s2 : Bool) (M : Mem) : Option (Mem) :=
  (F_LAW_lots s1 ((b2i s2)) M).bind fun r1 => if inb (x4 + 1) L then if inb (x4 + 2) L then if (xs (x4 + 2).toNatClampNeg) = 0 then F_LAWc_14_j1206 xs L x4 r1.1 (xs (x4 + 1).toNatClampNeg) false r1.2 else F_LAWc_14_j1206 xs L x4 r1.1 (xs (x4 + 1).toNatClampNeg) true r1.2 else none else none
def F_LAWc_14 (xs : Nat → Int32) (L : Nat) (x4 : Int32) (M : Mem) : Option Mem :=
  if inb (x4 + 1) L then if inb (x4 + 2) L then if (xs (x4 + 2).toNatClampNeg) = 0 then F_LAWc_14_j1179 xs L x4 (xs (x4 + 1).toNatClampNeg) false M else F_LAWc_14_j1179 xs L x4 (xs (x4 + 1).toNatClampNeg) true M else none else none
set_option maxRecDepth 100000 in
set_option maxHeartbeats 8000000 in
theorem K_LAWc_14 {p : Program} {l : Launch} {e : Env} {s : State} {m : MethodId} {args : Array Value} {below : List Frame} {meth : Method} {c : Code} {g : GB} {Q : State → Prop} {b L : Nat} {xs : Nat → Int32} (K : KF p l s m args meth c g code 8 "KeptWellLaw") (htr : l.stackTraces = false) (hX : va_X b L xs s s.heap) (hbl : b < s.heap.size) (hbA : ¬ AS g s.heap.size b) (C S : Nat) (hC : C + 8 ≤ 600002) (hS : S + 48 ≤ 7302231) (x4 : Int32) (M : Mem) (PHI : Mem → Prop) (hnext : ∀ M, PHI M → GG p l e room_1 s m args below meth c g 8 Q (C + 8) (S + 48) 2782 [(0, .ref b), (1, .ref (g.2.1 0)), (2, .ref (g.2.1 94)), (3, .ref (g.2.1 121)), (4, .int x4)] [] M) (h : wpO (F_LAWc_14 xs L x4 M) PHI) : GG p l e room_1 s m args below meth c g 8 Q C S 1158 [(0, .ref b), (1, .ref (g.2.1 0)), (2, .ref (g.2.1 94)), (3, .ref (g.2.1 121)), (4, .int x4)] [] M := by
  have J1206 : ∀ (x5 : Int32) (s1 : Int32) (s2 : Bool) (M : Mem), wpO (F_LAWc_14_j1206 xs L x4 x5 s1 s2 M) PHI → GG p l e room_1 s m args below meth c g 8 Q (C + 1) (S + 6) 1206 [(0, .ref b), (1, .ref (g.2.1 0)), (2, .ref (g.2.1 94)), (3, .ref (g.2.1 121)), (4, .int x4), (5, .int x5)] [.int ((b2i s2)), .int s1, .ref (g.2.1 94)] M := by
    intro x5 s1 s2 M h
    unfold F_LAWc_14_j1206 at h
    obtain ⟨r2, e2, h⟩ := wpO_bind h
    refine G_callVl (ci := 12) [.int s1, .int ((b2i s2))] [] K dL_1206 wv_1838 yd_X12_lots (Nat.le_of_ble_eq_true rfl) (sh_94 _ _) rfl (by decide) ⟨by show C + 1 + 0 ≤ 600002; omega, by show S + 6 + 0 ≤ 7302231; omega⟩ rfl rfl (Nat.le_of_ble_eq_true rfl) (K_MO_lots l g htr s1 ((b2i s2)) M _ _ e2) ?_
    refine G_lstore K dL_1209 (Nat.le_of_ble_eq_true rfl) rfl ?_
    refine G_aload_n rfl 3 rfl K dL_1211 ?_
    obtain ⟨r3, e3, h⟩ := wpO_bind h
    refine G_callVi (ci := 12) [] [] K dL_1212 wv_1470 yd_X12_thrown (Nat.le_of_ble_eq_true rfl) (sh_94 _ _) rfl (by decide) ⟨by show C + 1 + 0 ≤ 600002; omega, by show S + 6 + 0 ≤ 7302231; omega⟩ rfl rfl (Nat.le_of_ble_eq_true rfl) (K_MO_thrown l g htr  r2.2 _ e3) ?_
    refine G_iload 6 rfl K dL_1215 ?_
    refine G_icmp_eq (tgt := 1222) K dL_1217 (by decide) (fun hc => ?_) (fun hc => ?_)
    · have h := wpO_t h hc
      refine G_iload 6 rfl K dL_1222 ?_
      refine G_if_ne (tgt := 1238) K dL_1224 (by decide) (fun hc => ?_) (fun hc => ?_)
      · have h := wpO_f h hc
        refine G_goto (tgt := 2782) K dL_1238 (by decide) ?_
        exact G_wide (k := C + 8) (n := S + 48) (by show C + 1 ≤ C + 8; omega) (by show S + 6 ≤ S + 48; omega) (G_lv (lv' := [(0, .ref b), (1, .ref (g.2.1 0)), (2, .ref (g.2.1 94)), (3, .ref (g.2.1 121)), (4, .int x4)]) [1, 2, 3, 4, 5] rfl (hnext r2.2 (wpO_some h)))
      · have h := wpO_t h hc
        refine G_aload_n rfl 4 rfl K dL_1227 ?_
        refine G_iconst (v := 0) rfl K dL_1228 ?_
        obtain ⟨hin, h⟩ := wpO_g h
        refine G_lald K dL_1229 (Nat.le_of_ble_eq_true rfl) (sh_121 _ _) hin ?_
        refine G_lload 0 rfl K dL_1230 ?_
        refine G_lcmp_eq (tgt := 1238) K dL_1232 dL_1233 (by decide) (fun hc => ?_) (fun hc => ?_)
        · have h := wpO_t h hc
          refine G_goto (tgt := 2782) K dL_1238 (by decide) ?_
          exact G_wide (k := C + 8) (n := S + 48) (by show C + 1 ≤ C + 8; omega) (by show S + 6 ≤ S + 48; omega) (G_lv (lv' := [(0, .ref b), (1, .ref (g.2.1 0)), (2, .ref (g.2.1 94)), (3, .ref (g.2.1 121)), (4, .int x4)]) [1, 2, 3, 4, 5] rfl (hnext r2.2 (wpO_some h)))
        · have h := wpO_f h hc
          refine G_iconst (v := 0) rfl K dL_1236 ?_
          exact wpO_none h
    · have h := wpO_f h hc
      refine G_iconst (v := 0) rfl K dL_1220 ?_
      exact wpO_none h
  have J1179 : ∀ (s1 : Int32) (s2 : Bool) (M : Mem), wpO (F_LAWc_14_j1179 xs L x4 s1 s2 M) PHI → GG p l e room_1 s m args below meth c g 8 Q (C + 0) (S + 0) 1179 [(0, .ref b), (1, .ref (g.2.1 0)), (2, .ref (g.2.1 94)), (3, .ref (g.2.1 121)), (4, .int x4)] [.int ((b2i s2)), .int s1, .ref (g.2.1 0)] M := by
    intro s1 s2 M h
    unfold F_LAWc_14_j1179 at h
    refine G_aload_n rfl 3 rfl K dL_1179 ?_
    obtain ⟨r1, e1, h⟩ := wpO_bind h
    refine G_callH [.ref (g.2.1 0), .int s1, .int ((b2i s2)), .ref (g.2.1 121)] [] K dL_1180 wv_1077 yd_L_lots (by decide) ⟨by show C + 0 + 1 ≤ 600002; omega, by show S + 0 + 6 ≤ 7302231; omega⟩ rfl rfl (Nat.le_of_ble_eq_true rfl) (K_LAW_lots l g htr s1 ((b2i s2)) M _ _ e1) ?_
    refine G_istore K dL_1183 (Nat.le_of_ble_eq_true rfl) rfl ?_
    refine G_aload_n rfl 3 rfl K dL_1185 ?_
    refine G_aload_n rfl 1 rfl K dL_1186 ?_
    refine G_iload 5 rfl K dL_1187 ?_
    refine G_iconst (v := 1) rfl K dL_1189 ?_
    refine G_iadd K dL_1190 ?_
    obtain ⟨hin, h⟩ := wpO_g h
    refine G_sld K hX hbl hbA dL_1191 hin ?_
    refine G_aload_n rfl 1 rfl K dL_1192 ?_
    refine G_iload 5 rfl K dL_1193 ?_
    refine G_iconst (v := 2) rfl K dL_1195 ?_
    refine G_iadd K dL_1196 ?_
    obtain ⟨hin, h⟩ := wpO_g h
    refine G_sld K hX hbl hbA dL_1197 hin ?_
    refine G_if_eq (tgt := 1205) K dL_1198 (by decide) (fun hc => ?_) (fun hc => ?_)
    · have h := wpO_t h hc
      refine G_iconst (v := 0) rfl K dL_1205 ?_
      exact G_lv (lv' := [(0, .ref b), (1, .ref (g.2.1 0)), (2, .ref (g.2.1 94)), (3, .ref (g.2.1 121)), (4, .int x4), (5, .int r1.1)]) [1, 2, 3, 4, 5, 0] rfl (J1206 r1.1 (xs (x4 + 1).toNatClampNeg) false r1.2 h)
    · have h := wpO_f h hc
      refine G_iconst (v := 1) rfl K dL_1201 ?_
      refine G_goto (tgt := 1206) K dL_1202 (by decide) ?_
      exact G_lv (lv' := [(0, .ref b), (1, .ref (g.2.1 0)), (2, .ref (g.2.1 94)), (3, .ref (g.2.1 121)), (4, .int x4), (5, .int r1.1)]) [1, 2, 3, 4, 5, 0] rfl (J1206 r1.1 (xs (x4 + 1).toNatClampNeg) true r1.2 h)
  unfold F_LAWc_14 at h
  refine G_aload_n rfl 1 rfl K dL_1158 ?_
  refine G_aload_n rfl 0 rfl K dL_1159 ?_
  refine G_iload 4 rfl K dL_1160 ?_
  refine G_iconst (v := 1) rfl K dL_1162 ?_
  refine G_iadd K dL_1163 ?_
  obtain ⟨hin, h⟩ := wpO_g h
  refine G_sld K hX hbl hbA dL_1164 hin ?_
  refine G_aload_n rfl 0 rfl K dL_1165 ?_
  refine G_iload 4 rfl K dL_1166 ?_
  refine G_iconst (v := 2) rfl K dL_1168 ?_
  refine G_iadd K dL_1169 ?_
  obtain ⟨hin, h⟩ := wpO_g h
  refine G_sld K hX hbl hbA dL_1170 hin ?_
  refine G_if_eq (tgt := 1178) K dL_1171 (by decide) (fun hc => ?_) (fun hc => ?_)
  · have h := wpO_t h hc
    refine G_iconst (v := 0) rfl K dL_1178 ?_
    exact J1179 (xs (x4 + 1).toNatClampNeg) false M h
  · have h := wpO_f h hc
    refine G_iconst (v := 1) rfl K dL_1174 ?_
    refine G_goto (tgt := 1179) K dL_1175 (by decide) ?_
    exact J1179 (xs (x4 + 1).toNatClampNeg) true M h
def F_LAWc_15 (xs : Nat → Int32) (L : Nat) (x4 : Int32) (M : Mem) : Option Mem :=
  (F_KW_once M).bind fun r1 => (F_MO_once M).bind fun r2 => if r1 = r2.1 then some r2.2 else none
set_option maxRecDepth 100000 in
set_option maxHeartbeats 8000000 in
theorem K_LAWc_15 {p : Program} {l : Launch} {e : Env} {s : State} {m : MethodId} {args : Array Value} {below : List Frame} {meth : Method} {c : Code} {g : GB} {Q : State → Prop} {b L : Nat} {xs : Nat → Int32} (K : KF p l s m args meth c g code 8 "KeptWellLaw") (htr : l.stackTraces = false) (hX : va_X b L xs s s.heap) (hbl : b < s.heap.size) (hbA : ¬ AS g s.heap.size b) (C S : Nat) (hC : C + 8 ≤ 600002) (hS : S + 48 ≤ 7302231) (x4 : Int32) (M : Mem) (PHI : Mem → Prop) (hnext : ∀ M, PHI M → GG p l e room_1 s m args below meth c g 8 Q (C + 8) (S + 48) 2782 [(0, .ref b), (1, .ref (g.2.1 0)), (2, .ref (g.2.1 94)), (3, .ref (g.2.1 121)), (4, .int x4)] [] M) (h : wpO (F_LAWc_15 xs L x4 M) PHI) : GG p l e room_1 s m args below meth c g 8 Q C S 1241 [(0, .ref b), (1, .ref (g.2.1 0)), (2, .ref (g.2.1 94)), (3, .ref (g.2.1 121)), (4, .int x4)] [] M := by
  unfold F_LAWc_15 at h
  refine G_aload_n rfl 1 rfl K dL_1241 ?_
  obtain ⟨r1, e1, h⟩ := wpO_bind h
  refine G_callVi (ci := 11) [] [] K dL_1242 wv_564 yd_X11_once (Nat.le_of_ble_eq_true rfl) (sh_0 _ _) rfl (by decide) ⟨by show C + 0 + 0 ≤ 600002; omega, by show S + 0 + 0 ≤ 7302231; omega⟩ rfl rfl (Nat.le_of_ble_eq_true rfl) (K_KW_once l g htr  M _ e1) ?_
  refine G_aload_n rfl 2 rfl K dL_1245 ?_
  obtain ⟨r2, e2, h⟩ := wpO_bind h
  refine G_callVi (ci := 12) [] [.int r1] K dL_1246 wv_1858 yd_X12_once (Nat.le_of_ble_eq_true rfl) (sh_94 _ _) rfl (by decide) ⟨by show C + 0 + 0 ≤ 600002; omega, by show S + 0 + 0 ≤ 7302231; omega⟩ rfl rfl (Nat.le_of_ble_eq_true rfl) (K_MO_once l g htr  M _ _ e2) ?_
  refine G_icmp_eq (tgt := 2782) K dL_1249 (by decide) (fun hc => ?_) (fun hc => ?_)
  · have h := wpO_t h hc
    exact G_wide (k := C + 8) (n := S + 48) (by show C + 0 ≤ C + 8; omega) (by show S + 0 ≤ S + 48; omega) (hnext r2.2 (wpO_some h))
  · have h := wpO_f h hc
    refine G_iconst (v := 0) rfl K dL_1252 ?_
    exact wpO_none h
def F_LAWc_16_j1299 (xs : Nat → Int32) (L : Nat) (x4 : Int32) (s0 : Int32) (s2 : Int32) (s3 : Bool) (M : Mem) : Option (Mem) :=
  (F_MO_corner s2 ((b2i s3)) M).bind fun r2 => if s0 = r2.1 then some r2.2 else none
def F_LAWc_16_j1275 (xs : Nat → Int32) (L : Nat) (x4 : Int32) (s1 : Int32) (s2 : Bool) (M : Mem) : Option (Mem) :=
  (F_KW_corner s1 ((b2i s2)) M).bind fun r1 => if inb (x4 + 1) L then if inb (x4 + 2) L then if (xs (x4 + 2).toNatClampNeg) = 0 then F_LAWc_16_j1299 xs L x4 r1.1 (xs (x4 + 1).toNatClampNeg) false r1.2 else F_LAWc_16_j1299 xs L x4 r1.1 (xs (x4 + 1).toNatClampNeg) true r1.2 else none else none
def F_LAWc_16 (xs : Nat → Int32) (L : Nat) (x4 : Int32) (M : Mem) : Option Mem :=
  if inb (x4 + 1) L then if inb (x4 + 2) L then if (xs (x4 + 2).toNatClampNeg) = 0 then F_LAWc_16_j1275 xs L x4 (xs (x4 + 1).toNatClampNeg) false M else F_LAWc_16_j1275 xs L x4 (xs (x4 + 1).toNatClampNeg) true M else none else none
set_option maxRecDepth 100000 in
set_option maxHeartbeats 8000000 in
theorem K_LAWc_16 {p : Program} {l : Launch} {e : Env} {s : State} {m : MethodId} {args : Array Value} {below : List Frame} {meth : Method} {c : Code} {g : GB} {Q : State → Prop} {b L : Nat} {xs : Nat → Int32} (K : KF p l s m args meth c g code 8 "KeptWellLaw") (htr : l.stackTraces = false) (hX : va_X b L xs s s.heap) (hbl : b < s.heap.size) (hbA : ¬ AS g s.heap.size b) (C S : Nat) (hC : C + 8 ≤ 600002) (hS : S + 48 ≤ 7302231) (x4 : Int32) (M : Mem) (PHI : Mem → Prop) (hnext : ∀ M, PHI M → GG p l e room_1 s m args below meth c g 8 Q (C + 8) (S + 48) 2782 [(0, .ref b), (1, .ref (g.2.1 0)), (2, .ref (g.2.1 94)), (3, .ref (g.2.1 121)), (4, .int x4)] [] M) (h : wpO (F_LAWc_16 xs L x4 M) PHI) : GG p l e room_1 s m args below meth c g 8 Q C S 1254 [(0, .ref b), (1, .ref (g.2.1 0)), (2, .ref (g.2.1 94)), (3, .ref (g.2.1 121)), (4, .int x4)] [] M := by
  have J1299 : ∀ (s0 : Int32) (s2 : Int32) (s3 : Bool) (M : Mem), wpO (F_LAWc_16_j1299 xs L x4 s0 s2 s3 M) PHI → GG p l e room_1 s m args below meth c g 8 Q (C + 0) (S + 0) 1299 [(0, .ref b), (1, .ref (g.2.1 0)), (2, .ref (g.2.1 94)), (3, .ref (g.2.1 121)), (4, .int x4)] [.int ((b2i s3)), .int s2, .ref (g.2.1 94), .int s0] M := by
    intro s0 s2 s3 M h
    unfold F_LAWc_16_j1299 at h
    obtain ⟨r2, e2, h⟩ := wpO_bind h
    refine G_callVi (ci := 12) [.int s2, .int ((b2i s3))] [.int s0] K dL_1299 wv_1862 yd_X12_corner (Nat.le_of_ble_eq_true rfl) (sh_94 _ _) rfl (by decide) ⟨by show C + 0 + 0 ≤ 600002; omega, by show S + 0 + 0 ≤ 7302231; omega⟩ rfl rfl (Nat.le_of_ble_eq_true rfl) (K_MO_corner l g htr s2 ((b2i s3)) M _ _ e2) ?_
    refine G_icmp_eq (tgt := 2782) K dL_1302 (by decide) (fun hc => ?_) (fun hc => ?_)
    · have h := wpO_t h hc
      exact G_wide (k := C + 8) (n := S + 48) (by show C + 0 ≤ C + 8; omega) (by show S + 0 ≤ S + 48; omega) (hnext r2.2 (wpO_some h))
    · have h := wpO_f h hc
      refine G_iconst (v := 0) rfl K dL_1305 ?_
      exact wpO_none h
  have J1275 : ∀ (s1 : Int32) (s2 : Bool) (M : Mem), wpO (F_LAWc_16_j1275 xs L x4 s1 s2 M) PHI → GG p l e room_1 s m args below meth c g 8 Q (C + 0) (S + 0) 1275 [(0, .ref b), (1, .ref (g.2.1 0)), (2, .ref (g.2.1 94)), (3, .ref (g.2.1 121)), (4, .int x4)] [.int ((b2i s2)), .int s1, .ref (g.2.1 0)] M := by
    intro s1 s2 M h
    unfold F_LAWc_16_j1275 at h
    obtain ⟨r1, e1, h⟩ := wpO_bind h
    refine G_callVi (ci := 11) [.int s1, .int ((b2i s2))] [] K dL_1275 wv_582 yd_X11_corner (Nat.le_of_ble_eq_true rfl) (sh_0 _ _) rfl (by decide) ⟨by show C + 0 + 0 ≤ 600002; omega, by show S + 0 + 0 ≤ 7302231; omega⟩ rfl rfl (Nat.le_of_ble_eq_true rfl) (K_KW_corner l g htr s1 ((b2i s2)) M _ _ e1) ?_
    refine G_aload_n rfl 2 rfl K dL_1278 ?_
    refine G_aload_n rfl 0 rfl K dL_1279 ?_
    refine G_iload 4 rfl K dL_1280 ?_
    refine G_iconst (v := 1) rfl K dL_1282 ?_
    refine G_iadd K dL_1283 ?_
    obtain ⟨hin, h⟩ := wpO_g h
    refine G_sld K hX hbl hbA dL_1284 hin ?_
    refine G_aload_n rfl 0 rfl K dL_1285 ?_
    refine G_iload 4 rfl K dL_1286 ?_
    refine G_iconst (v := 2) rfl K dL_1288 ?_
    refine G_iadd K dL_1289 ?_
    obtain ⟨hin, h⟩ := wpO_g h
    refine G_sld K hX hbl hbA dL_1290 hin ?_
    refine G_if_eq (tgt := 1298) K dL_1291 (by decide) (fun hc => ?_) (fun hc => ?_)
    · have h := wpO_t h hc
      refine G_iconst (v := 0) rfl K dL_1298 ?_
      exact J1299 r1.1 (xs (x4 + 1).toNatClampNeg) false r1.2 h
    · have h := wpO_f h hc
      refine G_iconst (v := 1) rfl K dL_1294 ?_
      refine G_goto (tgt := 1299) K dL_1295 (by decide) ?_
      exact J1299 r1.1 (xs (x4 + 1).toNatClampNeg) true r1.2 h
  unfold F_LAWc_16 at h
  refine G_aload_n rfl 1 rfl K dL_1254 ?_
  refine G_aload_n rfl 0 rfl K dL_1255 ?_
  refine G_iload 4 rfl K dL_1256 ?_
  refine G_iconst (v := 1) rfl K dL_1258 ?_
  refine G_iadd K dL_1259 ?_
  obtain ⟨hin, h⟩ := wpO_g h
  refine G_sld K hX hbl hbA dL_1260 hin ?_
  refine G_aload_n rfl 0 rfl K dL_1261 ?_
  refine G_iload 4 rfl K dL_1262 ?_
  refine G_iconst (v := 2) rfl K dL_1264 ?_
  refine G_iadd K dL_1265 ?_
  obtain ⟨hin, h⟩ := wpO_g h
  refine G_sld K hX hbl hbA dL_1266 hin ?_
  refine G_if_eq (tgt := 1274) K dL_1267 (by decide) (fun hc => ?_) (fun hc => ?_)
  · have h := wpO_t h hc
    refine G_iconst (v := 0) rfl K dL_1274 ?_
    exact J1275 (xs (x4 + 1).toNatClampNeg) false M h
  · have h := wpO_f h hc
    refine G_iconst (v := 1) rfl K dL_1270 ?_
    refine G_goto (tgt := 1275) K dL_1271 (by decide) ?_
    exact J1275 (xs (x4 + 1).toNatClampNeg) true M h
def F_LAWc_17_j1413 (xs : Nat → Int32) (L : Nat) (x4 : Int32) (s0 : Int64) (s1 : Int64) (M : Mem) : Option (Mem) :=
  if s0 = s1 then some M else none
def F_LAWc_17_j1379 (xs : Nat → Int32) (L : Nat) (x4 : Int32) (x5 : Int32) (s1 : Int32) (s2 : Int32) (s3 : Int32) (s4 : Bool) (M : Mem) : Option (Mem) :=
  (F_MO_in s1 s2 s3 ((b2i s4)) M).bind fun r2 => (F_MO_thrown r2.2).bind fun r3 => if r3 = x5 then if x5 = 0 then if inb ((0 : Int32)) 1 then if r2.1 = true then F_LAWc_17_j1413 xs L x4 (r2.2.2 121 ((0 : Int32)).toNatClampNeg) 1 r2.2 else F_LAWc_17_j1413 xs L x4 (r2.2.2 121 ((0 : Int32)).toNatClampNeg) 0 r2.2 else none else some r2.2 else none
def F_LAWc_17_j1340 (xs : Nat → Int32) (L : Nat) (x4 : Int32) (s1 : Int32) (s2 : Int32) (s3 : Int32) (s4 : Bool) (M : Mem) : Option (Mem) :=
  (F_LAW_in s1 s2 s3 ((b2i s4)) M).bind fun r1 => if inb (x4 + 1) L then if inb (x4 + 2) L then if inb (x4 + 3) L then if inb (x4 + 4) L then if (xs (x4 + 4).toNatClampNeg) = 0 then F_LAWc_17_j1379 xs L x4 r1.1 (xs (x4 + 1).toNatClampNeg) (xs (x4 + 2).toNatClampNeg) (xs (x4 + 3).toNatClampNeg) false r1.2 else F_LAWc_17_j1379 xs L x4 r1.1 (xs (x4 + 1).toNatClampNeg) (xs (x4 + 2).toNatClampNeg) (xs (x4 + 3).toNatClampNeg) true r1.2 else none else none else none else none
def F_LAWc_17 (xs : Nat → Int32) (L : Nat) (x4 : Int32) (M : Mem) : Option Mem :=
  if inb (x4 + 1) L then if inb (x4 + 2) L then if inb (x4 + 3) L then if inb (x4 + 4) L then if (xs (x4 + 4).toNatClampNeg) = 0 then F_LAWc_17_j1340 xs L x4 (xs (x4 + 1).toNatClampNeg) (xs (x4 + 2).toNatClampNeg) (xs (x4 + 3).toNatClampNeg) false M else F_LAWc_17_j1340 xs L x4 (xs (x4 + 1).toNatClampNeg) (xs (x4 + 2).toNatClampNeg) (xs (x4 + 3).toNatClampNeg) true M else none else none else none else none
set_option maxRecDepth 100000 in
set_option maxHeartbeats 8000000 in
theorem K_LAWc_17 {p : Program} {l : Launch} {e : Env} {s : State} {m : MethodId} {args : Array Value} {below : List Frame} {meth : Method} {c : Code} {g : GB} {Q : State → Prop} {b L : Nat} {xs : Nat → Int32} (K : KF p l s m args meth c g code 8 "KeptWellLaw") (htr : l.stackTraces = false) (hX : va_X b L xs s s.heap) (hbl : b < s.heap.size) (hbA : ¬ AS g s.heap.size b) (C S : Nat) (hC : C + 8 ≤ 600002) (hS : S + 48 ≤ 7302231) (x4 : Int32) (M : Mem) (PHI : Mem → Prop) (hnext : ∀ M, PHI M → GG p l e room_1 s m args below meth c g 8 Q (C + 8) (S + 48) 2782 [(0, .ref b), (1, .ref (g.2.1 0)), (2, .ref (g.2.1 94)), (3, .ref (g.2.1 121)), (4, .int x4)] [] M) (h : wpO (F_LAWc_17 xs L x4 M) PHI) : GG p l e room_1 s m args below meth c g 8 Q C S 1307 [(0, .ref b), (1, .ref (g.2.1 0)), (2, .ref (g.2.1 94)), (3, .ref (g.2.1 121)), (4, .int x4)] [] M := by
  have J1413 : ∀ (s0 : Int64) (s1 : Int64) (M : Mem), wpO (F_LAWc_17_j1413 xs L x4 s0 s1 M) PHI → GG p l e room_1 s m args below meth c g 8 Q (C + 3) (S + 18) 1413 [(0, .ref b), (1, .ref (g.2.1 0)), (2, .ref (g.2.1 94)), (3, .ref (g.2.1 121)), (4, .int x4)] [.long s1, .long s0] M := by
    intro s0 s1 M h
    unfold F_LAWc_17_j1413 at h
    refine G_lcmp_eq (tgt := 1419) K dL_1413 dL_1414 (by decide) (fun hc => ?_) (fun hc => ?_)
    · have h := wpO_t h hc
      refine G_goto (tgt := 2782) K dL_1419 (by decide) ?_
      exact G_wide (k := C + 8) (n := S + 48) (by show C + 3 ≤ C + 8; omega) (by show S + 18 ≤ S + 48; omega) (hnext M (wpO_some h))
    · have h := wpO_f h hc
      refine G_iconst (v := 0) rfl K dL_1417 ?_
      exact wpO_none h
  have J1379 : ∀ (x5 : Int32) (s1 : Int32) (s2 : Int32) (s3 : Int32) (s4 : Bool) (M : Mem), wpO (F_LAWc_17_j1379 xs L x4 x5 s1 s2 s3 s4 M) PHI → GG p l e room_1 s m args below meth c g 8 Q (C + 3) (S + 18) 1379 [(0, .ref b), (1, .ref (g.2.1 0)), (2, .ref (g.2.1 94)), (3, .ref (g.2.1 121)), (4, .int x4), (5, .int x5)] [.int ((b2i s4)), .int s3, .int s2, .int s1, .ref (g.2.1 94)] M := by
    intro x5 s1 s2 s3 s4 M h
    unfold F_LAWc_17_j1379 at h
    obtain ⟨r2, e2, h⟩ := wpO_bind h
    refine G_callVi (ci := 12) [.int s1, .int s2, .int s3, .int ((b2i s4))] [] K dL_1379 wv_1876 yd_X12_in (Nat.le_of_ble_eq_true rfl) (sh_94 _ _) rfl (by decide) ⟨by show C + 3 + 0 ≤ 600002; omega, by show S + 18 + 0 ≤ 7302231; omega⟩ rfl rfl (Nat.le_of_ble_eq_true rfl) (K_MO_in l g htr s1 s2 s3 ((b2i s4)) M _ _ e2) ?_
    refine G_istore K dL_1382 (Nat.le_of_ble_eq_true rfl) rfl ?_
    refine G_aload_n rfl 3 rfl K dL_1384 ?_
    obtain ⟨r3, e3, h⟩ := wpO_bind h
    refine G_callVi (ci := 12) [] [] K dL_1385 wv_1470 yd_X12_thrown (Nat.le_of_ble_eq_true rfl) (sh_94 _ _) rfl (by decide) ⟨by show C + 3 + 0 ≤ 600002; omega, by show S + 18 + 0 ≤ 7302231; omega⟩ rfl rfl (Nat.le_of_ble_eq_true rfl) (K_MO_thrown l g htr  r2.2 _ e3) ?_
    refine G_iload 6 rfl K dL_1388 ?_
    refine G_icmp_eq (tgt := 1395) K dL_1390 (by decide) (fun hc => ?_) (fun hc => ?_)
    · have h := wpO_t h hc
      refine G_iload 6 rfl K dL_1395 ?_
      refine G_if_ne (tgt := 1419) K dL_1397 (by decide) (fun hc => ?_) (fun hc => ?_)
      · have h := wpO_f h hc
        refine G_goto (tgt := 2782) K dL_1419 (by decide) ?_
        exact G_wide (k := C + 8) (n := S + 48) (by show C + 3 ≤ C + 8; omega) (by show S + 18 ≤ S + 48; omega) (G_lv (lv' := [(0, .ref b), (1, .ref (g.2.1 0)), (2, .ref (g.2.1 94)), (3, .ref (g.2.1 121)), (4, .int x4)]) [1, 2, 3, 4, 5] rfl (hnext r2.2 (wpO_some h)))
      · have h := wpO_t h hc
        refine G_aload_n rfl 4 rfl K dL_1400 ?_
        refine G_iconst (v := 0) rfl K dL_1401 ?_
        obtain ⟨hin, h⟩ := wpO_g h
        refine G_lald K dL_1402 (Nat.le_of_ble_eq_true rfl) (sh_121 _ _) hin ?_
        refine G_iload 0 rfl K dL_1403 ?_
        refine G_ifb_eq (tgt := 1412) K dL_1405 (by decide) (fun hc => ?_) (fun hc => ?_)
        · have h := wpO_bf h hc
          refine G_lconst (v := 0) rfl K dL_1412 ?_
          exact G_lv (lv' := [(0, .ref b), (1, .ref (g.2.1 0)), (2, .ref (g.2.1 94)), (3, .ref (g.2.1 121)), (4, .int x4)]) [1, 2, 3, 4, 5] rfl (J1413 (r2.2.2 121 ((0 : Int32)).toNatClampNeg) 0 r2.2 h)
        · have h := wpO_t h hc
          refine G_lconst (v := 1) rfl K dL_1408 ?_
          refine G_goto (tgt := 1413) K dL_1409 (by decide) ?_
          exact G_lv (lv' := [(0, .ref b), (1, .ref (g.2.1 0)), (2, .ref (g.2.1 94)), (3, .ref (g.2.1 121)), (4, .int x4)]) [1, 2, 3, 4, 5] rfl (J1413 (r2.2.2 121 ((0 : Int32)).toNatClampNeg) 1 r2.2 h)
    · have h := wpO_f h hc
      refine G_iconst (v := 0) rfl K dL_1393 ?_
      exact wpO_none h
  have J1340 : ∀ (s1 : Int32) (s2 : Int32) (s3 : Int32) (s4 : Bool) (M : Mem), wpO (F_LAWc_17_j1340 xs L x4 s1 s2 s3 s4 M) PHI → GG p l e room_1 s m args below meth c g 8 Q (C + 0) (S + 0) 1340 [(0, .ref b), (1, .ref (g.2.1 0)), (2, .ref (g.2.1 94)), (3, .ref (g.2.1 121)), (4, .int x4)] [.int ((b2i s4)), .int s3, .int s2, .int s1, .ref (g.2.1 0)] M := by
    intro s1 s2 s3 s4 M h
    unfold F_LAWc_17_j1340 at h
    refine G_aload_n rfl 3 rfl K dL_1340 ?_
    obtain ⟨r1, e1, h⟩ := wpO_bind h
    refine G_callH [.ref (g.2.1 0), .int s1, .int s2, .int s3, .int ((b2i s4)), .ref (g.2.1 121)] [] K dL_1341 wv_1119 yd_L_in (by decide) ⟨by show C + 0 + 3 ≤ 600002; omega, by show S + 0 + 18 ≤ 7302231; omega⟩ rfl rfl (Nat.le_of_ble_eq_true rfl) (K_LAW_in l g htr s1 s2 s3 ((b2i s4)) M _ _ e1) ?_
    refine G_istore K dL_1344 (Nat.le_of_ble_eq_true rfl) rfl ?_
    refine G_aload_n rfl 3 rfl K dL_1346 ?_
    refine G_aload_n rfl 1 rfl K dL_1347 ?_
    refine G_iload 5 rfl K dL_1348 ?_
    refine G_iconst (v := 1) rfl K dL_1350 ?_
    refine G_iadd K dL_1351 ?_
    obtain ⟨hin, h⟩ := wpO_g h
    refine G_sld K hX hbl hbA dL_1352 hin ?_
    refine G_aload_n rfl 1 rfl K dL_1353 ?_
    refine G_iload 5 rfl K dL_1354 ?_
    refine G_iconst (v := 2) rfl K dL_1356 ?_
    refine G_iadd K dL_1357 ?_
    obtain ⟨hin, h⟩ := wpO_g h
    refine G_sld K hX hbl hbA dL_1358 hin ?_
    refine G_aload_n rfl 1 rfl K dL_1359 ?_
    refine G_iload 5 rfl K dL_1360 ?_
    refine G_iconst (v := 3) rfl K dL_1362 ?_
    refine G_iadd K dL_1363 ?_
    obtain ⟨hin, h⟩ := wpO_g h
    refine G_sld K hX hbl hbA dL_1364 hin ?_
    refine G_aload_n rfl 1 rfl K dL_1365 ?_
    refine G_iload 5 rfl K dL_1366 ?_
    refine G_iconst (v := 4) rfl K dL_1368 ?_
    refine G_iadd K dL_1369 ?_
    obtain ⟨hin, h⟩ := wpO_g h
    refine G_sld K hX hbl hbA dL_1370 hin ?_
    refine G_if_eq (tgt := 1378) K dL_1371 (by decide) (fun hc => ?_) (fun hc => ?_)
    · have h := wpO_t h hc
      refine G_iconst (v := 0) rfl K dL_1378 ?_
      exact G_lv (lv' := [(0, .ref b), (1, .ref (g.2.1 0)), (2, .ref (g.2.1 94)), (3, .ref (g.2.1 121)), (4, .int x4), (5, .int r1.1)]) [1, 2, 3, 4, 5, 0] rfl (J1379 r1.1 (xs (x4 + 1).toNatClampNeg) (xs (x4 + 2).toNatClampNeg) (xs (x4 + 3).toNatClampNeg) false r1.2 h)
    · have h := wpO_f h hc
      refine G_iconst (v := 1) rfl K dL_1374 ?_
      refine G_goto (tgt := 1379) K dL_1375 (by decide) ?_
      exact G_lv (lv' := [(0, .ref b), (1, .ref (g.2.1 0)), (2, .ref (g.2.1 94)), (3, .ref (g.2.1 121)), (4, .int x4), (5, .int r1.1)]) [1, 2, 3, 4, 5, 0] rfl (J1379 r1.1 (xs (x4 + 1).toNatClampNeg) (xs (x4 + 2).toNatClampNeg) (xs (x4 + 3).toNatClampNeg) true r1.2 h)
  unfold F_LAWc_17 at h
  refine G_aload_n rfl 1 rfl K dL_1307 ?_
  refine G_aload_n rfl 0 rfl K dL_1308 ?_
  refine G_iload 4 rfl K dL_1309 ?_
  refine G_iconst (v := 1) rfl K dL_1311 ?_
  refine G_iadd K dL_1312 ?_
  obtain ⟨hin, h⟩ := wpO_g h
  refine G_sld K hX hbl hbA dL_1313 hin ?_
  refine G_aload_n rfl 0 rfl K dL_1314 ?_
  refine G_iload 4 rfl K dL_1315 ?_
  refine G_iconst (v := 2) rfl K dL_1317 ?_
  refine G_iadd K dL_1318 ?_
  obtain ⟨hin, h⟩ := wpO_g h
  refine G_sld K hX hbl hbA dL_1319 hin ?_
  refine G_aload_n rfl 0 rfl K dL_1320 ?_
  refine G_iload 4 rfl K dL_1321 ?_
  refine G_iconst (v := 3) rfl K dL_1323 ?_
  refine G_iadd K dL_1324 ?_
  obtain ⟨hin, h⟩ := wpO_g h
  refine G_sld K hX hbl hbA dL_1325 hin ?_
  refine G_aload_n rfl 0 rfl K dL_1326 ?_
  refine G_iload 4 rfl K dL_1327 ?_
  refine G_iconst (v := 4) rfl K dL_1329 ?_
  refine G_iadd K dL_1330 ?_
  obtain ⟨hin, h⟩ := wpO_g h
  refine G_sld K hX hbl hbA dL_1331 hin ?_
  refine G_if_eq (tgt := 1339) K dL_1332 (by decide) (fun hc => ?_) (fun hc => ?_)
  · have h := wpO_t h hc
    refine G_iconst (v := 0) rfl K dL_1339 ?_
    exact J1340 (xs (x4 + 1).toNatClampNeg) (xs (x4 + 2).toNatClampNeg) (xs (x4 + 3).toNatClampNeg) false M h
  · have h := wpO_f h hc
    refine G_iconst (v := 1) rfl K dL_1335 ?_
    refine G_goto (tgt := 1340) K dL_1336 (by decide) ?_
    exact J1340 (xs (x4 + 1).toNatClampNeg) (xs (x4 + 2).toNatClampNeg) (xs (x4 + 3).toNatClampNeg) true M h
def F_LAWc_18 (xs : Nat → Int32) (L : Nat) (x4 : Int32) (M : Mem) : Option Mem :=
  if inb (x4 + 1) L then if inb (x4 + 2) L then if inb (x4 + 3) L then if inb (x4 + 4) L then (F_LAW_mild (xs (x4 + 1).toNatClampNeg) (xs (x4 + 2).toNatClampNeg) (xs (x4 + 3).toNatClampNeg) (xs (x4 + 4).toNatClampNeg) M).bind fun r1 => if inb (x4 + 1) L then if inb (x4 + 2) L then if inb (x4 + 3) L then if inb (x4 + 4) L then (F_MO_mild (xs (x4 + 1).toNatClampNeg) (xs (x4 + 2).toNatClampNeg) (xs (x4 + 3).toNatClampNeg) (xs (x4 + 4).toNatClampNeg) r1.2).bind fun r2 => (F_MO_thrown r2.2).bind fun r3 => if r3 = r1.1 then if r1.1 = 0 then if inb ((0 : Int32)) 1 then if (r2.2.2 121 ((0 : Int32)).toNatClampNeg) = r2.1.toInt64 then some r2.2 else none else none else some r2.2 else none else none else none else none else none else none else none else none else none
set_option maxRecDepth 100000 in
set_option maxHeartbeats 8000000 in
theorem K_LAWc_18 {p : Program} {l : Launch} {e : Env} {s : State} {m : MethodId} {args : Array Value} {below : List Frame} {meth : Method} {c : Code} {g : GB} {Q : State → Prop} {b L : Nat} {xs : Nat → Int32} (K : KF p l s m args meth c g code 8 "KeptWellLaw") (htr : l.stackTraces = false) (hX : va_X b L xs s s.heap) (hbl : b < s.heap.size) (hbA : ¬ AS g s.heap.size b) (C S : Nat) (hC : C + 8 ≤ 600002) (hS : S + 48 ≤ 7302231) (x4 : Int32) (M : Mem) (PHI : Mem → Prop) (hnext : ∀ M, PHI M → GG p l e room_1 s m args below meth c g 8 Q (C + 8) (S + 48) 2782 [(0, .ref b), (1, .ref (g.2.1 0)), (2, .ref (g.2.1 94)), (3, .ref (g.2.1 121)), (4, .int x4)] [] M) (h : wpO (F_LAWc_18 xs L x4 M) PHI) : GG p l e room_1 s m args below meth c g 8 Q C S 1422 [(0, .ref b), (1, .ref (g.2.1 0)), (2, .ref (g.2.1 94)), (3, .ref (g.2.1 121)), (4, .int x4)] [] M := by
  unfold F_LAWc_18 at h
  refine G_aload_n rfl 1 rfl K dL_1422 ?_
  refine G_aload_n rfl 0 rfl K dL_1423 ?_
  refine G_iload 4 rfl K dL_1424 ?_
  refine G_iconst (v := 1) rfl K dL_1426 ?_
  refine G_iadd K dL_1427 ?_
  obtain ⟨hin, h⟩ := wpO_g h
  refine G_sld K hX hbl hbA dL_1428 hin ?_
  refine G_aload_n rfl 0 rfl K dL_1429 ?_
  refine G_iload 4 rfl K dL_1430 ?_
  refine G_iconst (v := 2) rfl K dL_1432 ?_
  refine G_iadd K dL_1433 ?_
  obtain ⟨hin, h⟩ := wpO_g h
  refine G_sld K hX hbl hbA dL_1434 hin ?_
  refine G_aload_n rfl 0 rfl K dL_1435 ?_
  refine G_iload 4 rfl K dL_1436 ?_
  refine G_iconst (v := 3) rfl K dL_1438 ?_
  refine G_iadd K dL_1439 ?_
  obtain ⟨hin, h⟩ := wpO_g h
  refine G_sld K hX hbl hbA dL_1440 hin ?_
  refine G_aload_n rfl 0 rfl K dL_1441 ?_
  refine G_iload 4 rfl K dL_1442 ?_
  refine G_iconst (v := 4) rfl K dL_1444 ?_
  refine G_iadd K dL_1445 ?_
  obtain ⟨hin, h⟩ := wpO_g h
  refine G_sld K hX hbl hbA dL_1446 hin ?_
  refine G_aload_n rfl 3 rfl K dL_1447 ?_
  obtain ⟨r1, e1, h⟩ := wpO_bind h
  refine G_callH [.ref (g.2.1 0), .int (xs (x4 + 1).toNatClampNeg), .int (xs (x4 + 2).toNatClampNeg), .int (xs (x4 + 3).toNatClampNeg), .int (xs (x4 + 4).toNatClampNeg), .ref (g.2.1 121)] [] K dL_1448 wv_1144 yd_L_mild (by decide) ⟨by show C + 0 + 4 ≤ 600002; omega, by show S + 0 + 24 ≤ 7302231; omega⟩ rfl rfl (Nat.le_of_ble_eq_true rfl) (K_LAW_mild l g htr (xs (x4 + 1).toNatClampNeg) (xs (x4 + 2).toNatClampNeg) (xs (x4 + 3).toNatClampNeg) (xs (x4 + 4).toNatClampNeg) M _ _ e1) ?_
  refine G_istore K dL_1451 (Nat.le_of_ble_eq_true rfl) rfl ?_
  refine G_aload_n rfl 3 rfl K dL_1453 ?_
  refine G_aload_n rfl 1 rfl K dL_1454 ?_
  refine G_iload 5 rfl K dL_1455 ?_
  refine G_iconst (v := 1) rfl K dL_1457 ?_
  refine G_iadd K dL_1458 ?_
  obtain ⟨hin, h⟩ := wpO_g h
  refine G_sld K hX hbl hbA dL_1459 hin ?_
  refine G_aload_n rfl 1 rfl K dL_1460 ?_
  refine G_iload 5 rfl K dL_1461 ?_
  refine G_iconst (v := 2) rfl K dL_1463 ?_
  refine G_iadd K dL_1464 ?_
  obtain ⟨hin, h⟩ := wpO_g h
  refine G_sld K hX hbl hbA dL_1465 hin ?_
  refine G_aload_n rfl 1 rfl K dL_1466 ?_
  refine G_iload 5 rfl K dL_1467 ?_
  refine G_iconst (v := 3) rfl K dL_1469 ?_
  refine G_iadd K dL_1470 ?_
  obtain ⟨hin, h⟩ := wpO_g h
  refine G_sld K hX hbl hbA dL_1471 hin ?_
  refine G_aload_n rfl 1 rfl K dL_1472 ?_
  refine G_iload 5 rfl K dL_1473 ?_
  refine G_iconst (v := 4) rfl K dL_1475 ?_
  refine G_iadd K dL_1476 ?_
  obtain ⟨hin, h⟩ := wpO_g h
  refine G_sld K hX hbl hbA dL_1477 hin ?_
  obtain ⟨r2, e2, h⟩ := wpO_bind h
  refine G_callVi (ci := 12) [.int (xs (x4 + 1).toNatClampNeg), .int (xs (x4 + 2).toNatClampNeg), .int (xs (x4 + 3).toNatClampNeg), .int (xs (x4 + 4).toNatClampNeg)] [] K dL_1478 wv_1887 yd_X12_mild (Nat.le_of_ble_eq_true rfl) (sh_94 _ _) rfl (by decide) ⟨by show C + 4 + 0 ≤ 600002; omega, by show S + 24 + 0 ≤ 7302231; omega⟩ rfl rfl (Nat.le_of_ble_eq_true rfl) (K_MO_mild l g htr (xs (x4 + 1).toNatClampNeg) (xs (x4 + 2).toNatClampNeg) (xs (x4 + 3).toNatClampNeg) (xs (x4 + 4).toNatClampNeg) r1.2 _ _ e2) ?_
  refine G_istore K dL_1481 (Nat.le_of_ble_eq_true rfl) rfl ?_
  refine G_aload_n rfl 4 rfl K dL_1483 ?_
  obtain ⟨r3, e3, h⟩ := wpO_bind h
  refine G_callVi (ci := 12) [] [] K dL_1484 wv_1470 yd_X12_thrown (Nat.le_of_ble_eq_true rfl) (sh_94 _ _) rfl (by decide) ⟨by show C + 4 + 0 ≤ 600002; omega, by show S + 24 + 0 ≤ 7302231; omega⟩ rfl rfl (Nat.le_of_ble_eq_true rfl) (K_MO_thrown l g htr  r2.2 _ e3) ?_
  refine G_iload 1 rfl K dL_1487 ?_
  refine G_icmp_eq (tgt := 1494) K dL_1489 (by decide) (fun hc => ?_) (fun hc => ?_)
  · have h := wpO_t h hc
    refine G_iload 1 rfl K dL_1494 ?_
    refine G_if_ne (tgt := 1511) K dL_1496 (by decide) (fun hc => ?_) (fun hc => ?_)
    · have h := wpO_f h hc
      refine G_goto (tgt := 2782) K dL_1511 (by decide) ?_
      exact G_wide (k := C + 8) (n := S + 48) (by show C + 4 ≤ C + 8; omega) (by show S + 24 ≤ S + 48; omega) (G_lv (lv' := [(0, .ref b), (1, .ref (g.2.1 0)), (2, .ref (g.2.1 94)), (3, .ref (g.2.1 121)), (4, .int x4)]) [2, 3, 4, 5, 6] rfl (hnext r2.2 (wpO_some h)))
    · have h := wpO_t h hc
      refine G_aload_n rfl 5 rfl K dL_1499 ?_
      refine G_iconst (v := 0) rfl K dL_1500 ?_
      obtain ⟨hin, h⟩ := wpO_g h
      refine G_lald K dL_1501 (Nat.le_of_ble_eq_true rfl) (sh_121 _ _) hin ?_
      refine G_iload 0 rfl K dL_1502 ?_
      refine G_i2l K dL_1504 ?_
      refine G_lcmp_eq (tgt := 1511) K dL_1505 dL_1506 (by decide) (fun hc => ?_) (fun hc => ?_)
      · have h := wpO_t h hc
        refine G_goto (tgt := 2782) K dL_1511 (by decide) ?_
        exact G_wide (k := C + 8) (n := S + 48) (by show C + 4 ≤ C + 8; omega) (by show S + 24 ≤ S + 48; omega) (G_lv (lv' := [(0, .ref b), (1, .ref (g.2.1 0)), (2, .ref (g.2.1 94)), (3, .ref (g.2.1 121)), (4, .int x4)]) [2, 3, 4, 5, 6] rfl (hnext r2.2 (wpO_some h)))
      · have h := wpO_f h hc
        refine G_iconst (v := 0) rfl K dL_1509 ?_
        exact wpO_none h
  · have h := wpO_f h hc
    refine G_iconst (v := 0) rfl K dL_1492 ?_
    exact wpO_none h
def F_LAWc_19 (xs : Nat → Int32) (L : Nat) (x4 : Int32) (M : Mem) : Option Mem :=
  if inb (x4 + 1) L then if inb (x4 + 2) L then if inb (x4 + 3) L then (F_LAW_edge (xs (x4 + 1).toNatClampNeg) (xs (x4 + 2).toNatClampNeg) (xs (x4 + 3).toNatClampNeg) M).bind fun r1 => if inb (x4 + 1) L then if inb (x4 + 2) L then if inb (x4 + 3) L then (F_MO_edge (xs (x4 + 1).toNatClampNeg) (xs (x4 + 2).toNatClampNeg) (xs (x4 + 3).toNatClampNeg) r1.2).bind fun r2 => (F_MO_thrown r2.2).bind fun r3 => if r3 = r1.1 then if r1.1 = 0 then if inb ((0 : Int32)) 1 then if (r2.2.2 121 ((0 : Int32)).toNatClampNeg) = r2.1.toInt64 then some r2.2 else none else none else some r2.2 else none else none else none else none else none else none else none
set_option maxRecDepth 100000 in
set_option maxHeartbeats 8000000 in
theorem K_LAWc_19 {p : Program} {l : Launch} {e : Env} {s : State} {m : MethodId} {args : Array Value} {below : List Frame} {meth : Method} {c : Code} {g : GB} {Q : State → Prop} {b L : Nat} {xs : Nat → Int32} (K : KF p l s m args meth c g code 8 "KeptWellLaw") (htr : l.stackTraces = false) (hX : va_X b L xs s s.heap) (hbl : b < s.heap.size) (hbA : ¬ AS g s.heap.size b) (C S : Nat) (hC : C + 8 ≤ 600002) (hS : S + 48 ≤ 7302231) (x4 : Int32) (M : Mem) (PHI : Mem → Prop) (hnext : ∀ M, PHI M → GG p l e room_1 s m args below meth c g 8 Q (C + 8) (S + 48) 2782 [(0, .ref b), (1, .ref (g.2.1 0)), (2, .ref (g.2.1 94)), (3, .ref (g.2.1 121)), (4, .int x4)] [] M) (h : wpO (F_LAWc_19 xs L x4 M) PHI) : GG p l e room_1 s m args below meth c g 8 Q C S 1514 [(0, .ref b), (1, .ref (g.2.1 0)), (2, .ref (g.2.1 94)), (3, .ref (g.2.1 121)), (4, .int x4)] [] M := by
  unfold F_LAWc_19 at h
  refine G_aload_n rfl 1 rfl K dL_1514 ?_
  refine G_aload_n rfl 0 rfl K dL_1515 ?_
  refine G_iload 4 rfl K dL_1516 ?_
  refine G_iconst (v := 1) rfl K dL_1518 ?_
  refine G_iadd K dL_1519 ?_
  obtain ⟨hin, h⟩ := wpO_g h
  refine G_sld K hX hbl hbA dL_1520 hin ?_
  refine G_aload_n rfl 0 rfl K dL_1521 ?_
  refine G_iload 4 rfl K dL_1522 ?_
  refine G_iconst (v := 2) rfl K dL_1524 ?_
  refine G_iadd K dL_1525 ?_
  obtain ⟨hin, h⟩ := wpO_g h
  refine G_sld K hX hbl hbA dL_1526 hin ?_
  refine G_aload_n rfl 0 rfl K dL_1527 ?_
  refine G_iload 4 rfl K dL_1528 ?_
  refine G_iconst (v := 3) rfl K dL_1530 ?_
  refine G_iadd K dL_1531 ?_
  obtain ⟨hin, h⟩ := wpO_g h
  refine G_sld K hX hbl hbA dL_1532 hin ?_
  refine G_aload_n rfl 3 rfl K dL_1533 ?_
  obtain ⟨r1, e1, h⟩ := wpO_bind h
  refine G_callH [.ref (g.2.1 0), .int (xs (x4 + 1).toNatClampNeg), .int (xs (x4 + 2).toNatClampNeg), .int (xs (x4 + 3).toNatClampNeg), .ref (g.2.1 121)] [] K dL_1534 wv_1167 yd_L_edge (by decide) ⟨by show C + 0 + 5 ≤ 600002; omega, by show S + 0 + 30 ≤ 7302231; omega⟩ rfl rfl (Nat.le_of_ble_eq_true rfl) (K_LAW_edge l g htr (xs (x4 + 1).toNatClampNeg) (xs (x4 + 2).toNatClampNeg) (xs (x4 + 3).toNatClampNeg) M _ _ e1) ?_
  refine G_istore K dL_1537 (Nat.le_of_ble_eq_true rfl) rfl ?_
  refine G_aload_n rfl 3 rfl K dL_1539 ?_
  refine G_aload_n rfl 1 rfl K dL_1540 ?_
  refine G_iload 5 rfl K dL_1541 ?_
  refine G_iconst (v := 1) rfl K dL_1543 ?_
  refine G_iadd K dL_1544 ?_
  obtain ⟨hin, h⟩ := wpO_g h
  refine G_sld K hX hbl hbA dL_1545 hin ?_
  refine G_aload_n rfl 1 rfl K dL_1546 ?_
  refine G_iload 5 rfl K dL_1547 ?_
  refine G_iconst (v := 2) rfl K dL_1549 ?_
  refine G_iadd K dL_1550 ?_
  obtain ⟨hin, h⟩ := wpO_g h
  refine G_sld K hX hbl hbA dL_1551 hin ?_
  refine G_aload_n rfl 1 rfl K dL_1552 ?_
  refine G_iload 5 rfl K dL_1553 ?_
  refine G_iconst (v := 3) rfl K dL_1555 ?_
  refine G_iadd K dL_1556 ?_
  obtain ⟨hin, h⟩ := wpO_g h
  refine G_sld K hX hbl hbA dL_1557 hin ?_
  obtain ⟨r2, e2, h⟩ := wpO_bind h
  refine G_callVi (ci := 12) [.int (xs (x4 + 1).toNatClampNeg), .int (xs (x4 + 2).toNatClampNeg), .int (xs (x4 + 3).toNatClampNeg)] [] K dL_1558 wv_1902 yd_X12_edge (Nat.le_of_ble_eq_true rfl) (sh_94 _ _) rfl (by decide) ⟨by show C + 5 + 0 ≤ 600002; omega, by show S + 30 + 0 ≤ 7302231; omega⟩ rfl rfl (Nat.le_of_ble_eq_true rfl) (K_MO_edge l g htr (xs (x4 + 1).toNatClampNeg) (xs (x4 + 2).toNatClampNeg) (xs (x4 + 3).toNatClampNeg) r1.2 _ _ e2) ?_
  refine G_istore K dL_1561 (Nat.le_of_ble_eq_true rfl) rfl ?_
  refine G_aload_n rfl 4 rfl K dL_1563 ?_
  obtain ⟨r3, e3, h⟩ := wpO_bind h
  refine G_callVi (ci := 12) [] [] K dL_1564 wv_1470 yd_X12_thrown (Nat.le_of_ble_eq_true rfl) (sh_94 _ _) rfl (by decide) ⟨by show C + 5 + 0 ≤ 600002; omega, by show S + 30 + 0 ≤ 7302231; omega⟩ rfl rfl (Nat.le_of_ble_eq_true rfl) (K_MO_thrown l g htr  r2.2 _ e3) ?_
  refine G_iload 1 rfl K dL_1567 ?_
  refine G_icmp_eq (tgt := 1574) K dL_1569 (by decide) (fun hc => ?_) (fun hc => ?_)
  · have h := wpO_t h hc
    refine G_iload 1 rfl K dL_1574 ?_
    refine G_if_ne (tgt := 1591) K dL_1576 (by decide) (fun hc => ?_) (fun hc => ?_)
    · have h := wpO_f h hc
      refine G_goto (tgt := 2782) K dL_1591 (by decide) ?_
      exact G_wide (k := C + 8) (n := S + 48) (by show C + 5 ≤ C + 8; omega) (by show S + 30 ≤ S + 48; omega) (G_lv (lv' := [(0, .ref b), (1, .ref (g.2.1 0)), (2, .ref (g.2.1 94)), (3, .ref (g.2.1 121)), (4, .int x4)]) [2, 3, 4, 5, 6] rfl (hnext r2.2 (wpO_some h)))
    · have h := wpO_t h hc
      refine G_aload_n rfl 5 rfl K dL_1579 ?_
      refine G_iconst (v := 0) rfl K dL_1580 ?_
      obtain ⟨hin, h⟩ := wpO_g h
      refine G_lald K dL_1581 (Nat.le_of_ble_eq_true rfl) (sh_121 _ _) hin ?_
      refine G_iload 0 rfl K dL_1582 ?_
      refine G_i2l K dL_1584 ?_
      refine G_lcmp_eq (tgt := 1591) K dL_1585 dL_1586 (by decide) (fun hc => ?_) (fun hc => ?_)
      · have h := wpO_t h hc
        refine G_goto (tgt := 2782) K dL_1591 (by decide) ?_
        exact G_wide (k := C + 8) (n := S + 48) (by show C + 5 ≤ C + 8; omega) (by show S + 30 ≤ S + 48; omega) (G_lv (lv' := [(0, .ref b), (1, .ref (g.2.1 0)), (2, .ref (g.2.1 94)), (3, .ref (g.2.1 121)), (4, .int x4)]) [2, 3, 4, 5, 6] rfl (hnext r2.2 (wpO_some h)))
      · have h := wpO_f h hc
        refine G_iconst (v := 0) rfl K dL_1589 ?_
        exact wpO_none h
  · have h := wpO_f h hc
    refine G_iconst (v := 0) rfl K dL_1572 ?_
    exact wpO_none h
def F_LAWc_20 (xs : Nat → Int32) (L : Nat) (x4 : Int32) (M : Mem) : Option Mem :=
  (F_KW_together M).bind fun r1 => (F_MO_together r1.2).bind fun r2 => if r1.1 = r2.1 then some r2.2 else none
set_option maxRecDepth 100000 in
set_option maxHeartbeats 8000000 in
theorem K_LAWc_20 {p : Program} {l : Launch} {e : Env} {s : State} {m : MethodId} {args : Array Value} {below : List Frame} {meth : Method} {c : Code} {g : GB} {Q : State → Prop} {b L : Nat} {xs : Nat → Int32} (K : KF p l s m args meth c g code 8 "KeptWellLaw") (htr : l.stackTraces = false) (hX : va_X b L xs s s.heap) (hbl : b < s.heap.size) (hbA : ¬ AS g s.heap.size b) (C S : Nat) (hC : C + 8 ≤ 600002) (hS : S + 48 ≤ 7302231) (x4 : Int32) (M : Mem) (PHI : Mem → Prop) (hnext : ∀ M, PHI M → GG p l e room_1 s m args below meth c g 8 Q (C + 8) (S + 48) 2782 [(0, .ref b), (1, .ref (g.2.1 0)), (2, .ref (g.2.1 94)), (3, .ref (g.2.1 121)), (4, .int x4)] [] M) (h : wpO (F_LAWc_20 xs L x4 M) PHI) : GG p l e room_1 s m args below meth c g 8 Q C S 1594 [(0, .ref b), (1, .ref (g.2.1 0)), (2, .ref (g.2.1 94)), (3, .ref (g.2.1 121)), (4, .int x4)] [] M := by
  unfold F_LAWc_20 at h
  refine G_aload_n rfl 1 rfl K dL_1594 ?_
  obtain ⟨r1, e1, h⟩ := wpO_bind h
  refine G_callVi (ci := 11) [] [] K dL_1595 wv_463 yd_X11_together (Nat.le_of_ble_eq_true rfl) (sh_0 _ _) rfl (by decide) ⟨by show C + 0 + 0 ≤ 600002; omega, by show S + 0 + 0 ≤ 7302231; omega⟩ rfl rfl (Nat.le_of_ble_eq_true rfl) (K_KW_together l g htr  M _ _ e1) ?_
  refine G_aload_n rfl 2 rfl K dL_1598 ?_
  obtain ⟨r2, e2, h⟩ := wpO_bind h
  refine G_callVi (ci := 12) [] [.int r1.1] K dL_1599 wv_1906 yd_X12_together (Nat.le_of_ble_eq_true rfl) (sh_94 _ _) rfl (by decide) ⟨by show C + 0 + 0 ≤ 600002; omega, by show S + 0 + 0 ≤ 7302231; omega⟩ rfl rfl (Nat.le_of_ble_eq_true rfl) (K_MO_together l g htr  r1.2 _ _ e2) ?_
  refine G_icmp_eq (tgt := 2782) K dL_1602 (by decide) (fun hc => ?_) (fun hc => ?_)
  · have h := wpO_t h hc
    exact G_wide (k := C + 8) (n := S + 48) (by show C + 0 ≤ C + 8; omega) (by show S + 0 ≤ S + 48; omega) (hnext r2.2 (wpO_some h))
  · have h := wpO_f h hc
    refine G_iconst (v := 0) rfl K dL_1605 ?_
    exact wpO_none h
def F_LAWc_21 (xs : Nat → Int32) (L : Nat) (x4 : Int32) (M : Mem) : Option Mem :=
  if inb (x4 + 1) L then if inb (x4 + 2) L then (F_LAW_mistakes (xs (x4 + 1).toNatClampNeg) (xs (x4 + 2).toNatClampNeg) M).bind fun r1 => if inb (x4 + 1) L then if inb (x4 + 2) L then (F_MO_mistakes (xs (x4 + 1).toNatClampNeg) (xs (x4 + 2).toNatClampNeg) r1.2).bind fun r2 => (F_MO_thrown r2).bind fun r3 => if r3 = r1.1 then some r2 else none else none else none else none else none
set_option maxRecDepth 100000 in
set_option maxHeartbeats 8000000 in
theorem K_LAWc_21 {p : Program} {l : Launch} {e : Env} {s : State} {m : MethodId} {args : Array Value} {below : List Frame} {meth : Method} {c : Code} {g : GB} {Q : State → Prop} {b L : Nat} {xs : Nat → Int32} (K : KF p l s m args meth c g code 8 "KeptWellLaw") (htr : l.stackTraces = false) (hX : va_X b L xs s s.heap) (hbl : b < s.heap.size) (hbA : ¬ AS g s.heap.size b) (C S : Nat) (hC : C + 8 ≤ 600002) (hS : S + 48 ≤ 7302231) (x4 : Int32) (M : Mem) (PHI : Mem → Prop) (hnext : ∀ M, PHI M → GG p l e room_1 s m args below meth c g 8 Q (C + 8) (S + 48) 2782 [(0, .ref b), (1, .ref (g.2.1 0)), (2, .ref (g.2.1 94)), (3, .ref (g.2.1 121)), (4, .int x4)] [] M) (h : wpO (F_LAWc_21 xs L x4 M) PHI) : GG p l e room_1 s m args below meth c g 8 Q C S 1607 [(0, .ref b), (1, .ref (g.2.1 0)), (2, .ref (g.2.1 94)), (3, .ref (g.2.1 121)), (4, .int x4)] [] M := by
  unfold F_LAWc_21 at h
  refine G_aload_n rfl 1 rfl K dL_1607 ?_
  refine G_aload_n rfl 0 rfl K dL_1608 ?_
  refine G_iload 4 rfl K dL_1609 ?_
  refine G_iconst (v := 1) rfl K dL_1611 ?_
  refine G_iadd K dL_1612 ?_
  obtain ⟨hin, h⟩ := wpO_g h
  refine G_sld K hX hbl hbA dL_1613 hin ?_
  refine G_aload_n rfl 0 rfl K dL_1614 ?_
  refine G_iload 4 rfl K dL_1615 ?_
  refine G_iconst (v := 2) rfl K dL_1617 ?_
  refine G_iadd K dL_1618 ?_
  obtain ⟨hin, h⟩ := wpO_g h
  refine G_sld K hX hbl hbA dL_1619 hin ?_
  obtain ⟨r1, e1, h⟩ := wpO_bind h
  refine G_callH [.ref (g.2.1 0), .int (xs (x4 + 1).toNatClampNeg), .int (xs (x4 + 2).toNatClampNeg)] [] K dL_1620 wv_1179 yd_L_mistakes (by decide) ⟨by show C + 0 + 2 ≤ 600002; omega, by show S + 0 + 12 ≤ 7302231; omega⟩ rfl rfl (Nat.le_of_ble_eq_true rfl) (K_LAW_mistakes l g htr (xs (x4 + 1).toNatClampNeg) (xs (x4 + 2).toNatClampNeg) M _ _ e1) ?_
  refine G_istore K dL_1623 (Nat.le_of_ble_eq_true rfl) rfl ?_
  refine G_aload_n rfl 3 rfl K dL_1625 ?_
  refine G_aload_n rfl 1 rfl K dL_1626 ?_
  refine G_iload 5 rfl K dL_1627 ?_
  refine G_iconst (v := 1) rfl K dL_1629 ?_
  refine G_iadd K dL_1630 ?_
  obtain ⟨hin, h⟩ := wpO_g h
  refine G_sld K hX hbl hbA dL_1631 hin ?_
  refine G_aload_n rfl 1 rfl K dL_1632 ?_
  refine G_iload 5 rfl K dL_1633 ?_
  refine G_iconst (v := 2) rfl K dL_1635 ?_
  refine G_iadd K dL_1636 ?_
  obtain ⟨hin, h⟩ := wpO_g h
  refine G_sld K hX hbl hbA dL_1637 hin ?_
  obtain ⟨r2, e2, h⟩ := wpO_bind h
  refine G_callVv (ci := 12) [.int (xs (x4 + 1).toNatClampNeg), .int (xs (x4 + 2).toNatClampNeg)] [] K dL_1638 wv_1914 yd_X12_mistakes (Nat.le_of_ble_eq_true rfl) (sh_94 _ _) rfl (by decide) ⟨by show C + 2 + 0 ≤ 600002; omega, by show S + 12 + 0 ≤ 7302231; omega⟩ rfl rfl (Nat.le_of_ble_eq_true rfl) (K_MO_mistakes l g htr (xs (x4 + 1).toNatClampNeg) (xs (x4 + 2).toNatClampNeg) r1.2 _ e2) ?_
  refine G_aload_n rfl 3 rfl K dL_1641 ?_
  obtain ⟨r3, e3, h⟩ := wpO_bind h
  refine G_callVi (ci := 12) [] [] K dL_1642 wv_1470 yd_X12_thrown (Nat.le_of_ble_eq_true rfl) (sh_94 _ _) rfl (by decide) ⟨by show C + 2 + 0 ≤ 600002; omega, by show S + 12 + 0 ≤ 7302231; omega⟩ rfl rfl (Nat.le_of_ble_eq_true rfl) (K_MO_thrown l g htr  r2 _ e3) ?_
  refine G_iload 0 rfl K dL_1645 ?_
  refine G_icmp_eq (tgt := 1652) K dL_1647 (by decide) (fun hc => ?_) (fun hc => ?_)
  · have h := wpO_t h hc
    refine G_goto (tgt := 2782) K dL_1652 (by decide) ?_
    exact G_wide (k := C + 8) (n := S + 48) (by show C + 2 ≤ C + 8; omega) (by show S + 12 ≤ S + 48; omega) (G_lv (lv' := [(0, .ref b), (1, .ref (g.2.1 0)), (2, .ref (g.2.1 94)), (3, .ref (g.2.1 121)), (4, .int x4)]) [1, 2, 3, 4, 5] rfl (hnext r2 (wpO_some h)))
  · have h := wpO_f h hc
    refine G_iconst (v := 0) rfl K dL_1650 ?_
    exact wpO_none h
def F_LAWc_22_j1755 (xs : Nat → Int32) (L : Nat) (x4 : Int32) (x5 : Int32) (s1 : Int32) (s2 : Int32) (s3 : Int32) (s4 : Bool) (s5 : Bool) (M : Mem) : Option (Mem) :=
  (F_MO_doubt s1 s2 s3 ((b2i s4)) ((b2i s5)) M).bind fun r2 => (F_MO_thrown r2.2).bind fun r3 => if r3 = x5 then if x5 = 0 then if inb ((0 : Int32)) 1 then if (r2.2.2 121 ((0 : Int32)).toNatClampNeg) = r2.1 then some r2.2 else none else none else some r2.2 else none
def F_LAWc_22_j1741 (xs : Nat → Int32) (L : Nat) (x4 : Int32) (x5 : Int32) (s1 : Int32) (s2 : Int32) (s3 : Int32) (s4 : Bool) (M : Mem) : Option (Mem) :=
  if inb (x4 + 5) L then if (xs (x4 + 5).toNatClampNeg) = 0 then F_LAWc_22_j1755 xs L x4 x5 s1 s2 s3 s4 false M else F_LAWc_22_j1755 xs L x4 x5 s1 s2 s3 s4 true M else none
def F_LAWc_22_j1702 (xs : Nat → Int32) (L : Nat) (x4 : Int32) (s1 : Int32) (s2 : Int32) (s3 : Int32) (s4 : Bool) (s5 : Bool) (M : Mem) : Option (Mem) :=
  (F_LAW_doubt s1 s2 s3 ((b2i s4)) ((b2i s5)) M).bind fun r1 => if inb (x4 + 1) L then if inb (x4 + 2) L then if inb (x4 + 3) L then if inb (x4 + 4) L then if (xs (x4 + 4).toNatClampNeg) = 0 then F_LAWc_22_j1741 xs L x4 r1.1 (xs (x4 + 1).toNatClampNeg) (xs (x4 + 2).toNatClampNeg) (xs (x4 + 3).toNatClampNeg) false r1.2 else F_LAWc_22_j1741 xs L x4 r1.1 (xs (x4 + 1).toNatClampNeg) (xs (x4 + 2).toNatClampNeg) (xs (x4 + 3).toNatClampNeg) true r1.2 else none else none else none else none
def F_LAWc_22_j1688 (xs : Nat → Int32) (L : Nat) (x4 : Int32) (s1 : Int32) (s2 : Int32) (s3 : Int32) (s4 : Bool) (M : Mem) : Option (Mem) :=
  if inb (x4 + 5) L then if (xs (x4 + 5).toNatClampNeg) = 0 then F_LAWc_22_j1702 xs L x4 s1 s2 s3 s4 false M else F_LAWc_22_j1702 xs L x4 s1 s2 s3 s4 true M else none
def F_LAWc_22 (xs : Nat → Int32) (L : Nat) (x4 : Int32) (M : Mem) : Option Mem :=
  if inb (x4 + 1) L then if inb (x4 + 2) L then if inb (x4 + 3) L then if inb (x4 + 4) L then if (xs (x4 + 4).toNatClampNeg) = 0 then F_LAWc_22_j1688 xs L x4 (xs (x4 + 1).toNatClampNeg) (xs (x4 + 2).toNatClampNeg) (xs (x4 + 3).toNatClampNeg) false M else F_LAWc_22_j1688 xs L x4 (xs (x4 + 1).toNatClampNeg) (xs (x4 + 2).toNatClampNeg) (xs (x4 + 3).toNatClampNeg) true M else none else none else none else none
set_option maxRecDepth 100000 in
set_option maxHeartbeats 8000000 in
theorem K_LAWc_22 {p : Program} {l : Launch} {e : Env} {s : State} {m : MethodId} {args : Array Value} {below : List Frame} {meth : Method} {c : Code} {g : GB} {Q : State → Prop} {b L : Nat} {xs : Nat → Int32} (K : KF p l s m args meth c g code 8 "KeptWellLaw") (htr : l.stackTraces = false) (hX : va_X b L xs s s.heap) (hbl : b < s.heap.size) (hbA : ¬ AS g s.heap.size b) (C S : Nat) (hC : C + 8 ≤ 600002) (hS : S + 48 ≤ 7302231) (x4 : Int32) (M : Mem) (PHI : Mem → Prop) (hnext : ∀ M, PHI M → GG p l e room_1 s m args below meth c g 8 Q (C + 8) (S + 48) 2782 [(0, .ref b), (1, .ref (g.2.1 0)), (2, .ref (g.2.1 94)), (3, .ref (g.2.1 121)), (4, .int x4)] [] M) (h : wpO (F_LAWc_22 xs L x4 M) PHI) : GG p l e room_1 s m args below meth c g 8 Q C S 1655 [(0, .ref b), (1, .ref (g.2.1 0)), (2, .ref (g.2.1 94)), (3, .ref (g.2.1 121)), (4, .int x4)] [] M := by
  have J1755 : ∀ (x5 : Int32) (s1 : Int32) (s2 : Int32) (s3 : Int32) (s4 : Bool) (s5 : Bool) (M : Mem), wpO (F_LAWc_22_j1755 xs L x4 x5 s1 s2 s3 s4 s5 M) PHI → GG p l e room_1 s m args below meth c g 8 Q (C + 8) (S + 48) 1755 [(0, .ref b), (1, .ref (g.2.1 0)), (2, .ref (g.2.1 94)), (3, .ref (g.2.1 121)), (4, .int x4), (5, .int x5)] [.int ((b2i s5)), .int ((b2i s4)), .int s3, .int s2, .int s1, .ref (g.2.1 94)] M := by
    intro x5 s1 s2 s3 s4 s5 M h
    unfold F_LAWc_22_j1755 at h
    obtain ⟨r2, e2, h⟩ := wpO_bind h
    refine G_callVl (ci := 12) [.int s1, .int s2, .int s3, .int ((b2i s4)), .int ((b2i s5))] [] K dL_1755 wv_1918 yd_X12_doubt (Nat.le_of_ble_eq_true rfl) (sh_94 _ _) rfl (by decide) ⟨by show C + 8 + 0 ≤ 600002; omega, by show S + 48 + 0 ≤ 7302231; omega⟩ rfl rfl (Nat.le_of_ble_eq_true rfl) (K_MO_doubt l g htr s1 s2 s3 ((b2i s4)) ((b2i s5)) M _ _ e2) ?_
    refine G_lstore K dL_1758 (Nat.le_of_ble_eq_true rfl) rfl ?_
    refine G_aload_n rfl 3 rfl K dL_1760 ?_
    obtain ⟨r3, e3, h⟩ := wpO_bind h
    refine G_callVi (ci := 12) [] [] K dL_1761 wv_1470 yd_X12_thrown (Nat.le_of_ble_eq_true rfl) (sh_94 _ _) rfl (by decide) ⟨by show C + 8 + 0 ≤ 600002; omega, by show S + 48 + 0 ≤ 7302231; omega⟩ rfl rfl (Nat.le_of_ble_eq_true rfl) (K_MO_thrown l g htr  r2.2 _ e3) ?_
    refine G_iload 6 rfl K dL_1764 ?_
    refine G_icmp_eq (tgt := 1771) K dL_1766 (by decide) (fun hc => ?_) (fun hc => ?_)
    · have h := wpO_t h hc
      refine G_iload 6 rfl K dL_1771 ?_
      refine G_if_ne (tgt := 1787) K dL_1773 (by decide) (fun hc => ?_) (fun hc => ?_)
      · have h := wpO_f h hc
        refine G_goto (tgt := 2782) K dL_1787 (by decide) ?_
        exact G_wide (k := C + 8) (n := S + 48) (by show C + 8 ≤ C + 8; omega) (by show S + 48 ≤ S + 48; omega) (G_lv (lv' := [(0, .ref b), (1, .ref (g.2.1 0)), (2, .ref (g.2.1 94)), (3, .ref (g.2.1 121)), (4, .int x4)]) [1, 2, 3, 4, 5] rfl (hnext r2.2 (wpO_some h)))
      · have h := wpO_t h hc
        refine G_aload_n rfl 4 rfl K dL_1776 ?_
        refine G_iconst (v := 0) rfl K dL_1777 ?_
        obtain ⟨hin, h⟩ := wpO_g h
        refine G_lald K dL_1778 (Nat.le_of_ble_eq_true rfl) (sh_121 _ _) hin ?_
        refine G_lload 0 rfl K dL_1779 ?_
        refine G_lcmp_eq (tgt := 1787) K dL_1781 dL_1782 (by decide) (fun hc => ?_) (fun hc => ?_)
        · have h := wpO_t h hc
          refine G_goto (tgt := 2782) K dL_1787 (by decide) ?_
          exact G_wide (k := C + 8) (n := S + 48) (by show C + 8 ≤ C + 8; omega) (by show S + 48 ≤ S + 48; omega) (G_lv (lv' := [(0, .ref b), (1, .ref (g.2.1 0)), (2, .ref (g.2.1 94)), (3, .ref (g.2.1 121)), (4, .int x4)]) [1, 2, 3, 4, 5] rfl (hnext r2.2 (wpO_some h)))
        · have h := wpO_f h hc
          refine G_iconst (v := 0) rfl K dL_1785 ?_
          exact wpO_none h
    · have h := wpO_f h hc
      refine G_iconst (v := 0) rfl K dL_1769 ?_
      exact wpO_none h
  have J1741 : ∀ (x5 : Int32) (s1 : Int32) (s2 : Int32) (s3 : Int32) (s4 : Bool) (M : Mem), wpO (F_LAWc_22_j1741 xs L x4 x5 s1 s2 s3 s4 M) PHI → GG p l e room_1 s m args below meth c g 8 Q (C + 8) (S + 48) 1741 [(0, .ref b), (1, .ref (g.2.1 0)), (2, .ref (g.2.1 94)), (3, .ref (g.2.1 121)), (4, .int x4), (5, .int x5)] [.int ((b2i s4)), .int s3, .int s2, .int s1, .ref (g.2.1 94)] M := by
    intro x5 s1 s2 s3 s4 M h
    unfold F_LAWc_22_j1741 at h
    refine G_aload_n rfl 0 rfl K dL_1741 ?_
    refine G_iload 4 rfl K dL_1742 ?_
    refine G_iconst (v := 5) rfl K dL_1744 ?_
    refine G_iadd K dL_1745 ?_
    obtain ⟨hin, h⟩ := wpO_g h
    refine G_sld K hX hbl hbA dL_1746 hin ?_
    refine G_if_eq (tgt := 1754) K dL_1747 (by decide) (fun hc => ?_) (fun hc => ?_)
    · have h := wpO_t h hc
      refine G_iconst (v := 0) rfl K dL_1754 ?_
      exact J1755 x5 s1 s2 s3 s4 false M h
    · have h := wpO_f h hc
      refine G_iconst (v := 1) rfl K dL_1750 ?_
      refine G_goto (tgt := 1755) K dL_1751 (by decide) ?_
      exact J1755 x5 s1 s2 s3 s4 true M h
  have J1702 : ∀ (s1 : Int32) (s2 : Int32) (s3 : Int32) (s4 : Bool) (s5 : Bool) (M : Mem), wpO (F_LAWc_22_j1702 xs L x4 s1 s2 s3 s4 s5 M) PHI → GG p l e room_1 s m args below meth c g 8 Q (C + 0) (S + 0) 1702 [(0, .ref b), (1, .ref (g.2.1 0)), (2, .ref (g.2.1 94)), (3, .ref (g.2.1 121)), (4, .int x4)] [.int ((b2i s5)), .int ((b2i s4)), .int s3, .int s2, .int s1, .ref (g.2.1 0)] M := by
    intro s1 s2 s3 s4 s5 M h
    unfold F_LAWc_22_j1702 at h
    refine G_aload_n rfl 3 rfl K dL_1702 ?_
    obtain ⟨r1, e1, h⟩ := wpO_bind h
    refine G_callH [.ref (g.2.1 0), .int s1, .int s2, .int s3, .int ((b2i s4)), .int ((b2i s5)), .ref (g.2.1 121)] [] K dL_1703 wv_1186 yd_L_doubt (by decide) ⟨by show C + 0 + 8 ≤ 600002; omega, by show S + 0 + 48 ≤ 7302231; omega⟩ rfl rfl (Nat.le_of_ble_eq_true rfl) (K_LAW_doubt l g htr s1 s2 s3 ((b2i s4)) ((b2i s5)) M _ _ e1) ?_
    refine G_istore K dL_1706 (Nat.le_of_ble_eq_true rfl) rfl ?_
    refine G_aload_n rfl 3 rfl K dL_1708 ?_
    refine G_aload_n rfl 1 rfl K dL_1709 ?_
    refine G_iload 5 rfl K dL_1710 ?_
    refine G_iconst (v := 1) rfl K dL_1712 ?_
    refine G_iadd K dL_1713 ?_
    obtain ⟨hin, h⟩ := wpO_g h
    refine G_sld K hX hbl hbA dL_1714 hin ?_
    refine G_aload_n rfl 1 rfl K dL_1715 ?_
    refine G_iload 5 rfl K dL_1716 ?_
    refine G_iconst (v := 2) rfl K dL_1718 ?_
    refine G_iadd K dL_1719 ?_
    obtain ⟨hin, h⟩ := wpO_g h
    refine G_sld K hX hbl hbA dL_1720 hin ?_
    refine G_aload_n rfl 1 rfl K dL_1721 ?_
    refine G_iload 5 rfl K dL_1722 ?_
    refine G_iconst (v := 3) rfl K dL_1724 ?_
    refine G_iadd K dL_1725 ?_
    obtain ⟨hin, h⟩ := wpO_g h
    refine G_sld K hX hbl hbA dL_1726 hin ?_
    refine G_aload_n rfl 1 rfl K dL_1727 ?_
    refine G_iload 5 rfl K dL_1728 ?_
    refine G_iconst (v := 4) rfl K dL_1730 ?_
    refine G_iadd K dL_1731 ?_
    obtain ⟨hin, h⟩ := wpO_g h
    refine G_sld K hX hbl hbA dL_1732 hin ?_
    refine G_if_eq (tgt := 1740) K dL_1733 (by decide) (fun hc => ?_) (fun hc => ?_)
    · have h := wpO_t h hc
      refine G_iconst (v := 0) rfl K dL_1740 ?_
      exact G_lv (lv' := [(0, .ref b), (1, .ref (g.2.1 0)), (2, .ref (g.2.1 94)), (3, .ref (g.2.1 121)), (4, .int x4), (5, .int r1.1)]) [1, 2, 3, 4, 5, 0] rfl (J1741 r1.1 (xs (x4 + 1).toNatClampNeg) (xs (x4 + 2).toNatClampNeg) (xs (x4 + 3).toNatClampNeg) false r1.2 h)
    · have h := wpO_f h hc
      refine G_iconst (v := 1) rfl K dL_1736 ?_
      refine G_goto (tgt := 1741) K dL_1737 (by decide) ?_
      exact G_lv (lv' := [(0, .ref b), (1, .ref (g.2.1 0)), (2, .ref (g.2.1 94)), (3, .ref (g.2.1 121)), (4, .int x4), (5, .int r1.1)]) [1, 2, 3, 4, 5, 0] rfl (J1741 r1.1 (xs (x4 + 1).toNatClampNeg) (xs (x4 + 2).toNatClampNeg) (xs (x4 + 3).toNatClampNeg) true r1.2 h)
  have J1688 : ∀ (s1 : Int32) (s2 : Int32) (s3 : Int32) (s4 : Bool) (M : Mem), wpO (F_LAWc_22_j1688 xs L x4 s1 s2 s3 s4 M) PHI → GG p l e room_1 s m args below meth c g 8 Q (C + 0) (S + 0) 1688 [(0, .ref b), (1, .ref (g.2.1 0)), (2, .ref (g.2.1 94)), (3, .ref (g.2.1 121)), (4, .int x4)] [.int ((b2i s4)), .int s3, .int s2, .int s1, .ref (g.2.1 0)] M := by
    intro s1 s2 s3 s4 M h
    unfold F_LAWc_22_j1688 at h
    refine G_aload_n rfl 0 rfl K dL_1688 ?_
    refine G_iload 4 rfl K dL_1689 ?_
    refine G_iconst (v := 5) rfl K dL_1691 ?_
    refine G_iadd K dL_1692 ?_
    obtain ⟨hin, h⟩ := wpO_g h
    refine G_sld K hX hbl hbA dL_1693 hin ?_
    refine G_if_eq (tgt := 1701) K dL_1694 (by decide) (fun hc => ?_) (fun hc => ?_)
    · have h := wpO_t h hc
      refine G_iconst (v := 0) rfl K dL_1701 ?_
      exact J1702 s1 s2 s3 s4 false M h
    · have h := wpO_f h hc
      refine G_iconst (v := 1) rfl K dL_1697 ?_
      refine G_goto (tgt := 1702) K dL_1698 (by decide) ?_
      exact J1702 s1 s2 s3 s4 true M h
  unfold F_LAWc_22 at h
  refine G_aload_n rfl 1 rfl K dL_1655 ?_
  refine G_aload_n rfl 0 rfl K dL_1656 ?_
  refine G_iload 4 rfl K dL_1657 ?_
  refine G_iconst (v := 1) rfl K dL_1659 ?_
  refine G_iadd K dL_1660 ?_
  obtain ⟨hin, h⟩ := wpO_g h
  refine G_sld K hX hbl hbA dL_1661 hin ?_
  refine G_aload_n rfl 0 rfl K dL_1662 ?_
  refine G_iload 4 rfl K dL_1663 ?_
  refine G_iconst (v := 2) rfl K dL_1665 ?_
  refine G_iadd K dL_1666 ?_
  obtain ⟨hin, h⟩ := wpO_g h
  refine G_sld K hX hbl hbA dL_1667 hin ?_
  refine G_aload_n rfl 0 rfl K dL_1668 ?_
  refine G_iload 4 rfl K dL_1669 ?_
  refine G_iconst (v := 3) rfl K dL_1671 ?_
  refine G_iadd K dL_1672 ?_
  obtain ⟨hin, h⟩ := wpO_g h
  refine G_sld K hX hbl hbA dL_1673 hin ?_
  refine G_aload_n rfl 0 rfl K dL_1674 ?_
  refine G_iload 4 rfl K dL_1675 ?_
  refine G_iconst (v := 4) rfl K dL_1677 ?_
  refine G_iadd K dL_1678 ?_
  obtain ⟨hin, h⟩ := wpO_g h
  refine G_sld K hX hbl hbA dL_1679 hin ?_
  refine G_if_eq (tgt := 1687) K dL_1680 (by decide) (fun hc => ?_) (fun hc => ?_)
  · have h := wpO_t h hc
    refine G_iconst (v := 0) rfl K dL_1687 ?_
    exact J1688 (xs (x4 + 1).toNatClampNeg) (xs (x4 + 2).toNatClampNeg) (xs (x4 + 3).toNatClampNeg) false M h
  · have h := wpO_f h hc
    refine G_iconst (v := 1) rfl K dL_1683 ?_
    refine G_goto (tgt := 1688) K dL_1684 (by decide) ?_
    exact J1688 (xs (x4 + 1).toNatClampNeg) (xs (x4 + 2).toNatClampNeg) (xs (x4 + 3).toNatClampNeg) true M h
def F_LAWc_23 (xs : Nat → Int32) (L : Nat) (x4 : Int32) (M : Mem) : Option Mem :=
  (F_LAW_row M).bind fun r1 => (F_MO_row r1.2).bind fun r2 => (F_MO_thrown r2.2).bind fun r3 => if r3 = r1.1 then if r1.1 = 0 then if inb ((0 : Int32)) 1 then if (r2.2.2 121 ((0 : Int32)).toNatClampNeg) = r2.1.toInt64 then some r2.2 else none else none else some r2.2 else none
set_option maxRecDepth 100000 in
set_option maxHeartbeats 8000000 in
theorem K_LAWc_23 {p : Program} {l : Launch} {e : Env} {s : State} {m : MethodId} {args : Array Value} {below : List Frame} {meth : Method} {c : Code} {g : GB} {Q : State → Prop} {b L : Nat} {xs : Nat → Int32} (K : KF p l s m args meth c g code 8 "KeptWellLaw") (htr : l.stackTraces = false) (hX : va_X b L xs s s.heap) (hbl : b < s.heap.size) (hbA : ¬ AS g s.heap.size b) (C S : Nat) (hC : C + 8 ≤ 600002) (hS : S + 48 ≤ 7302231) (x4 : Int32) (M : Mem) (PHI : Mem → Prop) (hnext : ∀ M, PHI M → GG p l e room_1 s m args below meth c g 8 Q (C + 8) (S + 48) 2782 [(0, .ref b), (1, .ref (g.2.1 0)), (2, .ref (g.2.1 94)), (3, .ref (g.2.1 121)), (4, .int x4)] [] M) (h : wpO (F_LAWc_23 xs L x4 M) PHI) : GG p l e room_1 s m args below meth c g 8 Q C S 1790 [(0, .ref b), (1, .ref (g.2.1 0)), (2, .ref (g.2.1 94)), (3, .ref (g.2.1 121)), (4, .int x4)] [] M := by
  unfold F_LAWc_23 at h
  refine G_aload_n rfl 1 rfl K dL_1790 ?_
  refine G_aload_n rfl 3 rfl K dL_1791 ?_
  obtain ⟨r1, e1, h⟩ := wpO_bind h
  refine G_callH [.ref (g.2.1 0), .ref (g.2.1 121)] [] K dL_1792 wv_1225 yd_L_row (by decide) ⟨by show C + 0 + 1 ≤ 600002; omega, by show S + 0 + 6 ≤ 7302231; omega⟩ rfl rfl (Nat.le_of_ble_eq_true rfl) (K_LAW_row l g htr  M _ _ e1) ?_
  refine G_istore K dL_1795 (Nat.le_of_ble_eq_true rfl) rfl ?_
  refine G_aload_n rfl 3 rfl K dL_1797 ?_
  obtain ⟨r2, e2, h⟩ := wpO_bind h
  refine G_callVi (ci := 12) [] [] K dL_1798 wv_1926 yd_X12_row (Nat.le_of_ble_eq_true rfl) (sh_94 _ _) rfl (by decide) ⟨by show C + 1 + 0 ≤ 600002; omega, by show S + 6 + 0 ≤ 7302231; omega⟩ rfl rfl (Nat.le_of_ble_eq_true rfl) (K_MO_row l g htr  r1.2 _ _ e2) ?_
  refine G_istore K dL_1801 (Nat.le_of_ble_eq_true rfl) rfl ?_
  refine G_aload_n rfl 4 rfl K dL_1803 ?_
  obtain ⟨r3, e3, h⟩ := wpO_bind h
  refine G_callVi (ci := 12) [] [] K dL_1804 wv_1470 yd_X12_thrown (Nat.le_of_ble_eq_true rfl) (sh_94 _ _) rfl (by decide) ⟨by show C + 1 + 0 ≤ 600002; omega, by show S + 6 + 0 ≤ 7302231; omega⟩ rfl rfl (Nat.le_of_ble_eq_true rfl) (K_MO_thrown l g htr  r2.2 _ e3) ?_
  refine G_iload 1 rfl K dL_1807 ?_
  refine G_icmp_eq (tgt := 1814) K dL_1809 (by decide) (fun hc => ?_) (fun hc => ?_)
  · have h := wpO_t h hc
    refine G_iload 1 rfl K dL_1814 ?_
    refine G_if_ne (tgt := 1831) K dL_1816 (by decide) (fun hc => ?_) (fun hc => ?_)
    · have h := wpO_f h hc
      refine G_goto (tgt := 2782) K dL_1831 (by decide) ?_
      exact G_wide (k := C + 8) (n := S + 48) (by show C + 1 ≤ C + 8; omega) (by show S + 6 ≤ S + 48; omega) (G_lv (lv' := [(0, .ref b), (1, .ref (g.2.1 0)), (2, .ref (g.2.1 94)), (3, .ref (g.2.1 121)), (4, .int x4)]) [2, 3, 4, 5, 6] rfl (hnext r2.2 (wpO_some h)))
    · have h := wpO_t h hc
      refine G_aload_n rfl 5 rfl K dL_1819 ?_
      refine G_iconst (v := 0) rfl K dL_1820 ?_
      obtain ⟨hin, h⟩ := wpO_g h
      refine G_lald K dL_1821 (Nat.le_of_ble_eq_true rfl) (sh_121 _ _) hin ?_
      refine G_iload 0 rfl K dL_1822 ?_
      refine G_i2l K dL_1824 ?_
      refine G_lcmp_eq (tgt := 1831) K dL_1825 dL_1826 (by decide) (fun hc => ?_) (fun hc => ?_)
      · have h := wpO_t h hc
        refine G_goto (tgt := 2782) K dL_1831 (by decide) ?_
        exact G_wide (k := C + 8) (n := S + 48) (by show C + 1 ≤ C + 8; omega) (by show S + 6 ≤ S + 48; omega) (G_lv (lv' := [(0, .ref b), (1, .ref (g.2.1 0)), (2, .ref (g.2.1 94)), (3, .ref (g.2.1 121)), (4, .int x4)]) [2, 3, 4, 5, 6] rfl (hnext r2.2 (wpO_some h)))
      · have h := wpO_f h hc
        refine G_iconst (v := 0) rfl K dL_1829 ?_
        exact wpO_none h
  · have h := wpO_f h hc
    refine G_iconst (v := 0) rfl K dL_1812 ?_
    exact wpO_none h
def F_LAWc_24 (xs : Nat → Int32) (L : Nat) (x4 : Int32) (M : Mem) : Option Mem :=
  if inb (x4 + 1) L then if inb (x4 + 2) L then (F_LAW_judge (xs (x4 + 1).toNatClampNeg) (xs (x4 + 2).toNatClampNeg) M).bind fun r1 => if inb (x4 + 1) L then if inb (x4 + 2) L then (F_MO_judge (xs (x4 + 1).toNatClampNeg) (xs (x4 + 2).toNatClampNeg) r1.2).bind fun r2 => (F_MO_thrown r2.2).bind fun r3 => if r3 = r1.1 then if r1.1 = 0 then if inb ((0 : Int32)) 1 then if (r2.2.2 121 ((0 : Int32)).toNatClampNeg) = r2.1.toInt64 then some r2.2 else none else none else some r2.2 else none else none else none else none else none
set_option maxRecDepth 100000 in
set_option maxHeartbeats 8000000 in
theorem K_LAWc_24 {p : Program} {l : Launch} {e : Env} {s : State} {m : MethodId} {args : Array Value} {below : List Frame} {meth : Method} {c : Code} {g : GB} {Q : State → Prop} {b L : Nat} {xs : Nat → Int32} (K : KF p l s m args meth c g code 8 "KeptWellLaw") (htr : l.stackTraces = false) (hX : va_X b L xs s s.heap) (hbl : b < s.heap.size) (hbA : ¬ AS g s.heap.size b) (C S : Nat) (hC : C + 8 ≤ 600002) (hS : S + 48 ≤ 7302231) (x4 : Int32) (M : Mem) (PHI : Mem → Prop) (hnext : ∀ M, PHI M → GG p l e room_1 s m args below meth c g 8 Q (C + 8) (S + 48) 2782 [(0, .ref b), (1, .ref (g.2.1 0)), (2, .ref (g.2.1 94)), (3, .ref (g.2.1 121)), (4, .int x4)] [] M) (h : wpO (F_LAWc_24 xs L x4 M) PHI) : GG p l e room_1 s m args below meth c g 8 Q C S 1834 [(0, .ref b), (1, .ref (g.2.1 0)), (2, .ref (g.2.1 94)), (3, .ref (g.2.1 121)), (4, .int x4)] [] M := by
  unfold F_LAWc_24 at h
  refine G_aload_n rfl 1 rfl K dL_1834 ?_
  refine G_aload_n rfl 0 rfl K dL_1835 ?_
  refine G_iload 4 rfl K dL_1836 ?_
  refine G_iconst (v := 1) rfl K dL_1838 ?_
  refine G_iadd K dL_1839 ?_
  obtain ⟨hin, h⟩ := wpO_g h
  refine G_sld K hX hbl hbA dL_1840 hin ?_
  refine G_aload_n rfl 0 rfl K dL_1841 ?_
  refine G_iload 4 rfl K dL_1842 ?_
  refine G_iconst (v := 2) rfl K dL_1844 ?_
  refine G_iadd K dL_1845 ?_
  obtain ⟨hin, h⟩ := wpO_g h
  refine G_sld K hX hbl hbA dL_1846 hin ?_
  refine G_aload_n rfl 3 rfl K dL_1847 ?_
  obtain ⟨r1, e1, h⟩ := wpO_bind h
  refine G_callH [.ref (g.2.1 0), .int (xs (x4 + 1).toNatClampNeg), .int (xs (x4 + 2).toNatClampNeg), .ref (g.2.1 121)] [] K dL_1848 wv_1237 yd_L_judge (by decide) ⟨by show C + 0 + 5 ≤ 600002; omega, by show S + 0 + 30 ≤ 7302231; omega⟩ rfl rfl (Nat.le_of_ble_eq_true rfl) (K_LAW_judge l g htr (xs (x4 + 1).toNatClampNeg) (xs (x4 + 2).toNatClampNeg) M _ _ e1) ?_
  refine G_istore K dL_1851 (Nat.le_of_ble_eq_true rfl) rfl ?_
  refine G_aload_n rfl 3 rfl K dL_1853 ?_
  refine G_aload_n rfl 1 rfl K dL_1854 ?_
  refine G_iload 5 rfl K dL_1855 ?_
  refine G_iconst (v := 1) rfl K dL_1857 ?_
  refine G_iadd K dL_1858 ?_
  obtain ⟨hin, h⟩ := wpO_g h
  refine G_sld K hX hbl hbA dL_1859 hin ?_
  refine G_aload_n rfl 1 rfl K dL_1860 ?_
  refine G_iload 5 rfl K dL_1861 ?_
  refine G_iconst (v := 2) rfl K dL_1863 ?_
  refine G_iadd K dL_1864 ?_
  obtain ⟨hin, h⟩ := wpO_g h
  refine G_sld K hX hbl hbA dL_1865 hin ?_
  obtain ⟨r2, e2, h⟩ := wpO_bind h
  refine G_callVi (ci := 12) [.int (xs (x4 + 1).toNatClampNeg), .int (xs (x4 + 2).toNatClampNeg)] [] K dL_1866 wv_1930 yd_X12_judge (Nat.le_of_ble_eq_true rfl) (sh_94 _ _) rfl (by decide) ⟨by show C + 5 + 0 ≤ 600002; omega, by show S + 30 + 0 ≤ 7302231; omega⟩ rfl rfl (Nat.le_of_ble_eq_true rfl) (K_MO_judge l g htr (xs (x4 + 1).toNatClampNeg) (xs (x4 + 2).toNatClampNeg) r1.2 _ _ e2) ?_
  refine G_istore K dL_1869 (Nat.le_of_ble_eq_true rfl) rfl ?_
  refine G_aload_n rfl 4 rfl K dL_1871 ?_
  obtain ⟨r3, e3, h⟩ := wpO_bind h
  refine G_callVi (ci := 12) [] [] K dL_1872 wv_1470 yd_X12_thrown (Nat.le_of_ble_eq_true rfl) (sh_94 _ _) rfl (by decide) ⟨by show C + 5 + 0 ≤ 600002; omega, by show S + 30 + 0 ≤ 7302231; omega⟩ rfl rfl (Nat.le_of_ble_eq_true rfl) (K_MO_thrown l g htr  r2.2 _ e3) ?_
  refine G_iload 1 rfl K dL_1875 ?_
  refine G_icmp_eq (tgt := 1882) K dL_1877 (by decide) (fun hc => ?_) (fun hc => ?_)
  · have h := wpO_t h hc
    refine G_iload 1 rfl K dL_1882 ?_
    refine G_if_ne (tgt := 1899) K dL_1884 (by decide) (fun hc => ?_) (fun hc => ?_)
    · have h := wpO_f h hc
      refine G_goto (tgt := 2782) K dL_1899 (by decide) ?_
      exact G_wide (k := C + 8) (n := S + 48) (by show C + 5 ≤ C + 8; omega) (by show S + 30 ≤ S + 48; omega) (G_lv (lv' := [(0, .ref b), (1, .ref (g.2.1 0)), (2, .ref (g.2.1 94)), (3, .ref (g.2.1 121)), (4, .int x4)]) [2, 3, 4, 5, 6] rfl (hnext r2.2 (wpO_some h)))
    · have h := wpO_t h hc
      refine G_aload_n rfl 5 rfl K dL_1887 ?_
      refine G_iconst (v := 0) rfl K dL_1888 ?_
      obtain ⟨hin, h⟩ := wpO_g h
      refine G_lald K dL_1889 (Nat.le_of_ble_eq_true rfl) (sh_121 _ _) hin ?_
      refine G_iload 0 rfl K dL_1890 ?_
      refine G_i2l K dL_1892 ?_
      refine G_lcmp_eq (tgt := 1899) K dL_1893 dL_1894 (by decide) (fun hc => ?_) (fun hc => ?_)
      · have h := wpO_t h hc
        refine G_goto (tgt := 2782) K dL_1899 (by decide) ?_
        exact G_wide (k := C + 8) (n := S + 48) (by show C + 5 ≤ C + 8; omega) (by show S + 30 ≤ S + 48; omega) (G_lv (lv' := [(0, .ref b), (1, .ref (g.2.1 0)), (2, .ref (g.2.1 94)), (3, .ref (g.2.1 121)), (4, .int x4)]) [2, 3, 4, 5, 6] rfl (hnext r2.2 (wpO_some h)))
      · have h := wpO_f h hc
        refine G_iconst (v := 0) rfl K dL_1897 ?_
        exact wpO_none h
  · have h := wpO_f h hc
    refine G_iconst (v := 0) rfl K dL_1880 ?_
    exact wpO_none h
def F_LAWc_25 (xs : Nat → Int32) (L : Nat) (x4 : Int32) (M : Mem) : Option Mem :=
  if inb (x4 + 1) L then (F_LAW_brought (xs (x4 + 1).toNatClampNeg) M).bind fun r1 => if inb (x4 + 1) L then (F_MO_brought (xs (x4 + 1).toNatClampNeg) r1.2).bind fun r2 => (F_MO_thrown r2.2).bind fun r3 => if r3 = r1.1 then if r1.1 = 0 then if inb ((0 : Int32)) 1 then if (r2.2.2 121 ((0 : Int32)).toNatClampNeg) = r2.1.toInt64 then some r2.2 else none else none else some r2.2 else none else none else none
set_option maxRecDepth 100000 in
set_option maxHeartbeats 8000000 in
theorem K_LAWc_25 {p : Program} {l : Launch} {e : Env} {s : State} {m : MethodId} {args : Array Value} {below : List Frame} {meth : Method} {c : Code} {g : GB} {Q : State → Prop} {b L : Nat} {xs : Nat → Int32} (K : KF p l s m args meth c g code 8 "KeptWellLaw") (htr : l.stackTraces = false) (hX : va_X b L xs s s.heap) (hbl : b < s.heap.size) (hbA : ¬ AS g s.heap.size b) (C S : Nat) (hC : C + 8 ≤ 600002) (hS : S + 48 ≤ 7302231) (x4 : Int32) (M : Mem) (PHI : Mem → Prop) (hnext : ∀ M, PHI M → GG p l e room_1 s m args below meth c g 8 Q (C + 8) (S + 48) 2782 [(0, .ref b), (1, .ref (g.2.1 0)), (2, .ref (g.2.1 94)), (3, .ref (g.2.1 121)), (4, .int x4)] [] M) (h : wpO (F_LAWc_25 xs L x4 M) PHI) : GG p l e room_1 s m args below meth c g 8 Q C S 1902 [(0, .ref b), (1, .ref (g.2.1 0)), (2, .ref (g.2.1 94)), (3, .ref (g.2.1 121)), (4, .int x4)] [] M := by
  unfold F_LAWc_25 at h
  refine G_aload_n rfl 1 rfl K dL_1902 ?_
  refine G_aload_n rfl 0 rfl K dL_1903 ?_
  refine G_iload 4 rfl K dL_1904 ?_
  refine G_iconst (v := 1) rfl K dL_1906 ?_
  refine G_iadd K dL_1907 ?_
  obtain ⟨hin, h⟩ := wpO_g h
  refine G_sld K hX hbl hbA dL_1908 hin ?_
  refine G_aload_n rfl 3 rfl K dL_1909 ?_
  obtain ⟨r1, e1, h⟩ := wpO_bind h
  refine G_callH [.ref (g.2.1 0), .int (xs (x4 + 1).toNatClampNeg), .ref (g.2.1 121)] [] K dL_1910 wv_1263 yd_L_brought (by decide) ⟨by show C + 0 + 1 ≤ 600002; omega, by show S + 0 + 6 ≤ 7302231; omega⟩ rfl rfl (Nat.le_of_ble_eq_true rfl) (K_LAW_brought l g htr (xs (x4 + 1).toNatClampNeg) M _ _ e1) ?_
  refine G_istore K dL_1913 (Nat.le_of_ble_eq_true rfl) rfl ?_
  refine G_aload_n rfl 3 rfl K dL_1915 ?_
  refine G_aload_n rfl 1 rfl K dL_1916 ?_
  refine G_iload 5 rfl K dL_1917 ?_
  refine G_iconst (v := 1) rfl K dL_1919 ?_
  refine G_iadd K dL_1920 ?_
  obtain ⟨hin, h⟩ := wpO_g h
  refine G_sld K hX hbl hbA dL_1921 hin ?_
  obtain ⟨r2, e2, h⟩ := wpO_bind h
  refine G_callVi (ci := 12) [.int (xs (x4 + 1).toNatClampNeg)] [] K dL_1922 wv_1938 yd_X12_brought (Nat.le_of_ble_eq_true rfl) (sh_94 _ _) rfl (by decide) ⟨by show C + 1 + 0 ≤ 600002; omega, by show S + 6 + 0 ≤ 7302231; omega⟩ rfl rfl (Nat.le_of_ble_eq_true rfl) (K_MO_brought l g htr (xs (x4 + 1).toNatClampNeg) r1.2 _ _ e2) ?_
  refine G_istore K dL_1925 (Nat.le_of_ble_eq_true rfl) rfl ?_
  refine G_aload_n rfl 4 rfl K dL_1927 ?_
  obtain ⟨r3, e3, h⟩ := wpO_bind h
  refine G_callVi (ci := 12) [] [] K dL_1928 wv_1470 yd_X12_thrown (Nat.le_of_ble_eq_true rfl) (sh_94 _ _) rfl (by decide) ⟨by show C + 1 + 0 ≤ 600002; omega, by show S + 6 + 0 ≤ 7302231; omega⟩ rfl rfl (Nat.le_of_ble_eq_true rfl) (K_MO_thrown l g htr  r2.2 _ e3) ?_
  refine G_iload 1 rfl K dL_1931 ?_
  refine G_icmp_eq (tgt := 1938) K dL_1933 (by decide) (fun hc => ?_) (fun hc => ?_)
  · have h := wpO_t h hc
    refine G_iload 1 rfl K dL_1938 ?_
    refine G_if_ne (tgt := 1955) K dL_1940 (by decide) (fun hc => ?_) (fun hc => ?_)
    · have h := wpO_f h hc
      refine G_goto (tgt := 2782) K dL_1955 (by decide) ?_
      exact G_wide (k := C + 8) (n := S + 48) (by show C + 1 ≤ C + 8; omega) (by show S + 6 ≤ S + 48; omega) (G_lv (lv' := [(0, .ref b), (1, .ref (g.2.1 0)), (2, .ref (g.2.1 94)), (3, .ref (g.2.1 121)), (4, .int x4)]) [2, 3, 4, 5, 6] rfl (hnext r2.2 (wpO_some h)))
    · have h := wpO_t h hc
      refine G_aload_n rfl 5 rfl K dL_1943 ?_
      refine G_iconst (v := 0) rfl K dL_1944 ?_
      obtain ⟨hin, h⟩ := wpO_g h
      refine G_lald K dL_1945 (Nat.le_of_ble_eq_true rfl) (sh_121 _ _) hin ?_
      refine G_iload 0 rfl K dL_1946 ?_
      refine G_i2l K dL_1948 ?_
      refine G_lcmp_eq (tgt := 1955) K dL_1949 dL_1950 (by decide) (fun hc => ?_) (fun hc => ?_)
      · have h := wpO_t h hc
        refine G_goto (tgt := 2782) K dL_1955 (by decide) ?_
        exact G_wide (k := C + 8) (n := S + 48) (by show C + 1 ≤ C + 8; omega) (by show S + 6 ≤ S + 48; omega) (G_lv (lv' := [(0, .ref b), (1, .ref (g.2.1 0)), (2, .ref (g.2.1 94)), (3, .ref (g.2.1 121)), (4, .int x4)]) [2, 3, 4, 5, 6] rfl (hnext r2.2 (wpO_some h)))
      · have h := wpO_f h hc
        refine G_iconst (v := 0) rfl K dL_1953 ?_
        exact wpO_none h
  · have h := wpO_f h hc
    refine G_iconst (v := 0) rfl K dL_1936 ?_
    exact wpO_none h
def F_LAWc_26 (xs : Nat → Int32) (L : Nat) (x4 : Int32) (M : Mem) : Option Mem :=
  if inb (x4 + 1) L then if inb (x4 + 2) L then if inb (x4 + 3) L then if inb (x4 + 4) L then if inb (x4 + 5) L then (F_LAW_drawn (xs (x4 + 1).toNatClampNeg) (xs (x4 + 2).toNatClampNeg) (xs (x4 + 3).toNatClampNeg) (xs (x4 + 4).toNatClampNeg) (xs (x4 + 5).toNatClampNeg) M).bind fun r1 => if inb (x4 + 1) L then if inb (x4 + 2) L then if inb (x4 + 3) L then if inb (x4 + 4) L then if inb (x4 + 5) L then (F_MO_drawn (xs (x4 + 1).toNatClampNeg) (xs (x4 + 2).toNatClampNeg) (xs (x4 + 3).toNatClampNeg) (xs (x4 + 4).toNatClampNeg) (xs (x4 + 5).toNatClampNeg) r1.2).bind fun r2 => (F_MO_thrown r2.2).bind fun r3 => if r3 = r1.1 then if r1.1 = 0 then if inb ((0 : Int32)) 1 then if (r2.2.2 121 ((0 : Int32)).toNatClampNeg) = r2.1.toInt64 then some r2.2 else none else none else some r2.2 else none else none else none else none else none else none else none else none else none else none else none
set_option maxRecDepth 100000 in
set_option maxHeartbeats 8000000 in
theorem K_LAWc_26 {p : Program} {l : Launch} {e : Env} {s : State} {m : MethodId} {args : Array Value} {below : List Frame} {meth : Method} {c : Code} {g : GB} {Q : State → Prop} {b L : Nat} {xs : Nat → Int32} (K : KF p l s m args meth c g code 8 "KeptWellLaw") (htr : l.stackTraces = false) (hX : va_X b L xs s s.heap) (hbl : b < s.heap.size) (hbA : ¬ AS g s.heap.size b) (C S : Nat) (hC : C + 8 ≤ 600002) (hS : S + 48 ≤ 7302231) (x4 : Int32) (M : Mem) (PHI : Mem → Prop) (hnext : ∀ M, PHI M → GG p l e room_1 s m args below meth c g 8 Q (C + 8) (S + 48) 2782 [(0, .ref b), (1, .ref (g.2.1 0)), (2, .ref (g.2.1 94)), (3, .ref (g.2.1 121)), (4, .int x4)] [] M) (h : wpO (F_LAWc_26 xs L x4 M) PHI) : GG p l e room_1 s m args below meth c g 8 Q C S 1958 [(0, .ref b), (1, .ref (g.2.1 0)), (2, .ref (g.2.1 94)), (3, .ref (g.2.1 121)), (4, .int x4)] [] M := by
  unfold F_LAWc_26 at h
  refine G_aload_n rfl 1 rfl K dL_1958 ?_
  refine G_aload_n rfl 0 rfl K dL_1959 ?_
  refine G_iload 4 rfl K dL_1960 ?_
  refine G_iconst (v := 1) rfl K dL_1962 ?_
  refine G_iadd K dL_1963 ?_
  obtain ⟨hin, h⟩ := wpO_g h
  refine G_sld K hX hbl hbA dL_1964 hin ?_
  refine G_aload_n rfl 0 rfl K dL_1965 ?_
  refine G_iload 4 rfl K dL_1966 ?_
  refine G_iconst (v := 2) rfl K dL_1968 ?_
  refine G_iadd K dL_1969 ?_
  obtain ⟨hin, h⟩ := wpO_g h
  refine G_sld K hX hbl hbA dL_1970 hin ?_
  refine G_aload_n rfl 0 rfl K dL_1971 ?_
  refine G_iload 4 rfl K dL_1972 ?_
  refine G_iconst (v := 3) rfl K dL_1974 ?_
  refine G_iadd K dL_1975 ?_
  obtain ⟨hin, h⟩ := wpO_g h
  refine G_sld K hX hbl hbA dL_1976 hin ?_
  refine G_aload_n rfl 0 rfl K dL_1977 ?_
  refine G_iload 4 rfl K dL_1978 ?_
  refine G_iconst (v := 4) rfl K dL_1980 ?_
  refine G_iadd K dL_1981 ?_
  obtain ⟨hin, h⟩ := wpO_g h
  refine G_sld K hX hbl hbA dL_1982 hin ?_
  refine G_aload_n rfl 0 rfl K dL_1983 ?_
  refine G_iload 4 rfl K dL_1984 ?_
  refine G_iconst (v := 5) rfl K dL_1986 ?_
  refine G_iadd K dL_1987 ?_
  obtain ⟨hin, h⟩ := wpO_g h
  refine G_sld K hX hbl hbA dL_1988 hin ?_
  refine G_aload_n rfl 3 rfl K dL_1989 ?_
  obtain ⟨r1, e1, h⟩ := wpO_bind h
  refine G_callH [.ref (g.2.1 0), .int (xs (x4 + 1).toNatClampNeg), .int (xs (x4 + 2).toNatClampNeg), .int (xs (x4 + 3).toNatClampNeg), .int (xs (x4 + 4).toNatClampNeg), .int (xs (x4 + 5).toNatClampNeg), .ref (g.2.1 121)] [] K dL_1990 wv_1275 yd_L_drawn (by decide) ⟨by show C + 0 + 7 ≤ 600002; omega, by show S + 0 + 42 ≤ 7302231; omega⟩ rfl rfl (Nat.le_of_ble_eq_true rfl) (K_LAW_drawn l g htr (xs (x4 + 1).toNatClampNeg) (xs (x4 + 2).toNatClampNeg) (xs (x4 + 3).toNatClampNeg) (xs (x4 + 4).toNatClampNeg) (xs (x4 + 5).toNatClampNeg) M _ _ e1) ?_
  refine G_istore K dL_1993 (Nat.le_of_ble_eq_true rfl) rfl ?_
  refine G_aload_n rfl 3 rfl K dL_1995 ?_
  refine G_aload_n rfl 1 rfl K dL_1996 ?_
  refine G_iload 5 rfl K dL_1997 ?_
  refine G_iconst (v := 1) rfl K dL_1999 ?_
  refine G_iadd K dL_2000 ?_
  obtain ⟨hin, h⟩ := wpO_g h
  refine G_sld K hX hbl hbA dL_2001 hin ?_
  refine G_aload_n rfl 1 rfl K dL_2002 ?_
  refine G_iload 5 rfl K dL_2003 ?_
  refine G_iconst (v := 2) rfl K dL_2005 ?_
  refine G_iadd K dL_2006 ?_
  obtain ⟨hin, h⟩ := wpO_g h
  refine G_sld K hX hbl hbA dL_2007 hin ?_
  refine G_aload_n rfl 1 rfl K dL_2008 ?_
  refine G_iload 5 rfl K dL_2009 ?_
  refine G_iconst (v := 3) rfl K dL_2011 ?_
  refine G_iadd K dL_2012 ?_
  obtain ⟨hin, h⟩ := wpO_g h
  refine G_sld K hX hbl hbA dL_2013 hin ?_
  refine G_aload_n rfl 1 rfl K dL_2014 ?_
  refine G_iload 5 rfl K dL_2015 ?_
  refine G_iconst (v := 4) rfl K dL_2017 ?_
  refine G_iadd K dL_2018 ?_
  obtain ⟨hin, h⟩ := wpO_g h
  refine G_sld K hX hbl hbA dL_2019 hin ?_
  refine G_aload_n rfl 1 rfl K dL_2020 ?_
  refine G_iload 5 rfl K dL_2021 ?_
  refine G_iconst (v := 5) rfl K dL_2023 ?_
  refine G_iadd K dL_2024 ?_
  obtain ⟨hin, h⟩ := wpO_g h
  refine G_sld K hX hbl hbA dL_2025 hin ?_
  obtain ⟨r2, e2, h⟩ := wpO_bind h
  refine G_callVi (ci := 12) [.int (xs (x4 + 1).toNatClampNeg), .int (xs (x4 + 2).toNatClampNeg), .int (xs (x4 + 3).toNatClampNeg), .int (xs (x4 + 4).toNatClampNeg), .int (xs (x4 + 5).toNatClampNeg)] [] K dL_2026 wv_1942 yd_X12_drawn (Nat.le_of_ble_eq_true rfl) (sh_94 _ _) rfl (by decide) ⟨by show C + 7 + 0 ≤ 600002; omega, by show S + 42 + 0 ≤ 7302231; omega⟩ rfl rfl (Nat.le_of_ble_eq_true rfl) (K_MO_drawn l g htr (xs (x4 + 1).toNatClampNeg) (xs (x4 + 2).toNatClampNeg) (xs (x4 + 3).toNatClampNeg) (xs (x4 + 4).toNatClampNeg) (xs (x4 + 5).toNatClampNeg) r1.2 _ _ e2) ?_
  refine G_istore K dL_2029 (Nat.le_of_ble_eq_true rfl) rfl ?_
  refine G_aload_n rfl 4 rfl K dL_2031 ?_
  obtain ⟨r3, e3, h⟩ := wpO_bind h
  refine G_callVi (ci := 12) [] [] K dL_2032 wv_1470 yd_X12_thrown (Nat.le_of_ble_eq_true rfl) (sh_94 _ _) rfl (by decide) ⟨by show C + 7 + 0 ≤ 600002; omega, by show S + 42 + 0 ≤ 7302231; omega⟩ rfl rfl (Nat.le_of_ble_eq_true rfl) (K_MO_thrown l g htr  r2.2 _ e3) ?_
  refine G_iload 1 rfl K dL_2035 ?_
  refine G_icmp_eq (tgt := 2042) K dL_2037 (by decide) (fun hc => ?_) (fun hc => ?_)
  · have h := wpO_t h hc
    refine G_iload 1 rfl K dL_2042 ?_
    refine G_if_ne (tgt := 2059) K dL_2044 (by decide) (fun hc => ?_) (fun hc => ?_)
    · have h := wpO_f h hc
      refine G_goto (tgt := 2782) K dL_2059 (by decide) ?_
      exact G_wide (k := C + 8) (n := S + 48) (by show C + 7 ≤ C + 8; omega) (by show S + 42 ≤ S + 48; omega) (G_lv (lv' := [(0, .ref b), (1, .ref (g.2.1 0)), (2, .ref (g.2.1 94)), (3, .ref (g.2.1 121)), (4, .int x4)]) [2, 3, 4, 5, 6] rfl (hnext r2.2 (wpO_some h)))
    · have h := wpO_t h hc
      refine G_aload_n rfl 5 rfl K dL_2047 ?_
      refine G_iconst (v := 0) rfl K dL_2048 ?_
      obtain ⟨hin, h⟩ := wpO_g h
      refine G_lald K dL_2049 (Nat.le_of_ble_eq_true rfl) (sh_121 _ _) hin ?_
      refine G_iload 0 rfl K dL_2050 ?_
      refine G_i2l K dL_2052 ?_
      refine G_lcmp_eq (tgt := 2059) K dL_2053 dL_2054 (by decide) (fun hc => ?_) (fun hc => ?_)
      · have h := wpO_t h hc
        refine G_goto (tgt := 2782) K dL_2059 (by decide) ?_
        exact G_wide (k := C + 8) (n := S + 48) (by show C + 7 ≤ C + 8; omega) (by show S + 42 ≤ S + 48; omega) (G_lv (lv' := [(0, .ref b), (1, .ref (g.2.1 0)), (2, .ref (g.2.1 94)), (3, .ref (g.2.1 121)), (4, .int x4)]) [2, 3, 4, 5, 6] rfl (hnext r2.2 (wpO_some h)))
      · have h := wpO_f h hc
        refine G_iconst (v := 0) rfl K dL_2057 ?_
        exact wpO_none h
  · have h := wpO_f h hc
    refine G_iconst (v := 0) rfl K dL_2040 ?_
    exact wpO_none h
def F_LAWc_27 (xs : Nat → Int32) (L : Nat) (x4 : Int32) (M : Mem) : Option Mem :=
  if inb (x4 + 1) L then if inb (x4 + 2) L then (F_LAW_field (xs (x4 + 1).toNatClampNeg) (xs (x4 + 2).toNatClampNeg) M).bind fun r1 => if inb (x4 + 1) L then if inb (x4 + 2) L then (F_MO_field (xs (x4 + 1).toNatClampNeg) (xs (x4 + 2).toNatClampNeg) r1.2).bind fun r2 => (F_MO_thrown r2).bind fun r3 => if r3 = r1.1 then some r2 else none else none else none else none else none
set_option maxRecDepth 100000 in
set_option maxHeartbeats 8000000 in
theorem K_LAWc_27 {p : Program} {l : Launch} {e : Env} {s : State} {m : MethodId} {args : Array Value} {below : List Frame} {meth : Method} {c : Code} {g : GB} {Q : State → Prop} {b L : Nat} {xs : Nat → Int32} (K : KF p l s m args meth c g code 8 "KeptWellLaw") (htr : l.stackTraces = false) (hX : va_X b L xs s s.heap) (hbl : b < s.heap.size) (hbA : ¬ AS g s.heap.size b) (C S : Nat) (hC : C + 8 ≤ 600002) (hS : S + 48 ≤ 7302231) (x4 : Int32) (M : Mem) (PHI : Mem → Prop) (hnext : ∀ M, PHI M → GG p l e room_1 s m args below meth c g 8 Q (C + 8) (S + 48) 2782 [(0, .ref b), (1, .ref (g.2.1 0)), (2, .ref (g.2.1 94)), (3, .ref (g.2.1 121)), (4, .int x4)] [] M) (h : wpO (F_LAWc_27 xs L x4 M) PHI) : GG p l e room_1 s m args below meth c g 8 Q C S 2062 [(0, .ref b), (1, .ref (g.2.1 0)), (2, .ref (g.2.1 94)), (3, .ref (g.2.1 121)), (4, .int x4)] [] M := by
  unfold F_LAWc_27 at h
  refine G_aload_n rfl 1 rfl K dL_2062 ?_
  refine G_aload_n rfl 0 rfl K dL_2063 ?_
  refine G_iload 4 rfl K dL_2064 ?_
  refine G_iconst (v := 1) rfl K dL_2066 ?_
  refine G_iadd K dL_2067 ?_
  obtain ⟨hin, h⟩ := wpO_g h
  refine G_sld K hX hbl hbA dL_2068 hin ?_
  refine G_aload_n rfl 0 rfl K dL_2069 ?_
  refine G_iload 4 rfl K dL_2070 ?_
  refine G_iconst (v := 2) rfl K dL_2072 ?_
  refine G_iadd K dL_2073 ?_
  obtain ⟨hin, h⟩ := wpO_g h
  refine G_sld K hX hbl hbA dL_2074 hin ?_
  obtain ⟨r1, e1, h⟩ := wpO_bind h
  refine G_callH [.ref (g.2.1 0), .int (xs (x4 + 1).toNatClampNeg), .int (xs (x4 + 2).toNatClampNeg)] [] K dL_2075 wv_1291 yd_L_field (by decide) ⟨by show C + 0 + 2 ≤ 600002; omega, by show S + 0 + 12 ≤ 7302231; omega⟩ rfl rfl (Nat.le_of_ble_eq_true rfl) (K_LAW_field l g htr (xs (x4 + 1).toNatClampNeg) (xs (x4 + 2).toNatClampNeg) M _ _ e1) ?_
  refine G_istore K dL_2078 (Nat.le_of_ble_eq_true rfl) rfl ?_
  refine G_aload_n rfl 3 rfl K dL_2080 ?_
  refine G_aload_n rfl 1 rfl K dL_2081 ?_
  refine G_iload 5 rfl K dL_2082 ?_
  refine G_iconst (v := 1) rfl K dL_2084 ?_
  refine G_iadd K dL_2085 ?_
  obtain ⟨hin, h⟩ := wpO_g h
  refine G_sld K hX hbl hbA dL_2086 hin ?_
  refine G_aload_n rfl 1 rfl K dL_2087 ?_
  refine G_iload 5 rfl K dL_2088 ?_
  refine G_iconst (v := 2) rfl K dL_2090 ?_
  refine G_iadd K dL_2091 ?_
  obtain ⟨hin, h⟩ := wpO_g h
  refine G_sld K hX hbl hbA dL_2092 hin ?_
  obtain ⟨r2, e2, h⟩ := wpO_bind h
  refine G_callVv (ci := 12) [.int (xs (x4 + 1).toNatClampNeg), .int (xs (x4 + 2).toNatClampNeg)] [] K dL_2093 wv_1951 yd_X12_field (Nat.le_of_ble_eq_true rfl) (sh_94 _ _) rfl (by decide) ⟨by show C + 2 + 0 ≤ 600002; omega, by show S + 12 + 0 ≤ 7302231; omega⟩ rfl rfl (Nat.le_of_ble_eq_true rfl) (K_MO_field l g htr (xs (x4 + 1).toNatClampNeg) (xs (x4 + 2).toNatClampNeg) r1.2 _ e2) ?_
  refine G_aload_n rfl 3 rfl K dL_2096 ?_
  obtain ⟨r3, e3, h⟩ := wpO_bind h
  refine G_callVi (ci := 12) [] [] K dL_2097 wv_1470 yd_X12_thrown (Nat.le_of_ble_eq_true rfl) (sh_94 _ _) rfl (by decide) ⟨by show C + 2 + 0 ≤ 600002; omega, by show S + 12 + 0 ≤ 7302231; omega⟩ rfl rfl (Nat.le_of_ble_eq_true rfl) (K_MO_thrown l g htr  r2 _ e3) ?_
  refine G_iload 0 rfl K dL_2100 ?_
  refine G_icmp_eq (tgt := 2107) K dL_2102 (by decide) (fun hc => ?_) (fun hc => ?_)
  · have h := wpO_t h hc
    refine G_goto (tgt := 2782) K dL_2107 (by decide) ?_
    exact G_wide (k := C + 8) (n := S + 48) (by show C + 2 ≤ C + 8; omega) (by show S + 12 ≤ S + 48; omega) (G_lv (lv' := [(0, .ref b), (1, .ref (g.2.1 0)), (2, .ref (g.2.1 94)), (3, .ref (g.2.1 121)), (4, .int x4)]) [1, 2, 3, 4, 5] rfl (hnext r2 (wpO_some h)))
  · have h := wpO_f h hc
    refine G_iconst (v := 0) rfl K dL_2105 ?_
    exact wpO_none h
def F_LAWc_28 (xs : Nat → Int32) (L : Nat) (x4 : Int32) (M : Mem) : Option Mem :=
  if inb (x4 + 1) L then (F_LAW_rounds (xs (x4 + 1).toNatClampNeg) M).bind fun r1 => if inb (x4 + 1) L then (F_MO_rounds (xs (x4 + 1).toNatClampNeg) r1.2).bind fun r2 => (F_MO_thrown r2).bind fun r3 => if r3 = r1.1 then some r2 else none else none else none
set_option maxRecDepth 100000 in
set_option maxHeartbeats 8000000 in
theorem K_LAWc_28 {p : Program} {l : Launch} {e : Env} {s : State} {m : MethodId} {args : Array Value} {below : List Frame} {meth : Method} {c : Code} {g : GB} {Q : State → Prop} {b L : Nat} {xs : Nat → Int32} (K : KF p l s m args meth c g code 8 "KeptWellLaw") (htr : l.stackTraces = false) (hX : va_X b L xs s s.heap) (hbl : b < s.heap.size) (hbA : ¬ AS g s.heap.size b) (C S : Nat) (hC : C + 8 ≤ 600002) (hS : S + 48 ≤ 7302231) (x4 : Int32) (M : Mem) (PHI : Mem → Prop) (hnext : ∀ M, PHI M → GG p l e room_1 s m args below meth c g 8 Q (C + 8) (S + 48) 2782 [(0, .ref b), (1, .ref (g.2.1 0)), (2, .ref (g.2.1 94)), (3, .ref (g.2.1 121)), (4, .int x4)] [] M) (h : wpO (F_LAWc_28 xs L x4 M) PHI) : GG p l e room_1 s m args below meth c g 8 Q C S 2110 [(0, .ref b), (1, .ref (g.2.1 0)), (2, .ref (g.2.1 94)), (3, .ref (g.2.1 121)), (4, .int x4)] [] M := by
  unfold F_LAWc_28 at h
  refine G_aload_n rfl 1 rfl K dL_2110 ?_
  refine G_aload_n rfl 0 rfl K dL_2111 ?_
  refine G_iload 4 rfl K dL_2112 ?_
  refine G_iconst (v := 1) rfl K dL_2114 ?_
  refine G_iadd K dL_2115 ?_
  obtain ⟨hin, h⟩ := wpO_g h
  refine G_sld K hX hbl hbA dL_2116 hin ?_
  obtain ⟨r1, e1, h⟩ := wpO_bind h
  refine G_callH [.ref (g.2.1 0), .int (xs (x4 + 1).toNatClampNeg)] [] K dL_2117 wv_1299 yd_L_rounds (by decide) ⟨by show C + 0 + 1 ≤ 600002; omega, by show S + 0 + 6 ≤ 7302231; omega⟩ rfl rfl (Nat.le_of_ble_eq_true rfl) (K_LAW_rounds l g htr (xs (x4 + 1).toNatClampNeg) M _ _ e1) ?_
  refine G_istore K dL_2120 (Nat.le_of_ble_eq_true rfl) rfl ?_
  refine G_aload_n rfl 3 rfl K dL_2122 ?_
  refine G_aload_n rfl 1 rfl K dL_2123 ?_
  refine G_iload 5 rfl K dL_2124 ?_
  refine G_iconst (v := 1) rfl K dL_2126 ?_
  refine G_iadd K dL_2127 ?_
  obtain ⟨hin, h⟩ := wpO_g h
  refine G_sld K hX hbl hbA dL_2128 hin ?_
  obtain ⟨r2, e2, h⟩ := wpO_bind h
  refine G_callVv (ci := 12) [.int (xs (x4 + 1).toNatClampNeg)] [] K dL_2129 wv_1955 yd_X12_rounds (Nat.le_of_ble_eq_true rfl) (sh_94 _ _) rfl (by decide) ⟨by show C + 1 + 0 ≤ 600002; omega, by show S + 6 + 0 ≤ 7302231; omega⟩ rfl rfl (Nat.le_of_ble_eq_true rfl) (K_MO_rounds l g htr (xs (x4 + 1).toNatClampNeg) r1.2 _ e2) ?_
  refine G_aload_n rfl 3 rfl K dL_2132 ?_
  obtain ⟨r3, e3, h⟩ := wpO_bind h
  refine G_callVi (ci := 12) [] [] K dL_2133 wv_1470 yd_X12_thrown (Nat.le_of_ble_eq_true rfl) (sh_94 _ _) rfl (by decide) ⟨by show C + 1 + 0 ≤ 600002; omega, by show S + 6 + 0 ≤ 7302231; omega⟩ rfl rfl (Nat.le_of_ble_eq_true rfl) (K_MO_thrown l g htr  r2 _ e3) ?_
  refine G_iload 0 rfl K dL_2136 ?_
  refine G_icmp_eq (tgt := 2143) K dL_2138 (by decide) (fun hc => ?_) (fun hc => ?_)
  · have h := wpO_t h hc
    refine G_goto (tgt := 2782) K dL_2143 (by decide) ?_
    exact G_wide (k := C + 8) (n := S + 48) (by show C + 1 ≤ C + 8; omega) (by show S + 6 ≤ S + 48; omega) (G_lv (lv' := [(0, .ref b), (1, .ref (g.2.1 0)), (2, .ref (g.2.1 94)), (3, .ref (g.2.1 121)), (4, .int x4)]) [1, 2, 3, 4, 5] rfl (hnext r2 (wpO_some h)))
  · have h := wpO_f h hc
    refine G_iconst (v := 0) rfl K dL_2141 ?_
    exact wpO_none h
def F_LAWc_29 (xs : Nat → Int32) (L : Nat) (x4 : Int32) (M : Mem) : Option Mem :=
  if inb (x4 + 1) L then if inb (x4 + 2) L then (F_LAW_meet (xs (x4 + 1).toNatClampNeg) (xs (x4 + 2).toNatClampNeg) M).bind fun r1 => if inb (x4 + 1) L then if inb (x4 + 2) L then (F_MO_meet (xs (x4 + 1).toNatClampNeg) (xs (x4 + 2).toNatClampNeg) r1.2).bind fun r2 => (F_MO_thrown r2.2).bind fun r3 => if r3 = r1.1 then if r1.1 = 0 then if inb ((0 : Int32)) 1 then if (r2.2.2 121 ((0 : Int32)).toNatClampNeg) = r2.1.toInt64 then some r2.2 else none else none else some r2.2 else none else none else none else none else none
set_option maxRecDepth 100000 in
set_option maxHeartbeats 8000000 in
theorem K_LAWc_29 {p : Program} {l : Launch} {e : Env} {s : State} {m : MethodId} {args : Array Value} {below : List Frame} {meth : Method} {c : Code} {g : GB} {Q : State → Prop} {b L : Nat} {xs : Nat → Int32} (K : KF p l s m args meth c g code 8 "KeptWellLaw") (htr : l.stackTraces = false) (hX : va_X b L xs s s.heap) (hbl : b < s.heap.size) (hbA : ¬ AS g s.heap.size b) (C S : Nat) (hC : C + 8 ≤ 600002) (hS : S + 48 ≤ 7302231) (x4 : Int32) (M : Mem) (PHI : Mem → Prop) (hnext : ∀ M, PHI M → GG p l e room_1 s m args below meth c g 8 Q (C + 8) (S + 48) 2782 [(0, .ref b), (1, .ref (g.2.1 0)), (2, .ref (g.2.1 94)), (3, .ref (g.2.1 121)), (4, .int x4)] [] M) (h : wpO (F_LAWc_29 xs L x4 M) PHI) : GG p l e room_1 s m args below meth c g 8 Q C S 2146 [(0, .ref b), (1, .ref (g.2.1 0)), (2, .ref (g.2.1 94)), (3, .ref (g.2.1 121)), (4, .int x4)] [] M := by
  unfold F_LAWc_29 at h
  refine G_aload_n rfl 1 rfl K dL_2146 ?_
  refine G_aload_n rfl 0 rfl K dL_2147 ?_
  refine G_iload 4 rfl K dL_2148 ?_
  refine G_iconst (v := 1) rfl K dL_2150 ?_
  refine G_iadd K dL_2151 ?_
  obtain ⟨hin, h⟩ := wpO_g h
  refine G_sld K hX hbl hbA dL_2152 hin ?_
  refine G_aload_n rfl 0 rfl K dL_2153 ?_
  refine G_iload 4 rfl K dL_2154 ?_
  refine G_iconst (v := 2) rfl K dL_2156 ?_
  refine G_iadd K dL_2157 ?_
  obtain ⟨hin, h⟩ := wpO_g h
  refine G_sld K hX hbl hbA dL_2158 hin ?_
  refine G_aload_n rfl 3 rfl K dL_2159 ?_
  obtain ⟨r1, e1, h⟩ := wpO_bind h
  refine G_callH [.ref (g.2.1 0), .int (xs (x4 + 1).toNatClampNeg), .int (xs (x4 + 2).toNatClampNeg), .ref (g.2.1 121)] [] K dL_2160 wv_1306 yd_L_meet (by decide) ⟨by show C + 0 + 4 ≤ 600002; omega, by show S + 0 + 24 ≤ 7302231; omega⟩ rfl rfl (Nat.le_of_ble_eq_true rfl) (K_LAW_meet l g htr (xs (x4 + 1).toNatClampNeg) (xs (x4 + 2).toNatClampNeg) M _ _ e1) ?_
  refine G_istore K dL_2163 (Nat.le_of_ble_eq_true rfl) rfl ?_
  refine G_aload_n rfl 3 rfl K dL_2165 ?_
  refine G_aload_n rfl 1 rfl K dL_2166 ?_
  refine G_iload 5 rfl K dL_2167 ?_
  refine G_iconst (v := 1) rfl K dL_2169 ?_
  refine G_iadd K dL_2170 ?_
  obtain ⟨hin, h⟩ := wpO_g h
  refine G_sld K hX hbl hbA dL_2171 hin ?_
  refine G_aload_n rfl 1 rfl K dL_2172 ?_
  refine G_iload 5 rfl K dL_2173 ?_
  refine G_iconst (v := 2) rfl K dL_2175 ?_
  refine G_iadd K dL_2176 ?_
  obtain ⟨hin, h⟩ := wpO_g h
  refine G_sld K hX hbl hbA dL_2177 hin ?_
  obtain ⟨r2, e2, h⟩ := wpO_bind h
  refine G_callVi (ci := 12) [.int (xs (x4 + 1).toNatClampNeg), .int (xs (x4 + 2).toNatClampNeg)] [] K dL_2178 wv_1959 yd_X12_meet (Nat.le_of_ble_eq_true rfl) (sh_94 _ _) rfl (by decide) ⟨by show C + 4 + 0 ≤ 600002; omega, by show S + 24 + 0 ≤ 7302231; omega⟩ rfl rfl (Nat.le_of_ble_eq_true rfl) (K_MO_meet l g htr (xs (x4 + 1).toNatClampNeg) (xs (x4 + 2).toNatClampNeg) r1.2 _ _ e2) ?_
  refine G_istore K dL_2181 (Nat.le_of_ble_eq_true rfl) rfl ?_
  refine G_aload_n rfl 4 rfl K dL_2183 ?_
  obtain ⟨r3, e3, h⟩ := wpO_bind h
  refine G_callVi (ci := 12) [] [] K dL_2184 wv_1470 yd_X12_thrown (Nat.le_of_ble_eq_true rfl) (sh_94 _ _) rfl (by decide) ⟨by show C + 4 + 0 ≤ 600002; omega, by show S + 24 + 0 ≤ 7302231; omega⟩ rfl rfl (Nat.le_of_ble_eq_true rfl) (K_MO_thrown l g htr  r2.2 _ e3) ?_
  refine G_iload 1 rfl K dL_2187 ?_
  refine G_icmp_eq (tgt := 2194) K dL_2189 (by decide) (fun hc => ?_) (fun hc => ?_)
  · have h := wpO_t h hc
    refine G_iload 1 rfl K dL_2194 ?_
    refine G_if_ne (tgt := 2211) K dL_2196 (by decide) (fun hc => ?_) (fun hc => ?_)
    · have h := wpO_f h hc
      refine G_goto (tgt := 2782) K dL_2211 (by decide) ?_
      exact G_wide (k := C + 8) (n := S + 48) (by show C + 4 ≤ C + 8; omega) (by show S + 24 ≤ S + 48; omega) (G_lv (lv' := [(0, .ref b), (1, .ref (g.2.1 0)), (2, .ref (g.2.1 94)), (3, .ref (g.2.1 121)), (4, .int x4)]) [2, 3, 4, 5, 6] rfl (hnext r2.2 (wpO_some h)))
    · have h := wpO_t h hc
      refine G_aload_n rfl 5 rfl K dL_2199 ?_
      refine G_iconst (v := 0) rfl K dL_2200 ?_
      obtain ⟨hin, h⟩ := wpO_g h
      refine G_lald K dL_2201 (Nat.le_of_ble_eq_true rfl) (sh_121 _ _) hin ?_
      refine G_iload 0 rfl K dL_2202 ?_
      refine G_i2l K dL_2204 ?_
      refine G_lcmp_eq (tgt := 2211) K dL_2205 dL_2206 (by decide) (fun hc => ?_) (fun hc => ?_)
      · have h := wpO_t h hc
        refine G_goto (tgt := 2782) K dL_2211 (by decide) ?_
        exact G_wide (k := C + 8) (n := S + 48) (by show C + 4 ≤ C + 8; omega) (by show S + 24 ≤ S + 48; omega) (G_lv (lv' := [(0, .ref b), (1, .ref (g.2.1 0)), (2, .ref (g.2.1 94)), (3, .ref (g.2.1 121)), (4, .int x4)]) [2, 3, 4, 5, 6] rfl (hnext r2.2 (wpO_some h)))
      · have h := wpO_f h hc
        refine G_iconst (v := 0) rfl K dL_2209 ?_
        exact wpO_none h
  · have h := wpO_f h hc
    refine G_iconst (v := 0) rfl K dL_2192 ?_
    exact wpO_none h
def F_LAWc_30 (xs : Nat → Int32) (L : Nat) (x4 : Int32) (M : Mem) : Option Mem :=
  if inb (x4 + 1) L then (F_LAW_grow (xs (x4 + 1).toNatClampNeg) M).bind fun r1 => if inb (x4 + 1) L then (F_MO_grow (xs (x4 + 1).toNatClampNeg) r1.2).bind fun r2 => (F_MO_thrown r2.2).bind fun r3 => if r3 = r1.1 then if r1.1 = 0 then if inb ((0 : Int32)) 1 then if (r2.2.2 121 ((0 : Int32)).toNatClampNeg) = r2.1.toInt64 then some r2.2 else none else none else some r2.2 else none else none else none
set_option maxRecDepth 100000 in
set_option maxHeartbeats 8000000 in
theorem K_LAWc_30 {p : Program} {l : Launch} {e : Env} {s : State} {m : MethodId} {args : Array Value} {below : List Frame} {meth : Method} {c : Code} {g : GB} {Q : State → Prop} {b L : Nat} {xs : Nat → Int32} (K : KF p l s m args meth c g code 8 "KeptWellLaw") (htr : l.stackTraces = false) (hX : va_X b L xs s s.heap) (hbl : b < s.heap.size) (hbA : ¬ AS g s.heap.size b) (C S : Nat) (hC : C + 8 ≤ 600002) (hS : S + 48 ≤ 7302231) (x4 : Int32) (M : Mem) (PHI : Mem → Prop) (hnext : ∀ M, PHI M → GG p l e room_1 s m args below meth c g 8 Q (C + 8) (S + 48) 2782 [(0, .ref b), (1, .ref (g.2.1 0)), (2, .ref (g.2.1 94)), (3, .ref (g.2.1 121)), (4, .int x4)] [] M) (h : wpO (F_LAWc_30 xs L x4 M) PHI) : GG p l e room_1 s m args below meth c g 8 Q C S 2214 [(0, .ref b), (1, .ref (g.2.1 0)), (2, .ref (g.2.1 94)), (3, .ref (g.2.1 121)), (4, .int x4)] [] M := by
  unfold F_LAWc_30 at h
  refine G_aload_n rfl 1 rfl K dL_2214 ?_
  refine G_aload_n rfl 0 rfl K dL_2215 ?_
  refine G_iload 4 rfl K dL_2216 ?_
  refine G_iconst (v := 1) rfl K dL_2218 ?_
  refine G_iadd K dL_2219 ?_
  obtain ⟨hin, h⟩ := wpO_g h
  refine G_sld K hX hbl hbA dL_2220 hin ?_
  refine G_aload_n rfl 3 rfl K dL_2221 ?_
  obtain ⟨r1, e1, h⟩ := wpO_bind h
  refine G_callH [.ref (g.2.1 0), .int (xs (x4 + 1).toNatClampNeg), .ref (g.2.1 121)] [] K dL_2222 wv_1317 yd_L_grow (by decide) ⟨by show C + 0 + 1 ≤ 600002; omega, by show S + 0 + 6 ≤ 7302231; omega⟩ rfl rfl (Nat.le_of_ble_eq_true rfl) (K_LAW_grow l g htr (xs (x4 + 1).toNatClampNeg) M _ _ e1) ?_
  refine G_istore K dL_2225 (Nat.le_of_ble_eq_true rfl) rfl ?_
  refine G_aload_n rfl 3 rfl K dL_2227 ?_
  refine G_aload_n rfl 1 rfl K dL_2228 ?_
  refine G_iload 5 rfl K dL_2229 ?_
  refine G_iconst (v := 1) rfl K dL_2231 ?_
  refine G_iadd K dL_2232 ?_
  obtain ⟨hin, h⟩ := wpO_g h
  refine G_sld K hX hbl hbA dL_2233 hin ?_
  obtain ⟨r2, e2, h⟩ := wpO_bind h
  refine G_callVi (ci := 12) [.int (xs (x4 + 1).toNatClampNeg)] [] K dL_2234 wv_1967 yd_X12_grow (Nat.le_of_ble_eq_true rfl) (sh_94 _ _) rfl (by decide) ⟨by show C + 1 + 0 ≤ 600002; omega, by show S + 6 + 0 ≤ 7302231; omega⟩ rfl rfl (Nat.le_of_ble_eq_true rfl) (K_MO_grow l g htr (xs (x4 + 1).toNatClampNeg) r1.2 _ _ e2) ?_
  refine G_istore K dL_2237 (Nat.le_of_ble_eq_true rfl) rfl ?_
  refine G_aload_n rfl 4 rfl K dL_2239 ?_
  obtain ⟨r3, e3, h⟩ := wpO_bind h
  refine G_callVi (ci := 12) [] [] K dL_2240 wv_1470 yd_X12_thrown (Nat.le_of_ble_eq_true rfl) (sh_94 _ _) rfl (by decide) ⟨by show C + 1 + 0 ≤ 600002; omega, by show S + 6 + 0 ≤ 7302231; omega⟩ rfl rfl (Nat.le_of_ble_eq_true rfl) (K_MO_thrown l g htr  r2.2 _ e3) ?_
  refine G_iload 1 rfl K dL_2243 ?_
  refine G_icmp_eq (tgt := 2250) K dL_2245 (by decide) (fun hc => ?_) (fun hc => ?_)
  · have h := wpO_t h hc
    refine G_iload 1 rfl K dL_2250 ?_
    refine G_if_ne (tgt := 2267) K dL_2252 (by decide) (fun hc => ?_) (fun hc => ?_)
    · have h := wpO_f h hc
      refine G_goto (tgt := 2782) K dL_2267 (by decide) ?_
      exact G_wide (k := C + 8) (n := S + 48) (by show C + 1 ≤ C + 8; omega) (by show S + 6 ≤ S + 48; omega) (G_lv (lv' := [(0, .ref b), (1, .ref (g.2.1 0)), (2, .ref (g.2.1 94)), (3, .ref (g.2.1 121)), (4, .int x4)]) [2, 3, 4, 5, 6] rfl (hnext r2.2 (wpO_some h)))
    · have h := wpO_t h hc
      refine G_aload_n rfl 5 rfl K dL_2255 ?_
      refine G_iconst (v := 0) rfl K dL_2256 ?_
      obtain ⟨hin, h⟩ := wpO_g h
      refine G_lald K dL_2257 (Nat.le_of_ble_eq_true rfl) (sh_121 _ _) hin ?_
      refine G_iload 0 rfl K dL_2258 ?_
      refine G_i2l K dL_2260 ?_
      refine G_lcmp_eq (tgt := 2267) K dL_2261 dL_2262 (by decide) (fun hc => ?_) (fun hc => ?_)
      · have h := wpO_t h hc
        refine G_goto (tgt := 2782) K dL_2267 (by decide) ?_
        exact G_wide (k := C + 8) (n := S + 48) (by show C + 1 ≤ C + 8; omega) (by show S + 6 ≤ S + 48; omega) (G_lv (lv' := [(0, .ref b), (1, .ref (g.2.1 0)), (2, .ref (g.2.1 94)), (3, .ref (g.2.1 121)), (4, .int x4)]) [2, 3, 4, 5, 6] rfl (hnext r2.2 (wpO_some h)))
      · have h := wpO_f h hc
        refine G_iconst (v := 0) rfl K dL_2265 ?_
        exact wpO_none h
  · have h := wpO_f h hc
    refine G_iconst (v := 0) rfl K dL_2248 ?_
    exact wpO_none h
def F_LAWc_31 (xs : Nat → Int32) (L : Nat) (x4 : Int32) (M : Mem) : Option Mem :=
  if inb (x4 + 1) L then (F_LAW_beings (xs (x4 + 1).toNatClampNeg) M).bind fun r1 => if inb (x4 + 1) L then (F_MO_beings (xs (x4 + 1).toNatClampNeg) r1.2).bind fun r2 => (F_MO_thrown r2.2).bind fun r3 => if r3 = r1.1 then if r1.1 = 0 then if inb ((0 : Int32)) 1 then if (r2.2.2 121 ((0 : Int32)).toNatClampNeg) = r2.1.toInt64 then some r2.2 else none else none else some r2.2 else none else none else none
set_option maxRecDepth 100000 in
set_option maxHeartbeats 8000000 in
theorem K_LAWc_31 {p : Program} {l : Launch} {e : Env} {s : State} {m : MethodId} {args : Array Value} {below : List Frame} {meth : Method} {c : Code} {g : GB} {Q : State → Prop} {b L : Nat} {xs : Nat → Int32} (K : KF p l s m args meth c g code 8 "KeptWellLaw") (htr : l.stackTraces = false) (hX : va_X b L xs s s.heap) (hbl : b < s.heap.size) (hbA : ¬ AS g s.heap.size b) (C S : Nat) (hC : C + 8 ≤ 600002) (hS : S + 48 ≤ 7302231) (x4 : Int32) (M : Mem) (PHI : Mem → Prop) (hnext : ∀ M, PHI M → GG p l e room_1 s m args below meth c g 8 Q (C + 8) (S + 48) 2782 [(0, .ref b), (1, .ref (g.2.1 0)), (2, .ref (g.2.1 94)), (3, .ref (g.2.1 121)), (4, .int x4)] [] M) (h : wpO (F_LAWc_31 xs L x4 M) PHI) : GG p l e room_1 s m args below meth c g 8 Q C S 2270 [(0, .ref b), (1, .ref (g.2.1 0)), (2, .ref (g.2.1 94)), (3, .ref (g.2.1 121)), (4, .int x4)] [] M := by
  unfold F_LAWc_31 at h
  refine G_aload_n rfl 1 rfl K dL_2270 ?_
  refine G_aload_n rfl 0 rfl K dL_2271 ?_
  refine G_iload 4 rfl K dL_2272 ?_
  refine G_iconst (v := 1) rfl K dL_2274 ?_
  refine G_iadd K dL_2275 ?_
  obtain ⟨hin, h⟩ := wpO_g h
  refine G_sld K hX hbl hbA dL_2276 hin ?_
  refine G_aload_n rfl 3 rfl K dL_2277 ?_
  obtain ⟨r1, e1, h⟩ := wpO_bind h
  refine G_callH [.ref (g.2.1 0), .int (xs (x4 + 1).toNatClampNeg), .ref (g.2.1 121)] [] K dL_2278 wv_1367 yd_L_beings (by decide) ⟨by show C + 0 + 1 ≤ 600002; omega, by show S + 0 + 6 ≤ 7302231; omega⟩ rfl rfl (Nat.le_of_ble_eq_true rfl) (K_LAW_beings l g htr (xs (x4 + 1).toNatClampNeg) M _ _ e1) ?_
  refine G_istore K dL_2281 (Nat.le_of_ble_eq_true rfl) rfl ?_
  refine G_aload_n rfl 3 rfl K dL_2283 ?_
  refine G_aload_n rfl 1 rfl K dL_2284 ?_
  refine G_iload 5 rfl K dL_2285 ?_
  refine G_iconst (v := 1) rfl K dL_2287 ?_
  refine G_iadd K dL_2288 ?_
  obtain ⟨hin, h⟩ := wpO_g h
  refine G_sld K hX hbl hbA dL_2289 hin ?_
  obtain ⟨r2, e2, h⟩ := wpO_bind h
  refine G_callVi (ci := 12) [.int (xs (x4 + 1).toNatClampNeg)] [] K dL_2290 wv_1975 yd_X12_beings (Nat.le_of_ble_eq_true rfl) (sh_94 _ _) rfl (by decide) ⟨by show C + 1 + 0 ≤ 600002; omega, by show S + 6 + 0 ≤ 7302231; omega⟩ rfl rfl (Nat.le_of_ble_eq_true rfl) (K_MO_beings l g htr (xs (x4 + 1).toNatClampNeg) r1.2 _ _ e2) ?_
  refine G_istore K dL_2293 (Nat.le_of_ble_eq_true rfl) rfl ?_
  refine G_aload_n rfl 4 rfl K dL_2295 ?_
  obtain ⟨r3, e3, h⟩ := wpO_bind h
  refine G_callVi (ci := 12) [] [] K dL_2296 wv_1470 yd_X12_thrown (Nat.le_of_ble_eq_true rfl) (sh_94 _ _) rfl (by decide) ⟨by show C + 1 + 0 ≤ 600002; omega, by show S + 6 + 0 ≤ 7302231; omega⟩ rfl rfl (Nat.le_of_ble_eq_true rfl) (K_MO_thrown l g htr  r2.2 _ e3) ?_
  refine G_iload 1 rfl K dL_2299 ?_
  refine G_icmp_eq (tgt := 2306) K dL_2301 (by decide) (fun hc => ?_) (fun hc => ?_)
  · have h := wpO_t h hc
    refine G_iload 1 rfl K dL_2306 ?_
    refine G_if_ne (tgt := 2323) K dL_2308 (by decide) (fun hc => ?_) (fun hc => ?_)
    · have h := wpO_f h hc
      refine G_goto (tgt := 2782) K dL_2323 (by decide) ?_
      exact G_wide (k := C + 8) (n := S + 48) (by show C + 1 ≤ C + 8; omega) (by show S + 6 ≤ S + 48; omega) (G_lv (lv' := [(0, .ref b), (1, .ref (g.2.1 0)), (2, .ref (g.2.1 94)), (3, .ref (g.2.1 121)), (4, .int x4)]) [2, 3, 4, 5, 6] rfl (hnext r2.2 (wpO_some h)))
    · have h := wpO_t h hc
      refine G_aload_n rfl 5 rfl K dL_2311 ?_
      refine G_iconst (v := 0) rfl K dL_2312 ?_
      obtain ⟨hin, h⟩ := wpO_g h
      refine G_lald K dL_2313 (Nat.le_of_ble_eq_true rfl) (sh_121 _ _) hin ?_
      refine G_iload 0 rfl K dL_2314 ?_
      refine G_i2l K dL_2316 ?_
      refine G_lcmp_eq (tgt := 2323) K dL_2317 dL_2318 (by decide) (fun hc => ?_) (fun hc => ?_)
      · have h := wpO_t h hc
        refine G_goto (tgt := 2782) K dL_2323 (by decide) ?_
        exact G_wide (k := C + 8) (n := S + 48) (by show C + 1 ≤ C + 8; omega) (by show S + 6 ≤ S + 48; omega) (G_lv (lv' := [(0, .ref b), (1, .ref (g.2.1 0)), (2, .ref (g.2.1 94)), (3, .ref (g.2.1 121)), (4, .int x4)]) [2, 3, 4, 5, 6] rfl (hnext r2.2 (wpO_some h)))
      · have h := wpO_f h hc
        refine G_iconst (v := 0) rfl K dL_2321 ?_
        exact wpO_none h
  · have h := wpO_f h hc
    refine G_iconst (v := 0) rfl K dL_2304 ?_
    exact wpO_none h
def F_LAWc_32_j2380 (xs : Nat → Int32) (L : Nat) (x4 : Int32) (s0 : Int64) (s1 : Int64) (M : Mem) : Option (Mem) :=
  if s0 = s1 then some M else none
def F_LAWc_32 (xs : Nat → Int32) (L : Nat) (x4 : Int32) (M : Mem) : Option Mem :=
  if inb (x4 + 1) L then (F_LAW_stays (xs (x4 + 1).toNatClampNeg) M).bind fun r1 => if inb (x4 + 1) L then (F_MO_stays (xs (x4 + 1).toNatClampNeg) r1.2).bind fun r2 => (F_MO_thrown r2.2).bind fun r3 => if r3 = r1.1 then if r1.1 = 0 then if inb ((0 : Int32)) 1 then if r2.1 = true then F_LAWc_32_j2380 xs L x4 (r2.2.2 121 ((0 : Int32)).toNatClampNeg) 1 r2.2 else F_LAWc_32_j2380 xs L x4 (r2.2.2 121 ((0 : Int32)).toNatClampNeg) 0 r2.2 else none else some r2.2 else none else none else none
set_option maxRecDepth 100000 in
set_option maxHeartbeats 8000000 in
theorem K_LAWc_32 {p : Program} {l : Launch} {e : Env} {s : State} {m : MethodId} {args : Array Value} {below : List Frame} {meth : Method} {c : Code} {g : GB} {Q : State → Prop} {b L : Nat} {xs : Nat → Int32} (K : KF p l s m args meth c g code 8 "KeptWellLaw") (htr : l.stackTraces = false) (hX : va_X b L xs s s.heap) (hbl : b < s.heap.size) (hbA : ¬ AS g s.heap.size b) (C S : Nat) (hC : C + 8 ≤ 600002) (hS : S + 48 ≤ 7302231) (x4 : Int32) (M : Mem) (PHI : Mem → Prop) (hnext : ∀ M, PHI M → GG p l e room_1 s m args below meth c g 8 Q (C + 8) (S + 48) 2782 [(0, .ref b), (1, .ref (g.2.1 0)), (2, .ref (g.2.1 94)), (3, .ref (g.2.1 121)), (4, .int x4)] [] M) (h : wpO (F_LAWc_32 xs L x4 M) PHI) : GG p l e room_1 s m args below meth c g 8 Q C S 2326 [(0, .ref b), (1, .ref (g.2.1 0)), (2, .ref (g.2.1 94)), (3, .ref (g.2.1 121)), (4, .int x4)] [] M := by
  have J2380 : ∀ (s0 : Int64) (s1 : Int64) (M : Mem), wpO (F_LAWc_32_j2380 xs L x4 s0 s1 M) PHI → GG p l e room_1 s m args below meth c g 8 Q (C + 2) (S + 12) 2380 [(0, .ref b), (1, .ref (g.2.1 0)), (2, .ref (g.2.1 94)), (3, .ref (g.2.1 121)), (4, .int x4)] [.long s1, .long s0] M := by
    intro s0 s1 M h
    unfold F_LAWc_32_j2380 at h
    refine G_lcmp_eq (tgt := 2386) K dL_2380 dL_2381 (by decide) (fun hc => ?_) (fun hc => ?_)
    · have h := wpO_t h hc
      refine G_goto (tgt := 2782) K dL_2386 (by decide) ?_
      exact G_wide (k := C + 8) (n := S + 48) (by show C + 2 ≤ C + 8; omega) (by show S + 12 ≤ S + 48; omega) (hnext M (wpO_some h))
    · have h := wpO_f h hc
      refine G_iconst (v := 0) rfl K dL_2384 ?_
      exact wpO_none h
  unfold F_LAWc_32 at h
  refine G_aload_n rfl 1 rfl K dL_2326 ?_
  refine G_aload_n rfl 0 rfl K dL_2327 ?_
  refine G_iload 4 rfl K dL_2328 ?_
  refine G_iconst (v := 1) rfl K dL_2330 ?_
  refine G_iadd K dL_2331 ?_
  obtain ⟨hin, h⟩ := wpO_g h
  refine G_sld K hX hbl hbA dL_2332 hin ?_
  refine G_aload_n rfl 3 rfl K dL_2333 ?_
  obtain ⟨r1, e1, h⟩ := wpO_bind h
  refine G_callH [.ref (g.2.1 0), .int (xs (x4 + 1).toNatClampNeg), .ref (g.2.1 121)] [] K dL_2334 wv_1374 yd_L_stays (by decide) ⟨by show C + 0 + 2 ≤ 600002; omega, by show S + 0 + 12 ≤ 7302231; omega⟩ rfl rfl (Nat.le_of_ble_eq_true rfl) (K_LAW_stays l g htr (xs (x4 + 1).toNatClampNeg) M _ _ e1) ?_
  refine G_istore K dL_2337 (Nat.le_of_ble_eq_true rfl) rfl ?_
  refine G_aload_n rfl 3 rfl K dL_2339 ?_
  refine G_aload_n rfl 1 rfl K dL_2340 ?_
  refine G_iload 5 rfl K dL_2341 ?_
  refine G_iconst (v := 1) rfl K dL_2343 ?_
  refine G_iadd K dL_2344 ?_
  obtain ⟨hin, h⟩ := wpO_g h
  refine G_sld K hX hbl hbA dL_2345 hin ?_
  obtain ⟨r2, e2, h⟩ := wpO_bind h
  refine G_callVi (ci := 12) [.int (xs (x4 + 1).toNatClampNeg)] [] K dL_2346 wv_1979 yd_X12_stays (Nat.le_of_ble_eq_true rfl) (sh_94 _ _) rfl (by decide) ⟨by show C + 2 + 0 ≤ 600002; omega, by show S + 12 + 0 ≤ 7302231; omega⟩ rfl rfl (Nat.le_of_ble_eq_true rfl) (K_MO_stays l g htr (xs (x4 + 1).toNatClampNeg) r1.2 _ _ e2) ?_
  refine G_istore K dL_2349 (Nat.le_of_ble_eq_true rfl) rfl ?_
  refine G_aload_n rfl 4 rfl K dL_2351 ?_
  obtain ⟨r3, e3, h⟩ := wpO_bind h
  refine G_callVi (ci := 12) [] [] K dL_2352 wv_1470 yd_X12_thrown (Nat.le_of_ble_eq_true rfl) (sh_94 _ _) rfl (by decide) ⟨by show C + 2 + 0 ≤ 600002; omega, by show S + 12 + 0 ≤ 7302231; omega⟩ rfl rfl (Nat.le_of_ble_eq_true rfl) (K_MO_thrown l g htr  r2.2 _ e3) ?_
  refine G_iload 1 rfl K dL_2355 ?_
  refine G_icmp_eq (tgt := 2362) K dL_2357 (by decide) (fun hc => ?_) (fun hc => ?_)
  · have h := wpO_t h hc
    refine G_iload 1 rfl K dL_2362 ?_
    refine G_if_ne (tgt := 2386) K dL_2364 (by decide) (fun hc => ?_) (fun hc => ?_)
    · have h := wpO_f h hc
      refine G_goto (tgt := 2782) K dL_2386 (by decide) ?_
      exact G_wide (k := C + 8) (n := S + 48) (by show C + 2 ≤ C + 8; omega) (by show S + 12 ≤ S + 48; omega) (G_lv (lv' := [(0, .ref b), (1, .ref (g.2.1 0)), (2, .ref (g.2.1 94)), (3, .ref (g.2.1 121)), (4, .int x4)]) [2, 3, 4, 5, 6] rfl (hnext r2.2 (wpO_some h)))
    · have h := wpO_t h hc
      refine G_aload_n rfl 5 rfl K dL_2367 ?_
      refine G_iconst (v := 0) rfl K dL_2368 ?_
      obtain ⟨hin, h⟩ := wpO_g h
      refine G_lald K dL_2369 (Nat.le_of_ble_eq_true rfl) (sh_121 _ _) hin ?_
      refine G_iload 0 rfl K dL_2370 ?_
      refine G_ifb_eq (tgt := 2379) K dL_2372 (by decide) (fun hc => ?_) (fun hc => ?_)
      · have h := wpO_bf h hc
        refine G_lconst (v := 0) rfl K dL_2379 ?_
        exact G_lv (lv' := [(0, .ref b), (1, .ref (g.2.1 0)), (2, .ref (g.2.1 94)), (3, .ref (g.2.1 121)), (4, .int x4)]) [2, 3, 4, 5, 6] rfl (J2380 (r2.2.2 121 ((0 : Int32)).toNatClampNeg) 0 r2.2 h)
      · have h := wpO_t h hc
        refine G_lconst (v := 1) rfl K dL_2375 ?_
        refine G_goto (tgt := 2380) K dL_2376 (by decide) ?_
        exact G_lv (lv' := [(0, .ref b), (1, .ref (g.2.1 0)), (2, .ref (g.2.1 94)), (3, .ref (g.2.1 121)), (4, .int x4)]) [2, 3, 4, 5, 6] rfl (J2380 (r2.2.2 121 ((0 : Int32)).toNatClampNeg) 1 r2.2 h)
  · have h := wpO_f h hc
    refine G_iconst (v := 0) rfl K dL_2360 ?_
    exact wpO_none h
def F_LAWc_33 (xs : Nat → Int32) (L : Nat) (x4 : Int32) (M : Mem) : Option Mem :=
  if inb (x4 + 1) L then if inb (x4 + 2) L then (F_LAW_all (xs (x4 + 1).toNatClampNeg) (xs (x4 + 2).toNatClampNeg) M).bind fun r1 => if inb (x4 + 1) L then if inb (x4 + 2) L then (F_MO_all (xs (x4 + 1).toNatClampNeg) (xs (x4 + 2).toNatClampNeg) r1.2).bind fun r2 => (F_MO_thrown r2.2).bind fun r3 => if r3 = r1.1 then if r1.1 = 0 then if inb ((0 : Int32)) 1 then if (r2.2.2 121 ((0 : Int32)).toNatClampNeg) = r2.1.toInt64 then some r2.2 else none else none else some r2.2 else none else none else none else none else none
set_option maxRecDepth 100000 in
set_option maxHeartbeats 8000000 in
theorem K_LAWc_33 {p : Program} {l : Launch} {e : Env} {s : State} {m : MethodId} {args : Array Value} {below : List Frame} {meth : Method} {c : Code} {g : GB} {Q : State → Prop} {b L : Nat} {xs : Nat → Int32} (K : KF p l s m args meth c g code 8 "KeptWellLaw") (htr : l.stackTraces = false) (hX : va_X b L xs s s.heap) (hbl : b < s.heap.size) (hbA : ¬ AS g s.heap.size b) (C S : Nat) (hC : C + 8 ≤ 600002) (hS : S + 48 ≤ 7302231) (x4 : Int32) (M : Mem) (PHI : Mem → Prop) (hnext : ∀ M, PHI M → GG p l e room_1 s m args below meth c g 8 Q (C + 8) (S + 48) 2782 [(0, .ref b), (1, .ref (g.2.1 0)), (2, .ref (g.2.1 94)), (3, .ref (g.2.1 121)), (4, .int x4)] [] M) (h : wpO (F_LAWc_33 xs L x4 M) PHI) : GG p l e room_1 s m args below meth c g 8 Q C S 2389 [(0, .ref b), (1, .ref (g.2.1 0)), (2, .ref (g.2.1 94)), (3, .ref (g.2.1 121)), (4, .int x4)] [] M := by
  unfold F_LAWc_33 at h
  refine G_aload_n rfl 1 rfl K dL_2389 ?_
  refine G_aload_n rfl 0 rfl K dL_2390 ?_
  refine G_iload 4 rfl K dL_2391 ?_
  refine G_iconst (v := 1) rfl K dL_2393 ?_
  refine G_iadd K dL_2394 ?_
  obtain ⟨hin, h⟩ := wpO_g h
  refine G_sld K hX hbl hbA dL_2395 hin ?_
  refine G_aload_n rfl 0 rfl K dL_2396 ?_
  refine G_iload 4 rfl K dL_2397 ?_
  refine G_iconst (v := 2) rfl K dL_2399 ?_
  refine G_iadd K dL_2400 ?_
  obtain ⟨hin, h⟩ := wpO_g h
  refine G_sld K hX hbl hbA dL_2401 hin ?_
  refine G_aload_n rfl 3 rfl K dL_2402 ?_
  obtain ⟨r1, e1, h⟩ := wpO_bind h
  refine G_callH [.ref (g.2.1 0), .int (xs (x4 + 1).toNatClampNeg), .int (xs (x4 + 2).toNatClampNeg), .ref (g.2.1 121)] [] K dL_2403 wv_1389 yd_L_all (by decide) ⟨by show C + 0 + 4 ≤ 600002; omega, by show S + 0 + 24 ≤ 7302231; omega⟩ rfl rfl (Nat.le_of_ble_eq_true rfl) (K_LAW_all l g htr (xs (x4 + 1).toNatClampNeg) (xs (x4 + 2).toNatClampNeg) M _ _ e1) ?_
  refine G_istore K dL_2406 (Nat.le_of_ble_eq_true rfl) rfl ?_
  refine G_aload_n rfl 3 rfl K dL_2408 ?_
  refine G_aload_n rfl 1 rfl K dL_2409 ?_
  refine G_iload 5 rfl K dL_2410 ?_
  refine G_iconst (v := 1) rfl K dL_2412 ?_
  refine G_iadd K dL_2413 ?_
  obtain ⟨hin, h⟩ := wpO_g h
  refine G_sld K hX hbl hbA dL_2414 hin ?_
  refine G_aload_n rfl 1 rfl K dL_2415 ?_
  refine G_iload 5 rfl K dL_2416 ?_
  refine G_iconst (v := 2) rfl K dL_2418 ?_
  refine G_iadd K dL_2419 ?_
  obtain ⟨hin, h⟩ := wpO_g h
  refine G_sld K hX hbl hbA dL_2420 hin ?_
  obtain ⟨r2, e2, h⟩ := wpO_bind h
  refine G_callVi (ci := 12) [.int (xs (x4 + 1).toNatClampNeg), .int (xs (x4 + 2).toNatClampNeg)] [] K dL_2421 wv_1983 yd_X12_all (Nat.le_of_ble_eq_true rfl) (sh_94 _ _) rfl (by decide) ⟨by show C + 4 + 0 ≤ 600002; omega, by show S + 24 + 0 ≤ 7302231; omega⟩ rfl rfl (Nat.le_of_ble_eq_true rfl) (K_MO_all l g htr (xs (x4 + 1).toNatClampNeg) (xs (x4 + 2).toNatClampNeg) r1.2 _ _ e2) ?_
  refine G_istore K dL_2424 (Nat.le_of_ble_eq_true rfl) rfl ?_
  refine G_aload_n rfl 4 rfl K dL_2426 ?_
  obtain ⟨r3, e3, h⟩ := wpO_bind h
  refine G_callVi (ci := 12) [] [] K dL_2427 wv_1470 yd_X12_thrown (Nat.le_of_ble_eq_true rfl) (sh_94 _ _) rfl (by decide) ⟨by show C + 4 + 0 ≤ 600002; omega, by show S + 24 + 0 ≤ 7302231; omega⟩ rfl rfl (Nat.le_of_ble_eq_true rfl) (K_MO_thrown l g htr  r2.2 _ e3) ?_
  refine G_iload 1 rfl K dL_2430 ?_
  refine G_icmp_eq (tgt := 2437) K dL_2432 (by decide) (fun hc => ?_) (fun hc => ?_)
  · have h := wpO_t h hc
    refine G_iload 1 rfl K dL_2437 ?_
    refine G_if_ne (tgt := 2454) K dL_2439 (by decide) (fun hc => ?_) (fun hc => ?_)
    · have h := wpO_f h hc
      refine G_goto (tgt := 2782) K dL_2454 (by decide) ?_
      exact G_wide (k := C + 8) (n := S + 48) (by show C + 4 ≤ C + 8; omega) (by show S + 24 ≤ S + 48; omega) (G_lv (lv' := [(0, .ref b), (1, .ref (g.2.1 0)), (2, .ref (g.2.1 94)), (3, .ref (g.2.1 121)), (4, .int x4)]) [2, 3, 4, 5, 6] rfl (hnext r2.2 (wpO_some h)))
    · have h := wpO_t h hc
      refine G_aload_n rfl 5 rfl K dL_2442 ?_
      refine G_iconst (v := 0) rfl K dL_2443 ?_
      obtain ⟨hin, h⟩ := wpO_g h
      refine G_lald K dL_2444 (Nat.le_of_ble_eq_true rfl) (sh_121 _ _) hin ?_
      refine G_iload 0 rfl K dL_2445 ?_
      refine G_i2l K dL_2447 ?_
      refine G_lcmp_eq (tgt := 2454) K dL_2448 dL_2449 (by decide) (fun hc => ?_) (fun hc => ?_)
      · have h := wpO_t h hc
        refine G_goto (tgt := 2782) K dL_2454 (by decide) ?_
        exact G_wide (k := C + 8) (n := S + 48) (by show C + 4 ≤ C + 8; omega) (by show S + 24 ≤ S + 48; omega) (G_lv (lv' := [(0, .ref b), (1, .ref (g.2.1 0)), (2, .ref (g.2.1 94)), (3, .ref (g.2.1 121)), (4, .int x4)]) [2, 3, 4, 5, 6] rfl (hnext r2.2 (wpO_some h)))
      · have h := wpO_f h hc
        refine G_iconst (v := 0) rfl K dL_2452 ?_
        exact wpO_none h
  · have h := wpO_f h hc
    refine G_iconst (v := 0) rfl K dL_2435 ?_
    exact wpO_none h
def F_LAWc_34 (xs : Nat → Int32) (L : Nat) (x4 : Int32) (M : Mem) : Option Mem :=
  if inb (x4 + 1) L then if inb (x4 + 2) L then (F_LAW_begin (xs (x4 + 1).toNatClampNeg) (xs (x4 + 2).toNatClampNeg) M).bind fun r1 => if inb (x4 + 1) L then if inb (x4 + 2) L then (F_MO_begin (xs (x4 + 1).toNatClampNeg) (xs (x4 + 2).toNatClampNeg) r1.2).bind fun r2 => (F_MO_thrown r2.2).bind fun r3 => if r3 = r1.1 then if r1.1 = 0 then if inb ((0 : Int32)) 1 then if (r2.2.2 121 ((0 : Int32)).toNatClampNeg) = r2.1.toInt64 then some r2.2 else none else none else some r2.2 else none else none else none else none else none
set_option maxRecDepth 100000 in
set_option maxHeartbeats 8000000 in
theorem K_LAWc_34 {p : Program} {l : Launch} {e : Env} {s : State} {m : MethodId} {args : Array Value} {below : List Frame} {meth : Method} {c : Code} {g : GB} {Q : State → Prop} {b L : Nat} {xs : Nat → Int32} (K : KF p l s m args meth c g code 8 "KeptWellLaw") (htr : l.stackTraces = false) (hX : va_X b L xs s s.heap) (hbl : b < s.heap.size) (hbA : ¬ AS g s.heap.size b) (C S : Nat) (hC : C + 8 ≤ 600002) (hS : S + 48 ≤ 7302231) (x4 : Int32) (M : Mem) (PHI : Mem → Prop) (hnext : ∀ M, PHI M → GG p l e room_1 s m args below meth c g 8 Q (C + 8) (S + 48) 2782 [(0, .ref b), (1, .ref (g.2.1 0)), (2, .ref (g.2.1 94)), (3, .ref (g.2.1 121)), (4, .int x4)] [] M) (h : wpO (F_LAWc_34 xs L x4 M) PHI) : GG p l e room_1 s m args below meth c g 8 Q C S 2457 [(0, .ref b), (1, .ref (g.2.1 0)), (2, .ref (g.2.1 94)), (3, .ref (g.2.1 121)), (4, .int x4)] [] M := by
  unfold F_LAWc_34 at h
  refine G_aload_n rfl 1 rfl K dL_2457 ?_
  refine G_aload_n rfl 0 rfl K dL_2458 ?_
  refine G_iload 4 rfl K dL_2459 ?_
  refine G_iconst (v := 1) rfl K dL_2461 ?_
  refine G_iadd K dL_2462 ?_
  obtain ⟨hin, h⟩ := wpO_g h
  refine G_sld K hX hbl hbA dL_2463 hin ?_
  refine G_aload_n rfl 0 rfl K dL_2464 ?_
  refine G_iload 4 rfl K dL_2465 ?_
  refine G_iconst (v := 2) rfl K dL_2467 ?_
  refine G_iadd K dL_2468 ?_
  obtain ⟨hin, h⟩ := wpO_g h
  refine G_sld K hX hbl hbA dL_2469 hin ?_
  refine G_aload_n rfl 3 rfl K dL_2470 ?_
  obtain ⟨r1, e1, h⟩ := wpO_bind h
  refine G_callH [.ref (g.2.1 0), .int (xs (x4 + 1).toNatClampNeg), .int (xs (x4 + 2).toNatClampNeg), .ref (g.2.1 121)] [] K dL_2471 wv_1405 yd_L_begin (by decide) ⟨by show C + 0 + 4 ≤ 600002; omega, by show S + 0 + 24 ≤ 7302231; omega⟩ rfl rfl (Nat.le_of_ble_eq_true rfl) (K_LAW_begin l g htr (xs (x4 + 1).toNatClampNeg) (xs (x4 + 2).toNatClampNeg) M _ _ e1) ?_
  refine G_istore K dL_2474 (Nat.le_of_ble_eq_true rfl) rfl ?_
  refine G_aload_n rfl 3 rfl K dL_2476 ?_
  refine G_aload_n rfl 1 rfl K dL_2477 ?_
  refine G_iload 5 rfl K dL_2478 ?_
  refine G_iconst (v := 1) rfl K dL_2480 ?_
  refine G_iadd K dL_2481 ?_
  obtain ⟨hin, h⟩ := wpO_g h
  refine G_sld K hX hbl hbA dL_2482 hin ?_
  refine G_aload_n rfl 1 rfl K dL_2483 ?_
  refine G_iload 5 rfl K dL_2484 ?_
  refine G_iconst (v := 2) rfl K dL_2486 ?_
  refine G_iadd K dL_2487 ?_
  obtain ⟨hin, h⟩ := wpO_g h
  refine G_sld K hX hbl hbA dL_2488 hin ?_
  obtain ⟨r2, e2, h⟩ := wpO_bind h
  refine G_callVi (ci := 12) [.int (xs (x4 + 1).toNatClampNeg), .int (xs (x4 + 2).toNatClampNeg)] [] K dL_2489 wv_1991 yd_X12_begin (Nat.le_of_ble_eq_true rfl) (sh_94 _ _) rfl (by decide) ⟨by show C + 4 + 0 ≤ 600002; omega, by show S + 24 + 0 ≤ 7302231; omega⟩ rfl rfl (Nat.le_of_ble_eq_true rfl) (K_MO_begin l g htr (xs (x4 + 1).toNatClampNeg) (xs (x4 + 2).toNatClampNeg) r1.2 _ _ e2) ?_
  refine G_istore K dL_2492 (Nat.le_of_ble_eq_true rfl) rfl ?_
  refine G_aload_n rfl 4 rfl K dL_2494 ?_
  obtain ⟨r3, e3, h⟩ := wpO_bind h
  refine G_callVi (ci := 12) [] [] K dL_2495 wv_1470 yd_X12_thrown (Nat.le_of_ble_eq_true rfl) (sh_94 _ _) rfl (by decide) ⟨by show C + 4 + 0 ≤ 600002; omega, by show S + 24 + 0 ≤ 7302231; omega⟩ rfl rfl (Nat.le_of_ble_eq_true rfl) (K_MO_thrown l g htr  r2.2 _ e3) ?_
  refine G_iload 1 rfl K dL_2498 ?_
  refine G_icmp_eq (tgt := 2505) K dL_2500 (by decide) (fun hc => ?_) (fun hc => ?_)
  · have h := wpO_t h hc
    refine G_iload 1 rfl K dL_2505 ?_
    refine G_if_ne (tgt := 2522) K dL_2507 (by decide) (fun hc => ?_) (fun hc => ?_)
    · have h := wpO_f h hc
      refine G_goto (tgt := 2782) K dL_2522 (by decide) ?_
      exact G_wide (k := C + 8) (n := S + 48) (by show C + 4 ≤ C + 8; omega) (by show S + 24 ≤ S + 48; omega) (G_lv (lv' := [(0, .ref b), (1, .ref (g.2.1 0)), (2, .ref (g.2.1 94)), (3, .ref (g.2.1 121)), (4, .int x4)]) [2, 3, 4, 5, 6] rfl (hnext r2.2 (wpO_some h)))
    · have h := wpO_t h hc
      refine G_aload_n rfl 5 rfl K dL_2510 ?_
      refine G_iconst (v := 0) rfl K dL_2511 ?_
      obtain ⟨hin, h⟩ := wpO_g h
      refine G_lald K dL_2512 (Nat.le_of_ble_eq_true rfl) (sh_121 _ _) hin ?_
      refine G_iload 0 rfl K dL_2513 ?_
      refine G_i2l K dL_2515 ?_
      refine G_lcmp_eq (tgt := 2522) K dL_2516 dL_2517 (by decide) (fun hc => ?_) (fun hc => ?_)
      · have h := wpO_t h hc
        refine G_goto (tgt := 2782) K dL_2522 (by decide) ?_
        exact G_wide (k := C + 8) (n := S + 48) (by show C + 4 ≤ C + 8; omega) (by show S + 24 ≤ S + 48; omega) (G_lv (lv' := [(0, .ref b), (1, .ref (g.2.1 0)), (2, .ref (g.2.1 94)), (3, .ref (g.2.1 121)), (4, .int x4)]) [2, 3, 4, 5, 6] rfl (hnext r2.2 (wpO_some h)))
      · have h := wpO_f h hc
        refine G_iconst (v := 0) rfl K dL_2520 ?_
        exact wpO_none h
  · have h := wpO_f h hc
    refine G_iconst (v := 0) rfl K dL_2503 ?_
    exact wpO_none h
def F_LAWc_35 (xs : Nat → Int32) (L : Nat) (x4 : Int32) (M : Mem) : Option Mem :=
  if inb (x4 + 1) L then if inb (x4 + 2) L then (F_LAW_villager (xs (x4 + 1).toNatClampNeg) (xs (x4 + 2).toNatClampNeg) M).bind fun r1 => if inb (x4 + 1) L then if inb (x4 + 2) L then (F_MO_villager (xs (x4 + 1).toNatClampNeg) (xs (x4 + 2).toNatClampNeg) r1.2).bind fun r2 => (F_MO_thrown r2.2).bind fun r3 => if r3 = r1.1 then if r1.1 = 0 then if inb ((0 : Int32)) 1 then if (r2.2.2 121 ((0 : Int32)).toNatClampNeg) = r2.1.toInt64 then some r2.2 else none else none else some r2.2 else none else none else none else none else none
set_option maxRecDepth 100000 in
set_option maxHeartbeats 8000000 in
theorem K_LAWc_35 {p : Program} {l : Launch} {e : Env} {s : State} {m : MethodId} {args : Array Value} {below : List Frame} {meth : Method} {c : Code} {g : GB} {Q : State → Prop} {b L : Nat} {xs : Nat → Int32} (K : KF p l s m args meth c g code 8 "KeptWellLaw") (htr : l.stackTraces = false) (hX : va_X b L xs s s.heap) (hbl : b < s.heap.size) (hbA : ¬ AS g s.heap.size b) (C S : Nat) (hC : C + 8 ≤ 600002) (hS : S + 48 ≤ 7302231) (x4 : Int32) (M : Mem) (PHI : Mem → Prop) (hnext : ∀ M, PHI M → GG p l e room_1 s m args below meth c g 8 Q (C + 8) (S + 48) 2782 [(0, .ref b), (1, .ref (g.2.1 0)), (2, .ref (g.2.1 94)), (3, .ref (g.2.1 121)), (4, .int x4)] [] M) (h : wpO (F_LAWc_35 xs L x4 M) PHI) : GG p l e room_1 s m args below meth c g 8 Q C S 2525 [(0, .ref b), (1, .ref (g.2.1 0)), (2, .ref (g.2.1 94)), (3, .ref (g.2.1 121)), (4, .int x4)] [] M := by
  unfold F_LAWc_35 at h
  refine G_aload_n rfl 1 rfl K dL_2525 ?_
  refine G_aload_n rfl 0 rfl K dL_2526 ?_
  refine G_iload 4 rfl K dL_2527 ?_
  refine G_iconst (v := 1) rfl K dL_2529 ?_
  refine G_iadd K dL_2530 ?_
  obtain ⟨hin, h⟩ := wpO_g h
  refine G_sld K hX hbl hbA dL_2531 hin ?_
  refine G_aload_n rfl 0 rfl K dL_2532 ?_
  refine G_iload 4 rfl K dL_2533 ?_
  refine G_iconst (v := 2) rfl K dL_2535 ?_
  refine G_iadd K dL_2536 ?_
  obtain ⟨hin, h⟩ := wpO_g h
  refine G_sld K hX hbl hbA dL_2537 hin ?_
  refine G_aload_n rfl 3 rfl K dL_2538 ?_
  obtain ⟨r1, e1, h⟩ := wpO_bind h
  refine G_callH [.ref (g.2.1 0), .int (xs (x4 + 1).toNatClampNeg), .int (xs (x4 + 2).toNatClampNeg), .ref (g.2.1 121)] [] K dL_2539 wv_1423 yd_L_villager (by decide) ⟨by show C + 0 + 3 ≤ 600002; omega, by show S + 0 + 18 ≤ 7302231; omega⟩ rfl rfl (Nat.le_of_ble_eq_true rfl) (K_LAW_villager l g htr (xs (x4 + 1).toNatClampNeg) (xs (x4 + 2).toNatClampNeg) M _ _ e1) ?_
  refine G_istore K dL_2542 (Nat.le_of_ble_eq_true rfl) rfl ?_
  refine G_aload_n rfl 3 rfl K dL_2544 ?_
  refine G_aload_n rfl 1 rfl K dL_2545 ?_
  refine G_iload 5 rfl K dL_2546 ?_
  refine G_iconst (v := 1) rfl K dL_2548 ?_
  refine G_iadd K dL_2549 ?_
  obtain ⟨hin, h⟩ := wpO_g h
  refine G_sld K hX hbl hbA dL_2550 hin ?_
  refine G_aload_n rfl 1 rfl K dL_2551 ?_
  refine G_iload 5 rfl K dL_2552 ?_
  refine G_iconst (v := 2) rfl K dL_2554 ?_
  refine G_iadd K dL_2555 ?_
  obtain ⟨hin, h⟩ := wpO_g h
  refine G_sld K hX hbl hbA dL_2556 hin ?_
  obtain ⟨r2, e2, h⟩ := wpO_bind h
  refine G_callVi (ci := 12) [.int (xs (x4 + 1).toNatClampNeg), .int (xs (x4 + 2).toNatClampNeg)] [] K dL_2557 wv_1995 yd_X12_villager (Nat.le_of_ble_eq_true rfl) (sh_94 _ _) rfl (by decide) ⟨by show C + 3 + 0 ≤ 600002; omega, by show S + 18 + 0 ≤ 7302231; omega⟩ rfl rfl (Nat.le_of_ble_eq_true rfl) (K_MO_villager l g htr (xs (x4 + 1).toNatClampNeg) (xs (x4 + 2).toNatClampNeg) r1.2 _ _ e2) ?_
  refine G_istore K dL_2560 (Nat.le_of_ble_eq_true rfl) rfl ?_
  refine G_aload_n rfl 4 rfl K dL_2562 ?_
  obtain ⟨r3, e3, h⟩ := wpO_bind h
  refine G_callVi (ci := 12) [] [] K dL_2563 wv_1470 yd_X12_thrown (Nat.le_of_ble_eq_true rfl) (sh_94 _ _) rfl (by decide) ⟨by show C + 3 + 0 ≤ 600002; omega, by show S + 18 + 0 ≤ 7302231; omega⟩ rfl rfl (Nat.le_of_ble_eq_true rfl) (K_MO_thrown l g htr  r2.2 _ e3) ?_
  refine G_iload 1 rfl K dL_2566 ?_
  refine G_icmp_eq (tgt := 2573) K dL_2568 (by decide) (fun hc => ?_) (fun hc => ?_)
  · have h := wpO_t h hc
    refine G_iload 1 rfl K dL_2573 ?_
    refine G_if_ne (tgt := 2590) K dL_2575 (by decide) (fun hc => ?_) (fun hc => ?_)
    · have h := wpO_f h hc
      refine G_goto (tgt := 2782) K dL_2590 (by decide) ?_
      exact G_wide (k := C + 8) (n := S + 48) (by show C + 3 ≤ C + 8; omega) (by show S + 18 ≤ S + 48; omega) (G_lv (lv' := [(0, .ref b), (1, .ref (g.2.1 0)), (2, .ref (g.2.1 94)), (3, .ref (g.2.1 121)), (4, .int x4)]) [2, 3, 4, 5, 6] rfl (hnext r2.2 (wpO_some h)))
    · have h := wpO_t h hc
      refine G_aload_n rfl 5 rfl K dL_2578 ?_
      refine G_iconst (v := 0) rfl K dL_2579 ?_
      obtain ⟨hin, h⟩ := wpO_g h
      refine G_lald K dL_2580 (Nat.le_of_ble_eq_true rfl) (sh_121 _ _) hin ?_
      refine G_iload 0 rfl K dL_2581 ?_
      refine G_i2l K dL_2583 ?_
      refine G_lcmp_eq (tgt := 2590) K dL_2584 dL_2585 (by decide) (fun hc => ?_) (fun hc => ?_)
      · have h := wpO_t h hc
        refine G_goto (tgt := 2782) K dL_2590 (by decide) ?_
        exact G_wide (k := C + 8) (n := S + 48) (by show C + 3 ≤ C + 8; omega) (by show S + 18 ≤ S + 48; omega) (G_lv (lv' := [(0, .ref b), (1, .ref (g.2.1 0)), (2, .ref (g.2.1 94)), (3, .ref (g.2.1 121)), (4, .int x4)]) [2, 3, 4, 5, 6] rfl (hnext r2.2 (wpO_some h)))
      · have h := wpO_f h hc
        refine G_iconst (v := 0) rfl K dL_2588 ?_
        exact wpO_none h
  · have h := wpO_f h hc
    refine G_iconst (v := 0) rfl K dL_2571 ?_
    exact wpO_none h
def F_LAWc_36_j2641 (xs : Nat → Int32) (L : Nat) (x4 : Int32) (x5 : Int32) (s1 : Int32) (s2 : Bool) (M : Mem) : Option (Mem) :=
  (F_MO_villageEdge s1 ((b2i s2)) M).bind fun r2 => (F_MO_thrown r2.2).bind fun r3 => if r3 = x5 then if x5 = 0 then if inb ((0 : Int32)) 1 then if (r2.2.2 121 ((0 : Int32)).toNatClampNeg) = r2.1.toInt64 then some r2.2 else none else none else some r2.2 else none
def F_LAWc_36_j2614 (xs : Nat → Int32) (L : Nat) (x4 : Int32) (s1 : Int32) (s2 : Bool) (M : Mem) : Option (Mem) :=
  (F_LAW_villageEdge s1 ((b2i s2)) M).bind fun r1 => if inb (x4 + 1) L then if inb (x4 + 2) L then if (xs (x4 + 2).toNatClampNeg) = 0 then F_LAWc_36_j2641 xs L x4 r1.1 (xs (x4 + 1).toNatClampNeg) false r1.2 else F_LAWc_36_j2641 xs L x4 r1.1 (xs (x4 + 1).toNatClampNeg) true r1.2 else none else none
def F_LAWc_36 (xs : Nat → Int32) (L : Nat) (x4 : Int32) (M : Mem) : Option Mem :=
  if inb (x4 + 1) L then if inb (x4 + 2) L then if (xs (x4 + 2).toNatClampNeg) = 0 then F_LAWc_36_j2614 xs L x4 (xs (x4 + 1).toNatClampNeg) false M else F_LAWc_36_j2614 xs L x4 (xs (x4 + 1).toNatClampNeg) true M else none else none
set_option maxRecDepth 100000 in
set_option maxHeartbeats 8000000 in
theorem K_LAWc_36 {p : Program} {l : Launch} {e : Env} {s : State} {m : MethodId} {args : Array Value} {below : List Frame} {meth : Method} {c : Code} {g : GB} {Q : State → Prop} {b L : Nat} {xs : Nat → Int32} (K : KF p l s m args meth c g code 8 "KeptWellLaw") (htr : l.stackTraces = false) (hX : va_X b L xs s s.heap) (hbl : b < s.heap.size) (hbA : ¬ AS g s.heap.size b) (C S : Nat) (hC : C + 8 ≤ 600002) (hS : S + 48 ≤ 7302231) (x4 : Int32) (M : Mem) (PHI : Mem → Prop) (hnext : ∀ M, PHI M → GG p l e room_1 s m args below meth c g 8 Q (C + 8) (S + 48) 2782 [(0, .ref b), (1, .ref (g.2.1 0)), (2, .ref (g.2.1 94)), (3, .ref (g.2.1 121)), (4, .int x4)] [] M) (h : wpO (F_LAWc_36 xs L x4 M) PHI) : GG p l e room_1 s m args below meth c g 8 Q C S 2593 [(0, .ref b), (1, .ref (g.2.1 0)), (2, .ref (g.2.1 94)), (3, .ref (g.2.1 121)), (4, .int x4)] [] M := by
  have J2641 : ∀ (x5 : Int32) (s1 : Int32) (s2 : Bool) (M : Mem), wpO (F_LAWc_36_j2641 xs L x4 x5 s1 s2 M) PHI → GG p l e room_1 s m args below meth c g 8 Q (C + 1) (S + 6) 2641 [(0, .ref b), (1, .ref (g.2.1 0)), (2, .ref (g.2.1 94)), (3, .ref (g.2.1 121)), (4, .int x4), (5, .int x5)] [.int ((b2i s2)), .int s1, .ref (g.2.1 94)] M := by
    intro x5 s1 s2 M h
    unfold F_LAWc_36_j2641 at h
    obtain ⟨r2, e2, h⟩ := wpO_bind h
    refine G_callVi (ci := 12) [.int s1, .int ((b2i s2))] [] K dL_2641 wv_1999 yd_X12_villageEdge (Nat.le_of_ble_eq_true rfl) (sh_94 _ _) rfl (by decide) ⟨by show C + 1 + 0 ≤ 600002; omega, by show S + 6 + 0 ≤ 7302231; omega⟩ rfl rfl (Nat.le_of_ble_eq_true rfl) (K_MO_villageEdge l g htr s1 ((b2i s2)) M _ _ e2) ?_
    refine G_istore K dL_2644 (Nat.le_of_ble_eq_true rfl) rfl ?_
    refine G_aload_n rfl 3 rfl K dL_2646 ?_
    obtain ⟨r3, e3, h⟩ := wpO_bind h
    refine G_callVi (ci := 12) [] [] K dL_2647 wv_1470 yd_X12_thrown (Nat.le_of_ble_eq_true rfl) (sh_94 _ _) rfl (by decide) ⟨by show C + 1 + 0 ≤ 600002; omega, by show S + 6 + 0 ≤ 7302231; omega⟩ rfl rfl (Nat.le_of_ble_eq_true rfl) (K_MO_thrown l g htr  r2.2 _ e3) ?_
    refine G_iload 6 rfl K dL_2650 ?_
    refine G_icmp_eq (tgt := 2657) K dL_2652 (by decide) (fun hc => ?_) (fun hc => ?_)
    · have h := wpO_t h hc
      refine G_iload 6 rfl K dL_2657 ?_
      refine G_if_ne (tgt := 2674) K dL_2659 (by decide) (fun hc => ?_) (fun hc => ?_)
      · have h := wpO_f h hc
        refine G_goto (tgt := 2782) K dL_2674 (by decide) ?_
        exact G_wide (k := C + 8) (n := S + 48) (by show C + 1 ≤ C + 8; omega) (by show S + 6 ≤ S + 48; omega) (G_lv (lv' := [(0, .ref b), (1, .ref (g.2.1 0)), (2, .ref (g.2.1 94)), (3, .ref (g.2.1 121)), (4, .int x4)]) [1, 2, 3, 4, 5] rfl (hnext r2.2 (wpO_some h)))
      · have h := wpO_t h hc
        refine G_aload_n rfl 4 rfl K dL_2662 ?_
        refine G_iconst (v := 0) rfl K dL_2663 ?_
        obtain ⟨hin, h⟩ := wpO_g h
        refine G_lald K dL_2664 (Nat.le_of_ble_eq_true rfl) (sh_121 _ _) hin ?_
        refine G_iload 0 rfl K dL_2665 ?_
        refine G_i2l K dL_2667 ?_
        refine G_lcmp_eq (tgt := 2674) K dL_2668 dL_2669 (by decide) (fun hc => ?_) (fun hc => ?_)
        · have h := wpO_t h hc
          refine G_goto (tgt := 2782) K dL_2674 (by decide) ?_
          exact G_wide (k := C + 8) (n := S + 48) (by show C + 1 ≤ C + 8; omega) (by show S + 6 ≤ S + 48; omega) (G_lv (lv' := [(0, .ref b), (1, .ref (g.2.1 0)), (2, .ref (g.2.1 94)), (3, .ref (g.2.1 121)), (4, .int x4)]) [1, 2, 3, 4, 5] rfl (hnext r2.2 (wpO_some h)))
        · have h := wpO_f h hc
          refine G_iconst (v := 0) rfl K dL_2672 ?_
          exact wpO_none h
    · have h := wpO_f h hc
      refine G_iconst (v := 0) rfl K dL_2655 ?_
      exact wpO_none h
  have J2614 : ∀ (s1 : Int32) (s2 : Bool) (M : Mem), wpO (F_LAWc_36_j2614 xs L x4 s1 s2 M) PHI → GG p l e room_1 s m args below meth c g 8 Q (C + 0) (S + 0) 2614 [(0, .ref b), (1, .ref (g.2.1 0)), (2, .ref (g.2.1 94)), (3, .ref (g.2.1 121)), (4, .int x4)] [.int ((b2i s2)), .int s1, .ref (g.2.1 0)] M := by
    intro s1 s2 M h
    unfold F_LAWc_36_j2614 at h
    refine G_aload_n rfl 3 rfl K dL_2614 ?_
    obtain ⟨r1, e1, h⟩ := wpO_bind h
    refine G_callH [.ref (g.2.1 0), .int s1, .int ((b2i s2)), .ref (g.2.1 121)] [] K dL_2615 wv_1430 yd_L_villageEdge (by decide) ⟨by show C + 0 + 1 ≤ 600002; omega, by show S + 0 + 6 ≤ 7302231; omega⟩ rfl rfl (Nat.le_of_ble_eq_true rfl) (K_LAW_villageEdge l g htr s1 ((b2i s2)) M _ _ e1) ?_
    refine G_istore K dL_2618 (Nat.le_of_ble_eq_true rfl) rfl ?_
    refine G_aload_n rfl 3 rfl K dL_2620 ?_
    refine G_aload_n rfl 1 rfl K dL_2621 ?_
    refine G_iload 5 rfl K dL_2622 ?_
    refine G_iconst (v := 1) rfl K dL_2624 ?_
    refine G_iadd K dL_2625 ?_
    obtain ⟨hin, h⟩ := wpO_g h
    refine G_sld K hX hbl hbA dL_2626 hin ?_
    refine G_aload_n rfl 1 rfl K dL_2627 ?_
    refine G_iload 5 rfl K dL_2628 ?_
    refine G_iconst (v := 2) rfl K dL_2630 ?_
    refine G_iadd K dL_2631 ?_
    obtain ⟨hin, h⟩ := wpO_g h
    refine G_sld K hX hbl hbA dL_2632 hin ?_
    refine G_if_eq (tgt := 2640) K dL_2633 (by decide) (fun hc => ?_) (fun hc => ?_)
    · have h := wpO_t h hc
      refine G_iconst (v := 0) rfl K dL_2640 ?_
      exact G_lv (lv' := [(0, .ref b), (1, .ref (g.2.1 0)), (2, .ref (g.2.1 94)), (3, .ref (g.2.1 121)), (4, .int x4), (5, .int r1.1)]) [1, 2, 3, 4, 5, 0] rfl (J2641 r1.1 (xs (x4 + 1).toNatClampNeg) false r1.2 h)
    · have h := wpO_f h hc
      refine G_iconst (v := 1) rfl K dL_2636 ?_
      refine G_goto (tgt := 2641) K dL_2637 (by decide) ?_
      exact G_lv (lv' := [(0, .ref b), (1, .ref (g.2.1 0)), (2, .ref (g.2.1 94)), (3, .ref (g.2.1 121)), (4, .int x4), (5, .int r1.1)]) [1, 2, 3, 4, 5, 0] rfl (J2641 r1.1 (xs (x4 + 1).toNatClampNeg) true r1.2 h)
  unfold F_LAWc_36 at h
  refine G_aload_n rfl 1 rfl K dL_2593 ?_
  refine G_aload_n rfl 0 rfl K dL_2594 ?_
  refine G_iload 4 rfl K dL_2595 ?_
  refine G_iconst (v := 1) rfl K dL_2597 ?_
  refine G_iadd K dL_2598 ?_
  obtain ⟨hin, h⟩ := wpO_g h
  refine G_sld K hX hbl hbA dL_2599 hin ?_
  refine G_aload_n rfl 0 rfl K dL_2600 ?_
  refine G_iload 4 rfl K dL_2601 ?_
  refine G_iconst (v := 2) rfl K dL_2603 ?_
  refine G_iadd K dL_2604 ?_
  obtain ⟨hin, h⟩ := wpO_g h
  refine G_sld K hX hbl hbA dL_2605 hin ?_
  refine G_if_eq (tgt := 2613) K dL_2606 (by decide) (fun hc => ?_) (fun hc => ?_)
  · have h := wpO_t h hc
    refine G_iconst (v := 0) rfl K dL_2613 ?_
    exact J2614 (xs (x4 + 1).toNatClampNeg) false M h
  · have h := wpO_f h hc
    refine G_iconst (v := 1) rfl K dL_2609 ?_
    refine G_goto (tgt := 2614) K dL_2610 (by decide) ?_
    exact J2614 (xs (x4 + 1).toNatClampNeg) true M h
def F_LAWc_37 (xs : Nat → Int32) (L : Nat) (x4 : Int32) (M : Mem) : Option Mem :=
  if inb (x4 + 1) L then (F_LAW_village (xs (x4 + 1).toNatClampNeg) M).bind fun r1 => if inb (x4 + 1) L then (F_MO_village (xs (x4 + 1).toNatClampNeg) r1.2).bind fun r2 => (F_MO_thrown r2.2).bind fun r3 => if r3 = r1.1 then if r1.1 = 0 then if inb ((0 : Int32)) 1 then if (r2.2.2 121 ((0 : Int32)).toNatClampNeg) = r2.1.toInt64 then some r2.2 else none else none else some r2.2 else none else none else none
set_option maxRecDepth 100000 in
set_option maxHeartbeats 8000000 in
theorem K_LAWc_37 {p : Program} {l : Launch} {e : Env} {s : State} {m : MethodId} {args : Array Value} {below : List Frame} {meth : Method} {c : Code} {g : GB} {Q : State → Prop} {b L : Nat} {xs : Nat → Int32} (K : KF p l s m args meth c g code 8 "KeptWellLaw") (htr : l.stackTraces = false) (hX : va_X b L xs s s.heap) (hbl : b < s.heap.size) (hbA : ¬ AS g s.heap.size b) (C S : Nat) (hC : C + 8 ≤ 600002) (hS : S + 48 ≤ 7302231) (x4 : Int32) (M : Mem) (PHI : Mem → Prop) (hnext : ∀ M, PHI M → GG p l e room_1 s m args below meth c g 8 Q (C + 8) (S + 48) 2782 [(0, .ref b), (1, .ref (g.2.1 0)), (2, .ref (g.2.1 94)), (3, .ref (g.2.1 121)), (4, .int x4)] [] M) (h : wpO (F_LAWc_37 xs L x4 M) PHI) : GG p l e room_1 s m args below meth c g 8 Q C S 2677 [(0, .ref b), (1, .ref (g.2.1 0)), (2, .ref (g.2.1 94)), (3, .ref (g.2.1 121)), (4, .int x4)] [] M := by
  unfold F_LAWc_37 at h
  refine G_aload_n rfl 1 rfl K dL_2677 ?_
  refine G_aload_n rfl 0 rfl K dL_2678 ?_
  refine G_iload 4 rfl K dL_2679 ?_
  refine G_iconst (v := 1) rfl K dL_2681 ?_
  refine G_iadd K dL_2682 ?_
  obtain ⟨hin, h⟩ := wpO_g h
  refine G_sld K hX hbl hbA dL_2683 hin ?_
  refine G_aload_n rfl 3 rfl K dL_2684 ?_
  obtain ⟨r1, e1, h⟩ := wpO_bind h
  refine G_callH [.ref (g.2.1 0), .int (xs (x4 + 1).toNatClampNeg), .ref (g.2.1 121)] [] K dL_2685 wv_1443 yd_L_village (by decide) ⟨by show C + 0 + 1 ≤ 600002; omega, by show S + 0 + 6 ≤ 7302231; omega⟩ rfl rfl (Nat.le_of_ble_eq_true rfl) (K_LAW_village l g htr (xs (x4 + 1).toNatClampNeg) M _ _ e1) ?_
  refine G_istore K dL_2688 (Nat.le_of_ble_eq_true rfl) rfl ?_
  refine G_aload_n rfl 3 rfl K dL_2690 ?_
  refine G_aload_n rfl 1 rfl K dL_2691 ?_
  refine G_iload 5 rfl K dL_2692 ?_
  refine G_iconst (v := 1) rfl K dL_2694 ?_
  refine G_iadd K dL_2695 ?_
  obtain ⟨hin, h⟩ := wpO_g h
  refine G_sld K hX hbl hbA dL_2696 hin ?_
  obtain ⟨r2, e2, h⟩ := wpO_bind h
  refine G_callVi (ci := 12) [.int (xs (x4 + 1).toNatClampNeg)] [] K dL_2697 wv_2007 yd_X12_village (Nat.le_of_ble_eq_true rfl) (sh_94 _ _) rfl (by decide) ⟨by show C + 1 + 0 ≤ 600002; omega, by show S + 6 + 0 ≤ 7302231; omega⟩ rfl rfl (Nat.le_of_ble_eq_true rfl) (K_MO_village l g htr (xs (x4 + 1).toNatClampNeg) r1.2 _ _ e2) ?_
  refine G_istore K dL_2700 (Nat.le_of_ble_eq_true rfl) rfl ?_
  refine G_aload_n rfl 4 rfl K dL_2702 ?_
  obtain ⟨r3, e3, h⟩ := wpO_bind h
  refine G_callVi (ci := 12) [] [] K dL_2703 wv_1470 yd_X12_thrown (Nat.le_of_ble_eq_true rfl) (sh_94 _ _) rfl (by decide) ⟨by show C + 1 + 0 ≤ 600002; omega, by show S + 6 + 0 ≤ 7302231; omega⟩ rfl rfl (Nat.le_of_ble_eq_true rfl) (K_MO_thrown l g htr  r2.2 _ e3) ?_
  refine G_iload 1 rfl K dL_2706 ?_
  refine G_icmp_eq (tgt := 2713) K dL_2708 (by decide) (fun hc => ?_) (fun hc => ?_)
  · have h := wpO_t h hc
    refine G_iload 1 rfl K dL_2713 ?_
    refine G_if_ne (tgt := 2730) K dL_2715 (by decide) (fun hc => ?_) (fun hc => ?_)
    · have h := wpO_f h hc
      refine G_goto (tgt := 2782) K dL_2730 (by decide) ?_
      exact G_wide (k := C + 8) (n := S + 48) (by show C + 1 ≤ C + 8; omega) (by show S + 6 ≤ S + 48; omega) (G_lv (lv' := [(0, .ref b), (1, .ref (g.2.1 0)), (2, .ref (g.2.1 94)), (3, .ref (g.2.1 121)), (4, .int x4)]) [2, 3, 4, 5, 6] rfl (hnext r2.2 (wpO_some h)))
    · have h := wpO_t h hc
      refine G_aload_n rfl 5 rfl K dL_2718 ?_
      refine G_iconst (v := 0) rfl K dL_2719 ?_
      obtain ⟨hin, h⟩ := wpO_g h
      refine G_lald K dL_2720 (Nat.le_of_ble_eq_true rfl) (sh_121 _ _) hin ?_
      refine G_iload 0 rfl K dL_2721 ?_
      refine G_i2l K dL_2723 ?_
      refine G_lcmp_eq (tgt := 2730) K dL_2724 dL_2725 (by decide) (fun hc => ?_) (fun hc => ?_)
      · have h := wpO_t h hc
        refine G_goto (tgt := 2782) K dL_2730 (by decide) ?_
        exact G_wide (k := C + 8) (n := S + 48) (by show C + 1 ≤ C + 8; omega) (by show S + 6 ≤ S + 48; omega) (G_lv (lv' := [(0, .ref b), (1, .ref (g.2.1 0)), (2, .ref (g.2.1 94)), (3, .ref (g.2.1 121)), (4, .int x4)]) [2, 3, 4, 5, 6] rfl (hnext r2.2 (wpO_some h)))
      · have h := wpO_f h hc
        refine G_iconst (v := 0) rfl K dL_2728 ?_
        exact wpO_none h
  · have h := wpO_f h hc
    refine G_iconst (v := 0) rfl K dL_2711 ?_
    exact wpO_none h
def F_LAWc_38 (xs : Nat → Int32) (L : Nat) (x4 : Int32) (M : Mem) : Option Mem :=
  (F_KW_image M).bind fun r1 => (F_MO_image r1).bind fun r2 => some r2
set_option maxRecDepth 100000 in
set_option maxHeartbeats 8000000 in
theorem K_LAWc_38 {p : Program} {l : Launch} {e : Env} {s : State} {m : MethodId} {args : Array Value} {below : List Frame} {meth : Method} {c : Code} {g : GB} {Q : State → Prop} {b L : Nat} {xs : Nat → Int32} (K : KF p l s m args meth c g code 8 "KeptWellLaw") (htr : l.stackTraces = false) (hX : va_X b L xs s s.heap) (hbl : b < s.heap.size) (hbA : ¬ AS g s.heap.size b) (C S : Nat) (hC : C + 8 ≤ 600002) (hS : S + 48 ≤ 7302231) (x4 : Int32) (M : Mem) (PHI : Mem → Prop) (hnext : ∀ M, PHI M → GG p l e room_1 s m args below meth c g 8 Q (C + 8) (S + 48) 2782 [(0, .ref b), (1, .ref (g.2.1 0)), (2, .ref (g.2.1 94)), (3, .ref (g.2.1 121)), (4, .int x4)] [] M) (h : wpO (F_LAWc_38 xs L x4 M) PHI) : GG p l e room_1 s m args below meth c g 8 Q C S 2733 [(0, .ref b), (1, .ref (g.2.1 0)), (2, .ref (g.2.1 94)), (3, .ref (g.2.1 121)), (4, .int x4)] [] M := by
  unfold F_LAWc_38 at h
  refine G_aload_n rfl 1 rfl K dL_2733 ?_
  obtain ⟨r1, e1, h⟩ := wpO_bind h
  refine G_callVv (ci := 11) [] [] K dL_2734 wv_616 yd_X11_image (Nat.le_of_ble_eq_true rfl) (sh_0 _ _) rfl (by decide) ⟨by show C + 0 + 0 ≤ 600002; omega, by show S + 0 + 0 ≤ 7302231; omega⟩ rfl rfl (Nat.le_of_ble_eq_true rfl) (K_KW_image l g htr  M _ e1) ?_
  refine G_aload_n rfl 2 rfl K dL_2737 ?_
  obtain ⟨r2, e2, h⟩ := wpO_bind h
  refine G_callVv (ci := 12) [] [] K dL_2738 wv_1605 yd_X12_image (Nat.le_of_ble_eq_true rfl) (sh_94 _ _) rfl (by decide) ⟨by show C + 0 + 0 ≤ 600002; omega, by show S + 0 + 0 ≤ 7302231; omega⟩ rfl rfl (Nat.le_of_ble_eq_true rfl) (K_MO_image l g htr  r1 _ e2) ?_
  refine G_goto (tgt := 2782) K dL_2741 (by decide) ?_
  exact G_wide (k := C + 8) (n := S + 48) (by show C + 0 ≤ C + 8; omega) (by show S + 0 ≤ S + 48; omega) (hnext r2 (wpO_some h))
def F_LAWc_39 (xs : Nat → Int32) (L : Nat) (x4 : Int32) (M : Mem) : Option Mem :=
  (F_KW_back M).bind fun r1 => (F_MO_back r1.2).bind fun r2 => if ((b2i r1.1)) = ((b2i r2.1)) then some r2.2 else none
set_option maxRecDepth 100000 in
set_option maxHeartbeats 8000000 in
theorem K_LAWc_39 {p : Program} {l : Launch} {e : Env} {s : State} {m : MethodId} {args : Array Value} {below : List Frame} {meth : Method} {c : Code} {g : GB} {Q : State → Prop} {b L : Nat} {xs : Nat → Int32} (K : KF p l s m args meth c g code 8 "KeptWellLaw") (htr : l.stackTraces = false) (hX : va_X b L xs s s.heap) (hbl : b < s.heap.size) (hbA : ¬ AS g s.heap.size b) (C S : Nat) (hC : C + 8 ≤ 600002) (hS : S + 48 ≤ 7302231) (x4 : Int32) (M : Mem) (PHI : Mem → Prop) (hnext : ∀ M, PHI M → GG p l e room_1 s m args below meth c g 8 Q (C + 8) (S + 48) 2782 [(0, .ref b), (1, .ref (g.2.1 0)), (2, .ref (g.2.1 94)), (3, .ref (g.2.1 121)), (4, .int x4)] [] M) (h : wpO (F_LAWc_39 xs L x4 M) PHI) : GG p l e room_1 s m args below meth c g 8 Q C S 2744 [(0, .ref b), (1, .ref (g.2.1 0)), (2, .ref (g.2.1 94)), (3, .ref (g.2.1 121)), (4, .int x4)] [] M := by
  unfold F_LAWc_39 at h
  refine G_aload_n rfl 1 rfl K dL_2744 ?_
  obtain ⟨r1, e1, h⟩ := wpO_bind h
  refine G_callVi (ci := 11) [] [] K dL_2745 wv_629 yd_X11_back (Nat.le_of_ble_eq_true rfl) (sh_0 _ _) rfl (by decide) ⟨by show C + 0 + 0 ≤ 600002; omega, by show S + 0 + 0 ≤ 7302231; omega⟩ rfl rfl (Nat.le_of_ble_eq_true rfl) (K_KW_back l g htr  M _ _ e1) ?_
  refine G_aload_n rfl 2 rfl K dL_2748 ?_
  obtain ⟨r2, e2, h⟩ := wpO_bind h
  refine G_callVi (ci := 12) [] [.int ((b2i r1.1))] K dL_2749 wv_1609 yd_X12_back (Nat.le_of_ble_eq_true rfl) (sh_94 _ _) rfl (by decide) ⟨by show C + 0 + 0 ≤ 600002; omega, by show S + 0 + 0 ≤ 7302231; omega⟩ rfl rfl (Nat.le_of_ble_eq_true rfl) (K_MO_back l g htr  r1.2 _ _ e2) ?_
  refine G_icmp_eq (tgt := 2782) K dL_2752 (by decide) (fun hc => ?_) (fun hc => ?_)
  · have h := wpO_t h hc
    exact G_wide (k := C + 8) (n := S + 48) (by show C + 0 ≤ C + 8; omega) (by show S + 0 ≤ S + 48; omega) (hnext r2.2 (wpO_some h))
  · have h := wpO_f h hc
    refine G_iconst (v := 0) rfl K dL_2755 ?_
    exact wpO_none h
def F_LAWc_40 (xs : Nat → Int32) (L : Nat) (x4 : Int32) (M : Mem) : Option Mem :=
  if inb (x4 + 1) L then (F_KW_count (xs (x4 + 1).toNatClampNeg) M).bind fun r1 => if inb (x4 + 1) L then (F_MO_count (xs (x4 + 1).toNatClampNeg) r1.2).bind fun r2 => if r1.1 = r2.1 then some r2.2 else none else none else none
set_option maxRecDepth 100000 in
set_option maxHeartbeats 8000000 in
theorem K_LAWc_40 {p : Program} {l : Launch} {e : Env} {s : State} {m : MethodId} {args : Array Value} {below : List Frame} {meth : Method} {c : Code} {g : GB} {Q : State → Prop} {b L : Nat} {xs : Nat → Int32} (K : KF p l s m args meth c g code 8 "KeptWellLaw") (htr : l.stackTraces = false) (hX : va_X b L xs s s.heap) (hbl : b < s.heap.size) (hbA : ¬ AS g s.heap.size b) (C S : Nat) (hC : C + 8 ≤ 600002) (hS : S + 48 ≤ 7302231) (x4 : Int32) (M : Mem) (PHI : Mem → Prop) (hnext : ∀ M, PHI M → GG p l e room_1 s m args below meth c g 8 Q (C + 8) (S + 48) 2782 [(0, .ref b), (1, .ref (g.2.1 0)), (2, .ref (g.2.1 94)), (3, .ref (g.2.1 121)), (4, .int x4)] [] M) (h : wpO (F_LAWc_40 xs L x4 M) PHI) : GG p l e room_1 s m args below meth c g 8 Q C S 2757 [(0, .ref b), (1, .ref (g.2.1 0)), (2, .ref (g.2.1 94)), (3, .ref (g.2.1 121)), (4, .int x4)] [] M := by
  unfold F_LAWc_40 at h
  refine G_aload_n rfl 1 rfl K dL_2757 ?_
  refine G_aload_n rfl 0 rfl K dL_2758 ?_
  refine G_iload 4 rfl K dL_2759 ?_
  refine G_iconst (v := 1) rfl K dL_2761 ?_
  refine G_iadd K dL_2762 ?_
  obtain ⟨hin, h⟩ := wpO_g h
  refine G_sld K hX hbl hbA dL_2763 hin ?_
  obtain ⟨r1, e1, h⟩ := wpO_bind h
  refine G_callVi (ci := 11) [.int (xs (x4 + 1).toNatClampNeg)] [] K dL_2764 wv_633 yd_X11_count (Nat.le_of_ble_eq_true rfl) (sh_0 _ _) rfl (by decide) ⟨by show C + 0 + 0 ≤ 600002; omega, by show S + 0 + 0 ≤ 7302231; omega⟩ rfl rfl (Nat.le_of_ble_eq_true rfl) (K_KW_count l g htr (xs (x4 + 1).toNatClampNeg) M _ _ e1) ?_
  refine G_aload_n rfl 2 rfl K dL_2767 ?_
  refine G_aload_n rfl 0 rfl K dL_2768 ?_
  refine G_iload 4 rfl K dL_2769 ?_
  refine G_iconst (v := 1) rfl K dL_2771 ?_
  refine G_iadd K dL_2772 ?_
  obtain ⟨hin, h⟩ := wpO_g h
  refine G_sld K hX hbl hbA dL_2773 hin ?_
  obtain ⟨r2, e2, h⟩ := wpO_bind h
  refine G_callVi (ci := 12) [.int (xs (x4 + 1).toNatClampNeg)] [.int r1.1] K dL_2774 wv_2019 yd_X12_count (Nat.le_of_ble_eq_true rfl) (sh_94 _ _) rfl (by decide) ⟨by show C + 0 + 0 ≤ 600002; omega, by show S + 0 + 0 ≤ 7302231; omega⟩ rfl rfl (Nat.le_of_ble_eq_true rfl) (K_MO_count l g htr (xs (x4 + 1).toNatClampNeg) r1.2 _ _ e2) ?_
  refine G_icmp_eq (tgt := 2782) K dL_2777 (by decide) (fun hc => ?_) (fun hc => ?_)
  · have h := wpO_t h hc
    exact G_wide (k := C + 8) (n := S + 48) (by show C + 0 ≤ C + 8; omega) (by show S + 0 ≤ S + 48; omega) (hnext r2.2 (wpO_some h))
  · have h := wpO_f h hc
    refine G_iconst (v := 0) rfl K dL_2780 ?_
    exact wpO_none h
