section GLAW
variable {p : Program} {l : Launch} {e : Env} {R : Room} {s : State} {m : MethodId} {args : Array Value} {below : List Frame} {meth : Method} {c : Code} {g : GB} {nL : Nat} {Q : State → Prop} {cells slots : Nat}
variable {cc : ByteArray} {own : String} {pc pc' : Nat} {lv : List (Nat × Value)} {M : Mem} {rest : List Value}
theorem G_sld {b L : Nat} {xs : Nat → Int32} {i : Int32} (K : KF p l s m args meth c g cc nL own) (hX : va_X b L xs s s.heap) (hbl : b < s.heap.size) (hbA : ¬ AS g s.heap.size b) (d : dc cc pc pc' .iaload 1) (hin : vp_in i L) (k : GG p l e R s m args below meth c g nL Q cells slots pc' lv (.int (xs i.toNatClampNeg) :: rest) M) : GG p l e R s m args below meth c g nL Q cells slots pc lv (.int i :: .ref b :: rest) M := by
  obtain ⟨d, rfl⟩ := d
  exact fun H locs ls hP hS hl => va_sld K.1.1 K.1.2.1 hX hbl hbA hS hin d (k H locs ls hP hS hl)
theorem G_slen {b L : Nat} {xs : Nat → Int32} (K : KF p l s m args meth c g cc nL own) (hX : va_X b L xs s s.heap) (hbl : b < s.heap.size) (hbA : ¬ AS g s.heap.size b) (d : dc cc pc pc' .arraylength 1) (k : GG p l e R s m args below meth c g nL Q cells slots pc' lv (.int (nI L) :: rest) M) : GG p l e R s m args below meth c g nL Q cells slots pc lv (.ref b :: rest) M := by
  obtain ⟨d, rfl⟩ := d
  exact fun H locs ls hP hS hl => va_slen K.1.1 K.1.2.1 hX hbl hbA hS d (k H locs ls hP hS hl)
end GLAW
theorem yd_X12_feed : ydN yX12_feed 5 := ⟨by decide, by decide, by decide +kernel⟩
theorem yd_X11_feed : ydN yX11_feed 5 := ⟨by decide, by decide, by decide +kernel⟩
theorem wv_439 : wdV "KeptWellLaw" 136 yX11_feed cX11_feed 6 (some .int) := ⟨wd_439, wd_440, wd_441, wd_1, wd_442⟩
theorem wv_1635 : wdV "KeptWellLaw" 139 yX12_feed cX12_feed 7 (some .int) := ⟨wd_1635, wd_1636, wd_1637, wd_14, wd_1638⟩
theorem yd_X11_end : ydN yX11_end 1 := ⟨by decide, by decide, by decide +kernel⟩
theorem yd_X12_end : ydN yX12_end 1 := ⟨by decide, by decide, by decide +kernel⟩
theorem wv_455 : wdV "KeptWellLaw" 140 yX11_end cX11_end 2 (some .boolean) := ⟨wd_455, wd_456, wd_457, wd_1, wd_458⟩
theorem wv_1639 : wdV "KeptWellLaw" 143 yX12_end cX12_end 2 (some .boolean) := ⟨wd_1639, wd_1640, wd_1641, wd_14, wd_1642⟩
theorem yd_X12_thrown : ydN yX12_thrown 0 := ⟨by decide, by decide, by decide +kernel⟩
theorem yd_X12_acts : ydN yX12_acts 1 := ⟨by decide, by decide, by decide +kernel⟩
theorem yd_L_acts : ydN yL_acts 2 := ⟨by decide, by decide, by decide +kernel⟩
theorem wv_646 : wdH "KeptWellLaw" 144 yL_acts cL_acts 3 (some .int) [(0, 5, 8, 13)] := ⟨wd_646, wd_647, wd_0, wd_648⟩
theorem wv_1608 : wdV "KeptWellLaw" 149 yX12_acts cX12_acts 2 none := ⟨wd_1608, wd_1609, wd_1610, wd_14, wd_1611⟩
theorem wv_1465 : wdV "KeptWellLaw" 150 yX12_thrown cX12_thrown 1 (some .int) := ⟨wd_1465, wd_1466, wd_1467, wd_14, wd_1468⟩
theorem yd_L_bring : ydN yL_bring 5 := ⟨by decide, by decide, by decide +kernel⟩
theorem yd_X12_bring : ydN yX12_bring 4 := ⟨by decide, by decide, by decide +kernel⟩
theorem wv_723 : wdH "KeptWellLaw" 153 yL_bring cL_bring 6 (some .int) [(0, 9, 12, 19), (0, 9, 16, 13)] := ⟨wd_723, wd_724, wd_0, wd_725⟩
theorem wv_1619 : wdV "KeptWellLaw" 156 yX12_bring cX12_bring 5 none := ⟨wd_1619, wd_1620, wd_1621, wd_14, wd_1622⟩
theorem yd_L_tomorrow : ydN yL_tomorrow 3 := ⟨by decide, by decide, by decide +kernel⟩
theorem yd_X12_tomorrow : ydN yX12_tomorrow 2 := ⟨by decide, by decide, by decide +kernel⟩
theorem wv_755 : wdH "KeptWellLaw" 157 yL_tomorrow cL_tomorrow 4 (some .int) [(0, 6, 9, 13)] := ⟨wd_755, wd_756, wd_0, wd_757⟩
theorem wv_1631 : wdV "KeptWellLaw" 160 yX12_tomorrow cX12_tomorrow 3 none := ⟨wd_1631, wd_1632, wd_1633, wd_14, wd_1634⟩
theorem yd_L_way : ydN yL_way 2 := ⟨by decide, by decide, by decide +kernel⟩
theorem yd_X12_way : ydN yX12_way 0 := ⟨by decide, by decide, by decide +kernel⟩
theorem wv_762 : wdH "KeptWellLaw" 161 yL_way cL_way 3 (some .int) [(0, 8, 11, 13), (0, 8, 14, 29)] := ⟨wd_762, wd_763, wd_0, wd_764⟩
theorem wv_1647 : wdV "KeptWellLaw" 164 yX12_way cX12_way 4 (some .int) := ⟨wd_1647, wd_1648, wd_1649, wd_14, wd_1650⟩
theorem yd_X12_fault : ydN yX12_fault 0 := ⟨by decide, by decide, by decide +kernel⟩
theorem yd_X11_fault : ydN yX11_fault 0 := ⟨by decide, by decide, by decide +kernel⟩
theorem wv_459 : wdV "KeptWellLaw" 165 yX11_fault cX11_fault 1 (some .int) := ⟨wd_459, wd_460, wd_461, wd_1, wd_462⟩
theorem wv_1643 : wdV "KeptWellLaw" 168 yX12_fault cX12_fault 1 (some .int) := ⟨wd_1643, wd_1644, wd_1645, wd_14, wd_1646⟩
theorem yd_L_mood : ydN yL_mood 5 := ⟨by decide, by decide, by decide +kernel⟩
theorem yd_X12_mood : ydN yX12_mood 3 := ⟨by decide, by decide, by decide +kernel⟩
theorem wv_890 : wdH "KeptWellLaw" 169 yL_mood cL_mood 6 (some .int) [(0, 12, 15, 19), (0, 12, 19, 35)] := ⟨wd_890, wd_891, wd_0, wd_892⟩
theorem wv_1700 : wdV "KeptWellLaw" 172 yX12_mood cX12_mood 4 (some .int) := ⟨wd_1700, wd_1701, wd_1702, wd_14, wd_1703⟩
theorem yd_L_worth : ydN yL_worth 8 := ⟨by decide, by decide, by decide +kernel⟩
theorem yd_X12_worth : ydN yX12_worth 6 := ⟨by decide, by decide, by decide +kernel⟩
theorem wv_929 : wdH "KeptWellLaw" 173 yL_worth cL_worth 9 (some .int) [(0, 17, 20, 19), (0, 17, 24, 41)] := ⟨wd_929, wd_930, wd_0, wd_931⟩
theorem wv_1728 : wdV "KeptWellLaw" 176 yX12_worth cX12_worth 8 (some .long) := ⟨wd_1728, wd_1729, wd_1730, wd_14, wd_1731⟩
theorem yd_L_hold : ydN yL_hold 4 := ⟨by decide, by decide, by decide +kernel⟩
theorem yd_X12_hold : ydN yX12_hold 2 := ⟨by decide, by decide, by decide +kernel⟩
theorem wv_983 : wdH "KeptWellLaw" 177 yL_hold cL_hold 5 (some .int) [(0, 17, 20, 19), (0, 17, 24, 41)] := ⟨wd_983, wd_984, wd_0, wd_985⟩
theorem wv_1776 : wdV "KeptWellLaw" 180 yX12_hold cX12_hold 3 (some .boolean) := ⟨wd_1776, wd_1777, wd_1778, wd_14, wd_1779⟩
theorem yd_X12_first : ydN yX12_first 2 := ⟨by decide, by decide, by decide +kernel⟩
theorem yd_L_first : ydN yL_first 4 := ⟨by decide, by decide, by decide +kernel⟩
theorem wv_995 : wdH "KeptWellLaw" 181 yL_first cL_first 5 (some .int) [(0, 10, 13, 19), (0, 10, 17, 41)] := ⟨wd_995, wd_996, wd_0, wd_997⟩
theorem wv_1792 : wdV "KeptWellLaw" 183 yX12_first cX12_first 3 (some .int) := ⟨wd_1792, wd_1793, wd_1794, wd_14, wd_1795⟩
theorem yd_X12_best : ydN yX12_best 3 := ⟨by decide, by decide, by decide +kernel⟩
theorem yd_L_best : ydN yL_best 5 := ⟨by decide, by decide, by decide +kernel⟩
theorem wv_1002 : wdH "KeptWellLaw" 184 yL_best cL_best 6 (some .int) [(0, 12, 15, 19), (0, 12, 19, 41)] := ⟨wd_1002, wd_1003, wd_0, wd_1004⟩
theorem wv_1796 : wdV "KeptWellLaw" 186 yX12_best cX12_best 4 (some .int) := ⟨wd_1796, wd_1797, wd_1798, wd_14, wd_1799⟩
theorem yd_L_answer : ydN yL_answer 6 := ⟨by decide, by decide, by decide +kernel⟩
theorem yd_X12_answer : ydN yX12_answer 4 := ⟨by decide, by decide, by decide +kernel⟩
theorem wv_1049 : wdH "KeptWellLaw" 187 yL_answer cL_answer 7 (some .int) [(0, 13, 16, 19), (0, 13, 20, 41)] := ⟨wd_1049, wd_1050, wd_0, wd_1051⟩
theorem wv_1808 : wdV "KeptWellLaw" 190 yX12_answer cX12_answer 5 (some .long) := ⟨wd_1808, wd_1809, wd_1810, wd_14, wd_1811⟩
theorem yd_L_least : ydN yL_least 4 := ⟨by decide, by decide, by decide +kernel⟩
theorem yd_X12_least : ydN yX12_least 2 := ⟨by decide, by decide, by decide +kernel⟩
theorem wv_1061 : wdH "KeptWellLaw" 191 yL_least cL_least 5 (some .int) [(0, 10, 13, 19)] := ⟨wd_1061, wd_1062, wd_0, wd_1063⟩
theorem wv_1812 : wdV "KeptWellLaw" 194 yX12_least cX12_least 3 (some .int) := ⟨wd_1812, wd_1813, wd_1814, wd_14, wd_1815⟩
theorem yd_X12_lots : ydN yX12_lots 2 := ⟨by decide, by decide, by decide +kernel⟩
theorem yd_L_lots : ydN yL_lots 4 := ⟨by decide, by decide, by decide +kernel⟩
theorem wv_1077 : wdH "KeptWellLaw" 195 yL_lots cL_lots 5 (some .int) [(0, 9, 12, 19)] := ⟨wd_1077, wd_1078, wd_0, wd_1079⟩
theorem wv_1833 : wdV "KeptWellLaw" 197 yX12_lots cX12_lots 6 (some .long) := ⟨wd_1833, wd_1834, wd_1835, wd_14, wd_1836⟩
theorem yd_X12_once : ydN yX12_once 0 := ⟨by decide, by decide, by decide +kernel⟩
theorem yd_X11_once : ydN yX11_once 0 := ⟨by decide, by decide, by decide +kernel⟩
theorem wv_564 : wdV "KeptWellLaw" 198 yX11_once cX11_once 1 (some .int) := ⟨wd_564, wd_565, wd_566, wd_1, wd_567⟩
theorem wv_1853 : wdV "KeptWellLaw" 201 yX12_once cX12_once 4 (some .int) := ⟨wd_1853, wd_1854, wd_1855, wd_14, wd_1856⟩
theorem yd_X11_corner : ydN yX11_corner 2 := ⟨by decide, by decide, by decide +kernel⟩
theorem yd_X12_corner : ydN yX12_corner 2 := ⟨by decide, by decide, by decide +kernel⟩
theorem wv_582 : wdV "KeptWellLaw" 202 yX11_corner cX11_corner 3 (some .int) := ⟨wd_582, wd_583, wd_584, wd_1, wd_585⟩
theorem wv_1857 : wdV "KeptWellLaw" 205 yX12_corner cX12_corner 3 (some .int) := ⟨wd_1857, wd_1858, wd_1859, wd_14, wd_1860⟩
theorem yd_L_in : ydN yL_in 6 := ⟨by decide, by decide, by decide +kernel⟩
theorem yd_X12_in : ydN yX12_in 4 := ⟨by decide, by decide, by decide +kernel⟩
theorem wv_1119 : wdH "KeptWellLaw" 206 yL_in cL_in 7 (some .int) [(0, 21, 24, 13)] := ⟨wd_1119, wd_1120, wd_0, wd_1121⟩
theorem wv_1871 : wdV "KeptWellLaw" 208 yX12_in cX12_in 5 (some .boolean) := ⟨wd_1871, wd_1872, wd_1873, wd_14, wd_1874⟩
theorem yd_L_mild : ydN yL_mild 6 := ⟨by decide, by decide, by decide +kernel⟩
theorem yd_X12_mild : ydN yX12_mild 4 := ⟨by decide, by decide, by decide +kernel⟩
theorem wv_1144 : wdH "KeptWellLaw" 209 yL_mild cL_mild 7 (some .int) [(0, 14, 17, 19)] := ⟨wd_1144, wd_1145, wd_0, wd_1146⟩
theorem wv_1882 : wdV "KeptWellLaw" 212 yX12_mild cX12_mild 11 (some .int) := ⟨wd_1882, wd_1883, wd_1884, wd_14, wd_1885⟩
theorem yd_L_edge : ydN yL_edge 5 := ⟨by decide, by decide, by decide +kernel⟩
theorem yd_X12_edge : ydN yX12_edge 3 := ⟨by decide, by decide, by decide +kernel⟩
theorem wv_1167 : wdH "KeptWellLaw" 213 yL_edge cL_edge 6 (some .int) [(0, 12, 15, 19), (0, 12, 19, 13), (0, 12, 23, 41)] := ⟨wd_1167, wd_1168, wd_0, wd_1169⟩
theorem wv_1897 : wdV "KeptWellLaw" 215 yX12_edge cX12_edge 8 (some .int) := ⟨wd_1897, wd_1898, wd_1899, wd_14, wd_1900⟩
theorem yd_X12_together : ydN yX12_together 0 := ⟨by decide, by decide, by decide +kernel⟩
theorem yd_X11_together : ydN yX11_together 0 := ⟨by decide, by decide, by decide +kernel⟩
theorem wv_463 : wdV "KeptWellLaw" 216 yX11_together cX11_together 1 (some .int) := ⟨wd_463, wd_464, wd_465, wd_1, wd_466⟩
theorem wv_1901 : wdV "KeptWellLaw" 219 yX12_together cX12_together 8 (some .int) := ⟨wd_1901, wd_1902, wd_1903, wd_14, wd_1904⟩
theorem yd_X12_mistakes : ydN yX12_mistakes 2 := ⟨by decide, by decide, by decide +kernel⟩
theorem yd_L_mistakes : ydN yL_mistakes 3 := ⟨by decide, by decide, by decide +kernel⟩
theorem wv_1179 : wdH "KeptWellLaw" 220 yL_mistakes cL_mistakes 4 (some .int) [(0, 6, 9, 13)] := ⟨wd_1179, wd_1180, wd_0, wd_1181⟩
theorem wv_1909 : wdV "KeptWellLaw" 222 yX12_mistakes cX12_mistakes 3 none := ⟨wd_1909, wd_1910, wd_1911, wd_14, wd_1912⟩
theorem yd_L_doubt : ydN yL_doubt 7 := ⟨by decide, by decide, by decide +kernel⟩
theorem yd_X12_doubt : ydN yX12_doubt 5 := ⟨by decide, by decide, by decide +kernel⟩
theorem wv_1186 : wdH "KeptWellLaw" 223 yL_doubt cL_doubt 8 (some .int) [(0, 15, 18, 19), (0, 15, 22, 41)] := ⟨wd_1186, wd_1187, wd_0, wd_1188⟩
theorem wv_1913 : wdV "KeptWellLaw" 226 yX12_doubt cX12_doubt 12 (some .long) := ⟨wd_1913, wd_1914, wd_1915, wd_14, wd_1916⟩
theorem yd_X12_row : ydN yX12_row 0 := ⟨by decide, by decide, by decide +kernel⟩
theorem yd_L_row : ydN yL_row 2 := ⟨by decide, by decide, by decide +kernel⟩
theorem wv_1225 : wdH "KeptWellLaw" 227 yL_row cL_row 3 (some .int) [(0, 8, 11, 13)] := ⟨wd_1225, wd_1226, wd_0, wd_1227⟩
theorem wv_1921 : wdV "KeptWellLaw" 229 yX12_row cX12_row 3 (some .int) := ⟨wd_1921, wd_1922, wd_1923, wd_14, wd_1924⟩
theorem yd_L_judge : ydN yL_judge 4 := ⟨by decide, by decide, by decide +kernel⟩
theorem yd_X12_judge : ydN yX12_judge 2 := ⟨by decide, by decide, by decide +kernel⟩
theorem wv_1237 : wdH "KeptWellLaw" 230 yL_judge cL_judge 5 (some .int) [(0, 10, 13, 19), (0, 10, 17, 41)] := ⟨wd_1237, wd_1238, wd_0, wd_1239⟩
theorem wv_1925 : wdV "KeptWellLaw" 232 yX12_judge cX12_judge 8 (some .int) := ⟨wd_1925, wd_1926, wd_1927, wd_14, wd_1928⟩
theorem yd_X12_brought : ydN yX12_brought 1 := ⟨by decide, by decide, by decide +kernel⟩
theorem yd_L_brought : ydN yL_brought 3 := ⟨by decide, by decide, by decide +kernel⟩
theorem wv_1263 : wdH "KeptWellLaw" 233 yL_brought cL_brought 4 (some .int) [(0, 9, 12, 19)] := ⟨wd_1263, wd_1264, wd_0, wd_1265⟩
theorem wv_1933 : wdV "KeptWellLaw" 236 yX12_brought cX12_brought 4 (some .int) := ⟨wd_1933, wd_1934, wd_1935, wd_14, wd_1936⟩
theorem yd_X12_drawn : ydN yX12_drawn 5 := ⟨by decide, by decide, by decide +kernel⟩
theorem yd_L_drawn : ydN yL_drawn 7 := ⟨by decide, by decide, by decide +kernel⟩
theorem wv_1275 : wdH "KeptWellLaw" 237 yL_drawn cL_drawn 8 (some .int) [(0, 16, 19, 19), (0, 16, 23, 13), (0, 16, 27, 41), (0, 16, 31, 35)] := ⟨wd_1275, wd_1276, wd_0, wd_1277⟩
theorem wv_1937 : wdV "KeptWellLaw" 240 yX12_drawn cX12_drawn 14 (some .int) := ⟨wd_1937, wd_1938, wd_1939, wd_14, wd_1940⟩
theorem yd_L_field : ydN yL_field 3 := ⟨by decide, by decide, by decide +kernel⟩
theorem yd_X12_field : ydN yX12_field 2 := ⟨by decide, by decide, by decide +kernel⟩
theorem wv_1291 : wdH "KeptWellLaw" 241 yL_field cL_field 4 (some .int) [(0, 6, 9, 19), (0, 6, 12, 13)] := ⟨wd_1291, wd_1292, wd_0, wd_1293⟩
theorem wv_1946 : wdV "KeptWellLaw" 243 yX12_field cX12_field 3 none := ⟨wd_1946, wd_1947, wd_1948, wd_14, wd_1949⟩
theorem yd_X12_rounds : ydN yX12_rounds 1 := ⟨by decide, by decide, by decide +kernel⟩
theorem yd_L_rounds : ydN yL_rounds 2 := ⟨by decide, by decide, by decide +kernel⟩
theorem wv_1299 : wdH "KeptWellLaw" 244 yL_rounds cL_rounds 3 (some .int) [(0, 5, 8, 13)] := ⟨wd_1299, wd_1300, wd_0, wd_1301⟩
theorem wv_1950 : wdV "KeptWellLaw" 246 yX12_rounds cX12_rounds 2 none := ⟨wd_1950, wd_1951, wd_1952, wd_14, wd_1953⟩
theorem yd_L_meet : ydN yL_meet 4 := ⟨by decide, by decide, by decide +kernel⟩
theorem yd_X12_meet : ydN yX12_meet 2 := ⟨by decide, by decide, by decide +kernel⟩
theorem wv_1306 : wdH "KeptWellLaw" 247 yL_meet cL_meet 5 (some .int) [(0, 10, 13, 19), (0, 10, 17, 41)] := ⟨wd_1306, wd_1307, wd_0, wd_1308⟩
theorem wv_1954 : wdV "KeptWellLaw" 249 yX12_meet cX12_meet 3 (some .int) := ⟨wd_1954, wd_1955, wd_1956, wd_14, wd_1957⟩
theorem yd_L_grow : ydN yL_grow 3 := ⟨by decide, by decide, by decide +kernel⟩
theorem yd_X12_grow : ydN yX12_grow 1 := ⟨by decide, by decide, by decide +kernel⟩
theorem wv_1317 : wdH "KeptWellLaw" 250 yL_grow cL_grow 4 (some .int) [(0, 9, 12, 13)] := ⟨wd_1317, wd_1318, wd_0, wd_1319⟩
theorem wv_1962 : wdV "KeptWellLaw" 252 yX12_grow cX12_grow 4 (some .int) := ⟨wd_1962, wd_1963, wd_1964, wd_14, wd_1965⟩
theorem yd_L_beings : ydN yL_beings 3 := ⟨by decide, by decide, by decide +kernel⟩
theorem yd_X12_beings : ydN yX12_beings 1 := ⟨by decide, by decide, by decide +kernel⟩
theorem wv_1362 : wdH "KeptWellLaw" 253 yL_beings cL_beings 4 (some .int) [(0, 9, 12, 19)] := ⟨wd_1362, wd_1363, wd_0, wd_1364⟩
theorem wv_1970 : wdV "KeptWellLaw" 255 yX12_beings cX12_beings 2 (some .int) := ⟨wd_1970, wd_1971, wd_1972, wd_14, wd_1973⟩
theorem yd_L_stays : ydN yL_stays 3 := ⟨by decide, by decide, by decide +kernel⟩
theorem yd_X12_stays : ydN yX12_stays 1 := ⟨by decide, by decide, by decide +kernel⟩
theorem wv_1369 : wdH "KeptWellLaw" 256 yL_stays cL_stays 4 (some .int) [(0, 16, 19, 19), (0, 16, 22, 41)] := ⟨wd_1369, wd_1370, wd_0, wd_1371⟩
theorem wv_1974 : wdV "KeptWellLaw" 258 yX12_stays cX12_stays 6 (some .boolean) := ⟨wd_1974, wd_1975, wd_1976, wd_14, wd_1977⟩
theorem yd_L_all : ydN yL_all 4 := ⟨by decide, by decide, by decide +kernel⟩
theorem yd_X12_all : ydN yX12_all 2 := ⟨by decide, by decide, by decide +kernel⟩
theorem wv_1384 : wdH "KeptWellLaw" 259 yL_all cL_all 5 (some .int) [(0, 10, 13, 19), (0, 10, 17, 41), (0, 10, 21, 35)] := ⟨wd_1384, wd_1385, wd_0, wd_1386⟩
theorem wv_1978 : wdV "KeptWellLaw" 261 yX12_all cX12_all 8 (some .int) := ⟨wd_1978, wd_1979, wd_1980, wd_14, wd_1981⟩
theorem yd_L_begin : ydN yL_begin 4 := ⟨by decide, by decide, by decide +kernel⟩
theorem yd_X12_begin : ydN yX12_begin 2 := ⟨by decide, by decide, by decide +kernel⟩
theorem wv_1400 : wdH "KeptWellLaw" 262 yL_begin cL_begin 5 (some .int) [(0, 10, 13, 19), (0, 10, 17, 41)] := ⟨wd_1400, wd_1401, wd_0, wd_1402⟩
theorem wv_1986 : wdV "KeptWellLaw" 264 yX12_begin cX12_begin 11 (some .int) := ⟨wd_1986, wd_1987, wd_1988, wd_14, wd_1989⟩
theorem yd_L_villager : ydN yL_villager 4 := ⟨by decide, by decide, by decide +kernel⟩
theorem yd_X12_villager : ydN yX12_villager 2 := ⟨by decide, by decide, by decide +kernel⟩
theorem wv_1418 : wdH "KeptWellLaw" 265 yL_villager cL_villager 5 (some .int) [(0, 10, 13, 13), (0, 10, 17, 29)] := ⟨wd_1418, wd_1419, wd_0, wd_1420⟩
theorem wv_1990 : wdV "KeptWellLaw" 267 yX12_villager cX12_villager 4 (some .int) := ⟨wd_1990, wd_1991, wd_1992, wd_14, wd_1993⟩
theorem yd_L_villageEdge : ydN yL_villageEdge 4 := ⟨by decide, by decide, by decide +kernel⟩
theorem yd_X12_villageEdge : ydN yX12_villageEdge 2 := ⟨by decide, by decide, by decide +kernel⟩
theorem wv_1425 : wdH "KeptWellLaw" 268 yL_villageEdge cL_villageEdge 5 (some .int) [(0, 10, 13, 19)] := ⟨wd_1425, wd_1426, wd_0, wd_1427⟩
theorem wv_1994 : wdV "KeptWellLaw" 270 yX12_villageEdge cX12_villageEdge 3 (some .int) := ⟨wd_1994, wd_1995, wd_1996, wd_14, wd_1997⟩
theorem yd_X12_village : ydN yX12_village 1 := ⟨by decide, by decide, by decide +kernel⟩
theorem yd_L_village : ydN yL_village 3 := ⟨by decide, by decide, by decide +kernel⟩
theorem wv_1438 : wdH "KeptWellLaw" 271 yL_village cL_village 4 (some .int) [(0, 9, 12, 35)] := ⟨wd_1438, wd_1439, wd_0, wd_1440⟩
theorem wv_2002 : wdV "KeptWellLaw" 273 yX12_village cX12_village 5 (some .int) := ⟨wd_2002, wd_2003, wd_2004, wd_14, wd_2005⟩
theorem yd_X12_image : ydN yX12_image 0 := ⟨by decide, by decide, by decide +kernel⟩
theorem yd_X11_image : ydN yX11_image 0 := ⟨by decide, by decide, by decide +kernel⟩
theorem wv_616 : wdV "KeptWellLaw" 274 yX11_image cX11_image 1 none := ⟨wd_616, wd_617, wd_618, wd_1, wd_619⟩
theorem wv_1600 : wdV "KeptWellLaw" 277 yX12_image cX12_image 2 none := ⟨wd_1600, wd_1601, wd_1602, wd_14, wd_1603⟩
theorem yd_X12_back : ydN yX12_back 0 := ⟨by decide, by decide, by decide +kernel⟩
theorem yd_X11_back : ydN yX11_back 0 := ⟨by decide, by decide, by decide +kernel⟩
theorem wv_629 : wdV "KeptWellLaw" 278 yX11_back cX11_back 1 (some .boolean) := ⟨wd_629, wd_630, wd_631, wd_1, wd_632⟩
theorem wv_1604 : wdV "KeptWellLaw" 282 yX12_back cX12_back 2 (some .boolean) := ⟨wd_1604, wd_1605, wd_1606, wd_14, wd_1607⟩
theorem yd_X12_count : ydN yX12_count 1 := ⟨by decide, by decide, by decide +kernel⟩
theorem yd_X11_count : ydN yX11_count 1 := ⟨by decide, by decide, by decide +kernel⟩
theorem wv_633 : wdV "KeptWellLaw" 283 yX11_count cX11_count 2 (some .int) := ⟨wd_633, wd_634, wd_635, wd_1, wd_636⟩
theorem wv_2014 : wdV "KeptWellLaw" 286 yX12_count cX12_count 4 (some .int) := ⟨wd_2014, wd_2015, wd_2016, wd_14, wd_2017⟩
theorem drL_law_0 : ([(0, (.new 8), 3), (3, .dup, 1), (4, (.invokespecial 132), 3), (7, (.astore_n 1), 1), (8, (.new 133), 3), (11, .dup, 1), (12, (.invokespecial 135), 3), (15, (.astore_n 2), 1), (16, (.iconst 1), 1), (17, (.newarray .long), 2), (19, (.astore_n 3), 1), (20, (.iconst 0), 1), (21, (.istore 4), 2), (23, (.iload 4), 2), (25, (.aload_n 0), 1), (26, .arraylength, 1), (27, (.bipush 7), 2), (29, .isub, 1), (30, (.if_icmp .gt 2758), 3), (33, (.aload_n 0), 1), (34, (.iload 4), 2), (36, .iaload, 1), (37, (.bipush 63), 2), (39, .iand, 1), (40, (.tableswitch 2742 0 40 #[180, 253, 278, 314, 386, 434, 478, 491, 571, 704, 779, 847, 927, 1034, 1118, 1201, 1214, 1267, 1382, 1474, 1554, 1567, 1615, 1750, 1794, 1862, 1918, 2022, 2070, 2106, 2174, 2230, 2286, 2349, 2417, 2485, 2553, 2637, 2693, 2704, 2717]), 180), (220, (.aload_n 1), 1), (221, (.aload_n 0), 1), (222, (.iload 4), 2), (224, (.iconst 1), 1), (225, .iadd, 1), (226, .iaload, 1), (227, (.aload_n 0), 1), (228, (.iload 4), 2), (230, (.iconst 2), 1), (231, .iadd, 1), (232, .iaload, 1), (233, (.aload_n 0), 1), (234, (.iload 4), 2), (236, (.iconst 3), 1), (237, .iadd, 1), (238, .iaload, 1), (239, (.aload_n 0), 1), (240, (.iload 4), 2), (242, (.iconst 4), 1), (243, .iadd, 1), (244, .iaload, 1), (245, (.aload_n 0), 1), (246, (.iload 4), 2), (248, (.iconst 5), 1), (249, .iadd, 1), (250, .iaload, 1), (251, (.invokevirtual 136), 3), (254, (.aload_n 2), 1), (255, (.aload_n 0), 1), (256, (.iload 4), 2), (258, (.iconst 1), 1), (259, .iadd, 1), (260, .iaload, 1), (261, (.aload_n 0), 1), (262, (.iload 4), 2), (264, (.iconst 2), 1), (265, .iadd, 1), (266, .iaload, 1), (267, (.aload_n 0), 1), (268, (.iload 4), 2), (270, (.iconst 3), 1), (271, .iadd, 1), (272, .iaload, 1), (273, (.aload_n 0), 1), (274, (.iload 4), 2), (276, (.iconst 4), 1), (277, .iadd, 1), (278, .iaload, 1), (279, (.aload_n 0), 1), (280, (.iload 4), 2), (282, (.iconst 5), 1), (283, .iadd, 1), (284, .iaload, 1), (285, (.invokevirtual 139), 3), (288, (.if_icmp .eq 2494), 3), (291, (.iconst 0), 1), (293, (.aload_n 1), 1), (294, (.aload_n 0), 1), (295, (.iload 4), 2), (297, (.iconst 1), 1), (298, .iadd, 1), (299, .iaload, 1), (300, (.invokevirtual 140), 3), (303, (.aload_n 2), 1), (304, (.aload_n 0), 1), (305, (.iload 4), 2), (307, (.iconst 1), 1), (308, .iadd, 1), (309, .iaload, 1), (310, (.invokevirtual 143), 3), (313, (.if_icmp .eq 2469), 3), (316, (.iconst 0), 1), (318, (.aload_n 1), 1), (319, (.aload_n 0), 1), (320, (.iload 4), 2), (322, (.iconst 1), 1), (323, .iadd, 1), (324, .iaload, 1), (325, (.invokestatic 144), 3), (328, (.istore 5), 2), (330, (.aload_n 2), 1), (331, (.aload_n 0), 1), (332, (.iload 4), 2), (334, (.iconst 1), 1), (335, .iadd, 1), (336, .iaload, 1), (337, (.invokevirtual 149), 3), (340, (.aload_n 2), 1), (341, (.invokevirtual 150), 3), (344, (.iload 5), 2), (346, (.if_icmp .eq 5), 3), (349, (.iconst 0), 1), (351, (.goto 2431), 3), (354, (.aload_n 1), 1), (355, (.aload_n 0), 1), (356, (.iload 4), 2), (358, (.iconst 1), 1), (359, .iadd, 1), (360, .iaload, 1), (361, (.aload_n 0), 1), (362, (.iload 4), 2), (364, (.iconst 2), 1), (365, .iadd, 1), (366, .iaload, 1), (367, (.aload_n 0), 1), (368, (.iload 4), 2), (370, (.iconst 3), 1), (371, .iadd, 1), (372, .iaload, 1), (373, (.aload_n 0), 1), (374, (.iload 4), 2), (376, (.iconst 4), 1), (377, .iadd, 1), (378, .iaload, 1), (379, (.invokestatic 153), 3), (382, (.istore 5), 2), (384, (.aload_n 2), 1), (385, (.aload_n 0), 1), (386, (.iload 4), 2), (388, (.iconst 1), 1), (389, .iadd, 1), (390, .iaload, 1), (391, (.aload_n 0), 1), (392, (.iload 4), 2), (394, (.iconst 2), 1)] : List (Nat × Instr × Nat)).all (fun q => decide (decode code q.1 = .ok q.2)) = true := by decide +kernel
theorem dL_0 : dc code 0 3 (.new 8) 3 := ⟨dr_at drL_law_0 (i := 0) rfl, rfl⟩
theorem dL_3 : dc code 3 4 .dup 1 := ⟨dr_at drL_law_0 (i := 1) rfl, rfl⟩
theorem dL_4 : dc code 4 7 (.invokespecial 132) 3 := ⟨dr_at drL_law_0 (i := 2) rfl, rfl⟩
theorem dL_7 : dc code 7 8 (.astore_n 1) 1 := ⟨dr_at drL_law_0 (i := 3) rfl, rfl⟩
theorem dL_8 : dc code 8 11 (.new 133) 3 := ⟨dr_at drL_law_0 (i := 4) rfl, rfl⟩
theorem dL_11 : dc code 11 12 .dup 1 := ⟨dr_at drL_law_0 (i := 5) rfl, rfl⟩
theorem dL_12 : dc code 12 15 (.invokespecial 135) 3 := ⟨dr_at drL_law_0 (i := 6) rfl, rfl⟩
theorem dL_15 : dc code 15 16 (.astore_n 2) 1 := ⟨dr_at drL_law_0 (i := 7) rfl, rfl⟩
theorem dL_16 : dc code 16 17 (.iconst 1) 1 := ⟨dr_at drL_law_0 (i := 8) rfl, rfl⟩
theorem dL_17 : dc code 17 19 (.newarray .long) 2 := ⟨dr_at drL_law_0 (i := 9) rfl, rfl⟩
theorem dL_19 : dc code 19 20 (.astore_n 3) 1 := ⟨dr_at drL_law_0 (i := 10) rfl, rfl⟩
theorem dL_20 : dc code 20 21 (.iconst 0) 1 := ⟨dr_at drL_law_0 (i := 11) rfl, rfl⟩
theorem dL_21 : dc code 21 23 (.istore 4) 2 := ⟨dr_at drL_law_0 (i := 12) rfl, rfl⟩
theorem dL_23 : dc code 23 25 (.iload 4) 2 := ⟨dr_at drL_law_0 (i := 13) rfl, rfl⟩
theorem dL_25 : dc code 25 26 (.aload_n 0) 1 := ⟨dr_at drL_law_0 (i := 14) rfl, rfl⟩
theorem dL_26 : dc code 26 27 .arraylength 1 := ⟨dr_at drL_law_0 (i := 15) rfl, rfl⟩
theorem dL_27 : dc code 27 29 (.bipush 7) 2 := ⟨dr_at drL_law_0 (i := 16) rfl, rfl⟩
theorem dL_29 : dc code 29 30 .isub 1 := ⟨dr_at drL_law_0 (i := 17) rfl, rfl⟩
theorem dL_30 : dc code 30 33 (.if_icmp .gt 2758) 3 := ⟨dr_at drL_law_0 (i := 18) rfl, rfl⟩
theorem dL_33 : dc code 33 34 (.aload_n 0) 1 := ⟨dr_at drL_law_0 (i := 19) rfl, rfl⟩
theorem dL_34 : dc code 34 36 (.iload 4) 2 := ⟨dr_at drL_law_0 (i := 20) rfl, rfl⟩
theorem dL_36 : dc code 36 37 .iaload 1 := ⟨dr_at drL_law_0 (i := 21) rfl, rfl⟩
theorem dL_37 : dc code 37 39 (.bipush 63) 2 := ⟨dr_at drL_law_0 (i := 22) rfl, rfl⟩
theorem dL_39 : dc code 39 40 .iand 1 := ⟨dr_at drL_law_0 (i := 23) rfl, rfl⟩
theorem dL_40 : dc code 40 220 (.tableswitch 2742 0 40 #[180, 253, 278, 314, 386, 434, 478, 491, 571, 704, 779, 847, 927, 1034, 1118, 1201, 1214, 1267, 1382, 1474, 1554, 1567, 1615, 1750, 1794, 1862, 1918, 2022, 2070, 2106, 2174, 2230, 2286, 2349, 2417, 2485, 2553, 2637, 2693, 2704, 2717]) 180 := ⟨dr_at drL_law_0 (i := 24) rfl, rfl⟩
theorem dL_220 : dc code 220 221 (.aload_n 1) 1 := ⟨dr_at drL_law_0 (i := 25) rfl, rfl⟩
theorem dL_221 : dc code 221 222 (.aload_n 0) 1 := ⟨dr_at drL_law_0 (i := 26) rfl, rfl⟩
theorem dL_222 : dc code 222 224 (.iload 4) 2 := ⟨dr_at drL_law_0 (i := 27) rfl, rfl⟩
theorem dL_224 : dc code 224 225 (.iconst 1) 1 := ⟨dr_at drL_law_0 (i := 28) rfl, rfl⟩
theorem dL_225 : dc code 225 226 .iadd 1 := ⟨dr_at drL_law_0 (i := 29) rfl, rfl⟩
theorem dL_226 : dc code 226 227 .iaload 1 := ⟨dr_at drL_law_0 (i := 30) rfl, rfl⟩
theorem dL_227 : dc code 227 228 (.aload_n 0) 1 := ⟨dr_at drL_law_0 (i := 31) rfl, rfl⟩
theorem dL_228 : dc code 228 230 (.iload 4) 2 := ⟨dr_at drL_law_0 (i := 32) rfl, rfl⟩
theorem dL_230 : dc code 230 231 (.iconst 2) 1 := ⟨dr_at drL_law_0 (i := 33) rfl, rfl⟩
theorem dL_231 : dc code 231 232 .iadd 1 := ⟨dr_at drL_law_0 (i := 34) rfl, rfl⟩
theorem dL_232 : dc code 232 233 .iaload 1 := ⟨dr_at drL_law_0 (i := 35) rfl, rfl⟩
theorem dL_233 : dc code 233 234 (.aload_n 0) 1 := ⟨dr_at drL_law_0 (i := 36) rfl, rfl⟩
theorem dL_234 : dc code 234 236 (.iload 4) 2 := ⟨dr_at drL_law_0 (i := 37) rfl, rfl⟩
theorem dL_236 : dc code 236 237 (.iconst 3) 1 := ⟨dr_at drL_law_0 (i := 38) rfl, rfl⟩
theorem dL_237 : dc code 237 238 .iadd 1 := ⟨dr_at drL_law_0 (i := 39) rfl, rfl⟩
theorem dL_238 : dc code 238 239 .iaload 1 := ⟨dr_at drL_law_0 (i := 40) rfl, rfl⟩
theorem dL_239 : dc code 239 240 (.aload_n 0) 1 := ⟨dr_at drL_law_0 (i := 41) rfl, rfl⟩
theorem dL_240 : dc code 240 242 (.iload 4) 2 := ⟨dr_at drL_law_0 (i := 42) rfl, rfl⟩
theorem dL_242 : dc code 242 243 (.iconst 4) 1 := ⟨dr_at drL_law_0 (i := 43) rfl, rfl⟩
theorem dL_243 : dc code 243 244 .iadd 1 := ⟨dr_at drL_law_0 (i := 44) rfl, rfl⟩
theorem dL_244 : dc code 244 245 .iaload 1 := ⟨dr_at drL_law_0 (i := 45) rfl, rfl⟩
theorem dL_245 : dc code 245 246 (.aload_n 0) 1 := ⟨dr_at drL_law_0 (i := 46) rfl, rfl⟩
theorem dL_246 : dc code 246 248 (.iload 4) 2 := ⟨dr_at drL_law_0 (i := 47) rfl, rfl⟩
theorem dL_248 : dc code 248 249 (.iconst 5) 1 := ⟨dr_at drL_law_0 (i := 48) rfl, rfl⟩
theorem dL_249 : dc code 249 250 .iadd 1 := ⟨dr_at drL_law_0 (i := 49) rfl, rfl⟩
theorem dL_250 : dc code 250 251 .iaload 1 := ⟨dr_at drL_law_0 (i := 50) rfl, rfl⟩
theorem dL_251 : dc code 251 254 (.invokevirtual 136) 3 := ⟨dr_at drL_law_0 (i := 51) rfl, rfl⟩
theorem dL_254 : dc code 254 255 (.aload_n 2) 1 := ⟨dr_at drL_law_0 (i := 52) rfl, rfl⟩
theorem dL_255 : dc code 255 256 (.aload_n 0) 1 := ⟨dr_at drL_law_0 (i := 53) rfl, rfl⟩
theorem dL_256 : dc code 256 258 (.iload 4) 2 := ⟨dr_at drL_law_0 (i := 54) rfl, rfl⟩
theorem dL_258 : dc code 258 259 (.iconst 1) 1 := ⟨dr_at drL_law_0 (i := 55) rfl, rfl⟩
theorem dL_259 : dc code 259 260 .iadd 1 := ⟨dr_at drL_law_0 (i := 56) rfl, rfl⟩
theorem dL_260 : dc code 260 261 .iaload 1 := ⟨dr_at drL_law_0 (i := 57) rfl, rfl⟩
theorem dL_261 : dc code 261 262 (.aload_n 0) 1 := ⟨dr_at drL_law_0 (i := 58) rfl, rfl⟩
theorem dL_262 : dc code 262 264 (.iload 4) 2 := ⟨dr_at drL_law_0 (i := 59) rfl, rfl⟩
theorem dL_264 : dc code 264 265 (.iconst 2) 1 := ⟨dr_at drL_law_0 (i := 60) rfl, rfl⟩
theorem dL_265 : dc code 265 266 .iadd 1 := ⟨dr_at drL_law_0 (i := 61) rfl, rfl⟩
theorem dL_266 : dc code 266 267 .iaload 1 := ⟨dr_at drL_law_0 (i := 62) rfl, rfl⟩
theorem dL_267 : dc code 267 268 (.aload_n 0) 1 := ⟨dr_at drL_law_0 (i := 63) rfl, rfl⟩
theorem dL_268 : dc code 268 270 (.iload 4) 2 := ⟨dr_at drL_law_0 (i := 64) rfl, rfl⟩
theorem dL_270 : dc code 270 271 (.iconst 3) 1 := ⟨dr_at drL_law_0 (i := 65) rfl, rfl⟩
theorem dL_271 : dc code 271 272 .iadd 1 := ⟨dr_at drL_law_0 (i := 66) rfl, rfl⟩
theorem dL_272 : dc code 272 273 .iaload 1 := ⟨dr_at drL_law_0 (i := 67) rfl, rfl⟩
theorem dL_273 : dc code 273 274 (.aload_n 0) 1 := ⟨dr_at drL_law_0 (i := 68) rfl, rfl⟩
theorem dL_274 : dc code 274 276 (.iload 4) 2 := ⟨dr_at drL_law_0 (i := 69) rfl, rfl⟩
theorem dL_276 : dc code 276 277 (.iconst 4) 1 := ⟨dr_at drL_law_0 (i := 70) rfl, rfl⟩
theorem dL_277 : dc code 277 278 .iadd 1 := ⟨dr_at drL_law_0 (i := 71) rfl, rfl⟩
theorem dL_278 : dc code 278 279 .iaload 1 := ⟨dr_at drL_law_0 (i := 72) rfl, rfl⟩
theorem dL_279 : dc code 279 280 (.aload_n 0) 1 := ⟨dr_at drL_law_0 (i := 73) rfl, rfl⟩
theorem dL_280 : dc code 280 282 (.iload 4) 2 := ⟨dr_at drL_law_0 (i := 74) rfl, rfl⟩
theorem dL_282 : dc code 282 283 (.iconst 5) 1 := ⟨dr_at drL_law_0 (i := 75) rfl, rfl⟩
theorem dL_283 : dc code 283 284 .iadd 1 := ⟨dr_at drL_law_0 (i := 76) rfl, rfl⟩
theorem dL_284 : dc code 284 285 .iaload 1 := ⟨dr_at drL_law_0 (i := 77) rfl, rfl⟩
theorem dL_285 : dc code 285 288 (.invokevirtual 139) 3 := ⟨dr_at drL_law_0 (i := 78) rfl, rfl⟩
theorem dL_288 : dc code 288 291 (.if_icmp .eq 2494) 3 := ⟨dr_at drL_law_0 (i := 79) rfl, rfl⟩
theorem dL_291 : dc code 291 292 (.iconst 0) 1 := ⟨dr_at drL_law_0 (i := 80) rfl, rfl⟩
theorem dL_293 : dc code 293 294 (.aload_n 1) 1 := ⟨dr_at drL_law_0 (i := 81) rfl, rfl⟩
theorem dL_294 : dc code 294 295 (.aload_n 0) 1 := ⟨dr_at drL_law_0 (i := 82) rfl, rfl⟩
theorem dL_295 : dc code 295 297 (.iload 4) 2 := ⟨dr_at drL_law_0 (i := 83) rfl, rfl⟩
theorem dL_297 : dc code 297 298 (.iconst 1) 1 := ⟨dr_at drL_law_0 (i := 84) rfl, rfl⟩
theorem dL_298 : dc code 298 299 .iadd 1 := ⟨dr_at drL_law_0 (i := 85) rfl, rfl⟩
theorem dL_299 : dc code 299 300 .iaload 1 := ⟨dr_at drL_law_0 (i := 86) rfl, rfl⟩
theorem dL_300 : dc code 300 303 (.invokevirtual 140) 3 := ⟨dr_at drL_law_0 (i := 87) rfl, rfl⟩
theorem dL_303 : dc code 303 304 (.aload_n 2) 1 := ⟨dr_at drL_law_0 (i := 88) rfl, rfl⟩
theorem dL_304 : dc code 304 305 (.aload_n 0) 1 := ⟨dr_at drL_law_0 (i := 89) rfl, rfl⟩
theorem dL_305 : dc code 305 307 (.iload 4) 2 := ⟨dr_at drL_law_0 (i := 90) rfl, rfl⟩
theorem dL_307 : dc code 307 308 (.iconst 1) 1 := ⟨dr_at drL_law_0 (i := 91) rfl, rfl⟩
theorem dL_308 : dc code 308 309 .iadd 1 := ⟨dr_at drL_law_0 (i := 92) rfl, rfl⟩
theorem dL_309 : dc code 309 310 .iaload 1 := ⟨dr_at drL_law_0 (i := 93) rfl, rfl⟩
theorem dL_310 : dc code 310 313 (.invokevirtual 143) 3 := ⟨dr_at drL_law_0 (i := 94) rfl, rfl⟩
theorem dL_313 : dc code 313 316 (.if_icmp .eq 2469) 3 := ⟨dr_at drL_law_0 (i := 95) rfl, rfl⟩
theorem dL_316 : dc code 316 317 (.iconst 0) 1 := ⟨dr_at drL_law_0 (i := 96) rfl, rfl⟩
theorem dL_318 : dc code 318 319 (.aload_n 1) 1 := ⟨dr_at drL_law_0 (i := 97) rfl, rfl⟩
theorem dL_319 : dc code 319 320 (.aload_n 0) 1 := ⟨dr_at drL_law_0 (i := 98) rfl, rfl⟩
theorem dL_320 : dc code 320 322 (.iload 4) 2 := ⟨dr_at drL_law_0 (i := 99) rfl, rfl⟩
theorem dL_322 : dc code 322 323 (.iconst 1) 1 := ⟨dr_at drL_law_0 (i := 100) rfl, rfl⟩
theorem dL_323 : dc code 323 324 .iadd 1 := ⟨dr_at drL_law_0 (i := 101) rfl, rfl⟩
theorem dL_324 : dc code 324 325 .iaload 1 := ⟨dr_at drL_law_0 (i := 102) rfl, rfl⟩
theorem dL_325 : dc code 325 328 (.invokestatic 144) 3 := ⟨dr_at drL_law_0 (i := 103) rfl, rfl⟩
theorem dL_328 : dc code 328 330 (.istore 5) 2 := ⟨dr_at drL_law_0 (i := 104) rfl, rfl⟩
theorem dL_330 : dc code 330 331 (.aload_n 2) 1 := ⟨dr_at drL_law_0 (i := 105) rfl, rfl⟩
theorem dL_331 : dc code 331 332 (.aload_n 0) 1 := ⟨dr_at drL_law_0 (i := 106) rfl, rfl⟩
theorem dL_332 : dc code 332 334 (.iload 4) 2 := ⟨dr_at drL_law_0 (i := 107) rfl, rfl⟩
theorem dL_334 : dc code 334 335 (.iconst 1) 1 := ⟨dr_at drL_law_0 (i := 108) rfl, rfl⟩
theorem dL_335 : dc code 335 336 .iadd 1 := ⟨dr_at drL_law_0 (i := 109) rfl, rfl⟩
theorem dL_336 : dc code 336 337 .iaload 1 := ⟨dr_at drL_law_0 (i := 110) rfl, rfl⟩
theorem dL_337 : dc code 337 340 (.invokevirtual 149) 3 := ⟨dr_at drL_law_0 (i := 111) rfl, rfl⟩
theorem dL_340 : dc code 340 341 (.aload_n 2) 1 := ⟨dr_at drL_law_0 (i := 112) rfl, rfl⟩
theorem dL_341 : dc code 341 344 (.invokevirtual 150) 3 := ⟨dr_at drL_law_0 (i := 113) rfl, rfl⟩
theorem dL_344 : dc code 344 346 (.iload 5) 2 := ⟨dr_at drL_law_0 (i := 114) rfl, rfl⟩
theorem dL_346 : dc code 346 349 (.if_icmp .eq 5) 3 := ⟨dr_at drL_law_0 (i := 115) rfl, rfl⟩
theorem dL_349 : dc code 349 350 (.iconst 0) 1 := ⟨dr_at drL_law_0 (i := 116) rfl, rfl⟩
theorem dL_351 : dc code 351 354 (.goto 2431) 3 := ⟨dr_at drL_law_0 (i := 117) rfl, rfl⟩
theorem dL_354 : dc code 354 355 (.aload_n 1) 1 := ⟨dr_at drL_law_0 (i := 118) rfl, rfl⟩
theorem dL_355 : dc code 355 356 (.aload_n 0) 1 := ⟨dr_at drL_law_0 (i := 119) rfl, rfl⟩
theorem dL_356 : dc code 356 358 (.iload 4) 2 := ⟨dr_at drL_law_0 (i := 120) rfl, rfl⟩
theorem dL_358 : dc code 358 359 (.iconst 1) 1 := ⟨dr_at drL_law_0 (i := 121) rfl, rfl⟩
theorem dL_359 : dc code 359 360 .iadd 1 := ⟨dr_at drL_law_0 (i := 122) rfl, rfl⟩
theorem dL_360 : dc code 360 361 .iaload 1 := ⟨dr_at drL_law_0 (i := 123) rfl, rfl⟩
theorem dL_361 : dc code 361 362 (.aload_n 0) 1 := ⟨dr_at drL_law_0 (i := 124) rfl, rfl⟩
theorem dL_362 : dc code 362 364 (.iload 4) 2 := ⟨dr_at drL_law_0 (i := 125) rfl, rfl⟩
theorem dL_364 : dc code 364 365 (.iconst 2) 1 := ⟨dr_at drL_law_0 (i := 126) rfl, rfl⟩
theorem dL_365 : dc code 365 366 .iadd 1 := ⟨dr_at drL_law_0 (i := 127) rfl, rfl⟩
theorem dL_366 : dc code 366 367 .iaload 1 := ⟨dr_at drL_law_0 (i := 128) rfl, rfl⟩
theorem dL_367 : dc code 367 368 (.aload_n 0) 1 := ⟨dr_at drL_law_0 (i := 129) rfl, rfl⟩
theorem dL_368 : dc code 368 370 (.iload 4) 2 := ⟨dr_at drL_law_0 (i := 130) rfl, rfl⟩
theorem dL_370 : dc code 370 371 (.iconst 3) 1 := ⟨dr_at drL_law_0 (i := 131) rfl, rfl⟩
theorem dL_371 : dc code 371 372 .iadd 1 := ⟨dr_at drL_law_0 (i := 132) rfl, rfl⟩
theorem dL_372 : dc code 372 373 .iaload 1 := ⟨dr_at drL_law_0 (i := 133) rfl, rfl⟩
theorem dL_373 : dc code 373 374 (.aload_n 0) 1 := ⟨dr_at drL_law_0 (i := 134) rfl, rfl⟩
theorem dL_374 : dc code 374 376 (.iload 4) 2 := ⟨dr_at drL_law_0 (i := 135) rfl, rfl⟩
theorem dL_376 : dc code 376 377 (.iconst 4) 1 := ⟨dr_at drL_law_0 (i := 136) rfl, rfl⟩
theorem dL_377 : dc code 377 378 .iadd 1 := ⟨dr_at drL_law_0 (i := 137) rfl, rfl⟩
theorem dL_378 : dc code 378 379 .iaload 1 := ⟨dr_at drL_law_0 (i := 138) rfl, rfl⟩
theorem dL_379 : dc code 379 382 (.invokestatic 153) 3 := ⟨dr_at drL_law_0 (i := 139) rfl, rfl⟩
theorem dL_382 : dc code 382 384 (.istore 5) 2 := ⟨dr_at drL_law_0 (i := 140) rfl, rfl⟩
theorem dL_384 : dc code 384 385 (.aload_n 2) 1 := ⟨dr_at drL_law_0 (i := 141) rfl, rfl⟩
theorem dL_385 : dc code 385 386 (.aload_n 0) 1 := ⟨dr_at drL_law_0 (i := 142) rfl, rfl⟩
theorem dL_386 : dc code 386 388 (.iload 4) 2 := ⟨dr_at drL_law_0 (i := 143) rfl, rfl⟩
theorem dL_388 : dc code 388 389 (.iconst 1) 1 := ⟨dr_at drL_law_0 (i := 144) rfl, rfl⟩
theorem dL_389 : dc code 389 390 .iadd 1 := ⟨dr_at drL_law_0 (i := 145) rfl, rfl⟩
theorem dL_390 : dc code 390 391 .iaload 1 := ⟨dr_at drL_law_0 (i := 146) rfl, rfl⟩
theorem dL_391 : dc code 391 392 (.aload_n 0) 1 := ⟨dr_at drL_law_0 (i := 147) rfl, rfl⟩
theorem dL_392 : dc code 392 394 (.iload 4) 2 := ⟨dr_at drL_law_0 (i := 148) rfl, rfl⟩
theorem dL_394 : dc code 394 395 (.iconst 2) 1 := ⟨dr_at drL_law_0 (i := 149) rfl, rfl⟩
theorem drL_law_395 : ([(395, .iadd, 1), (396, .iaload, 1), (397, (.aload_n 0), 1), (398, (.iload 4), 2), (400, (.iconst 3), 1), (401, .iadd, 1), (402, .iaload, 1), (403, (.aload_n 0), 1), (404, (.iload 4), 2), (406, (.iconst 4), 1), (407, .iadd, 1), (408, .iaload, 1), (409, (.invokevirtual 156), 3), (412, (.aload_n 2), 1), (413, (.invokevirtual 150), 3), (416, (.iload 5), 2), (418, (.if_icmp .eq 5), 3), (421, (.iconst 0), 1), (423, (.goto 2359), 3), (426, (.aload_n 1), 1), (427, (.aload_n 0), 1), (428, (.iload 4), 2), (430, (.iconst 1), 1), (431, .iadd, 1), (432, .iaload, 1), (433, (.aload_n 0), 1), (434, (.iload 4), 2), (436, (.iconst 2), 1), (437, .iadd, 1), (438, .iaload, 1), (439, (.invokestatic 157), 3), (442, (.istore 5), 2), (444, (.aload_n 2), 1), (445, (.aload_n 0), 1), (446, (.iload 4), 2), (448, (.iconst 1), 1), (449, .iadd, 1), (450, .iaload, 1), (451, (.aload_n 0), 1), (452, (.iload 4), 2), (454, (.iconst 2), 1), (455, .iadd, 1), (456, .iaload, 1), (457, (.invokevirtual 160), 3), (460, (.aload_n 2), 1), (461, (.invokevirtual 150), 3), (464, (.iload 5), 2), (466, (.if_icmp .eq 5), 3), (469, (.iconst 0), 1), (471, (.goto 2311), 3), (474, (.aload_n 1), 1), (475, (.aload_n 3), 1), (476, (.invokestatic 161), 3), (479, (.istore 5), 2), (481, (.aload_n 2), 1), (482, (.invokevirtual 164), 3), (485, (.istore 6), 2), (487, (.aload_n 2), 1), (488, (.invokevirtual 150), 3), (491, (.iload 5), 2), (493, (.if_icmp .eq 5), 3), (496, (.iconst 0), 1), (498, (.iload 5), 2), (500, (.ifCond .ne 15), 3), (503, (.aload_n 3), 1), (504, (.iconst 0), 1), (505, .laload, 1), (506, (.iload 6), 2), (508, .i2l, 1), (509, .lcmp, 1), (510, (.ifCond .eq 5), 3), (513, (.iconst 0), 1), (515, (.goto 2267), 3), (518, (.aload_n 1), 1), (519, (.invokevirtual 165), 3), (522, (.aload_n 2), 1), (523, (.invokevirtual 168), 3), (526, (.if_icmp .eq 2256), 3), (529, (.iconst 0), 1), (531, (.aload_n 1), 1), (532, (.aload_n 0), 1), (533, (.iload 4), 2), (535, (.iconst 1), 1), (536, .iadd, 1), (537, .iaload, 1), (538, (.aload_n 0), 1), (539, (.iload 4), 2), (541, (.iconst 2), 1), (542, .iadd, 1), (543, .iaload, 1), (544, (.aload_n 0), 1), (545, (.iload 4), 2), (547, (.iconst 3), 1), (548, .iadd, 1), (549, .iaload, 1), (550, (.aload_n 3), 1), (551, (.invokestatic 169), 3), (554, (.istore 5), 2), (556, (.aload_n 2), 1), (557, (.aload_n 0), 1), (558, (.iload 4), 2), (560, (.iconst 1), 1), (561, .iadd, 1), (562, .iaload, 1), (563, (.aload_n 0), 1), (564, (.iload 4), 2), (566, (.iconst 2), 1), (567, .iadd, 1), (568, .iaload, 1), (569, (.aload_n 0), 1), (570, (.iload 4), 2), (572, (.iconst 3), 1), (573, .iadd, 1), (574, .iaload, 1), (575, (.invokevirtual 172), 3), (578, (.istore 6), 2), (580, (.aload_n 2), 1), (581, (.invokevirtual 150), 3), (584, (.iload 5), 2), (586, (.if_icmp .eq 5), 3), (589, (.iconst 0), 1), (591, (.iload 5), 2), (593, (.ifCond .ne 15), 3), (596, (.aload_n 3), 1), (597, (.iconst 0), 1), (598, .laload, 1), (599, (.iload 6), 2), (601, .i2l, 1), (602, .lcmp, 1), (603, (.ifCond .eq 5), 3), (606, (.iconst 0), 1), (608, (.goto 2174), 3), (611, (.aload_n 1), 1), (612, (.aload_n 0), 1), (613, (.iload 4), 2), (615, (.iconst 1), 1), (616, .iadd, 1), (617, .iaload, 1), (618, (.aload_n 0), 1), (619, (.iload 4), 2), (621, (.iconst 2), 1), (622, .iadd, 1), (623, .iaload, 1), (624, (.aload_n 0), 1), (625, (.iload 4), 2), (627, (.iconst 3), 1), (628, .iadd, 1), (629, .iaload, 1), (630, (.aload_n 0), 1), (631, (.iload 4), 2)] : List (Nat × Instr × Nat)).all (fun q => decide (decode code q.1 = .ok q.2)) = true := by decide +kernel
theorem dL_395 : dc code 395 396 .iadd 1 := ⟨dr_at drL_law_395 (i := 0) rfl, rfl⟩
theorem dL_396 : dc code 396 397 .iaload 1 := ⟨dr_at drL_law_395 (i := 1) rfl, rfl⟩
theorem dL_397 : dc code 397 398 (.aload_n 0) 1 := ⟨dr_at drL_law_395 (i := 2) rfl, rfl⟩
theorem dL_398 : dc code 398 400 (.iload 4) 2 := ⟨dr_at drL_law_395 (i := 3) rfl, rfl⟩
theorem dL_400 : dc code 400 401 (.iconst 3) 1 := ⟨dr_at drL_law_395 (i := 4) rfl, rfl⟩
theorem dL_401 : dc code 401 402 .iadd 1 := ⟨dr_at drL_law_395 (i := 5) rfl, rfl⟩
theorem dL_402 : dc code 402 403 .iaload 1 := ⟨dr_at drL_law_395 (i := 6) rfl, rfl⟩
theorem dL_403 : dc code 403 404 (.aload_n 0) 1 := ⟨dr_at drL_law_395 (i := 7) rfl, rfl⟩
theorem dL_404 : dc code 404 406 (.iload 4) 2 := ⟨dr_at drL_law_395 (i := 8) rfl, rfl⟩
theorem dL_406 : dc code 406 407 (.iconst 4) 1 := ⟨dr_at drL_law_395 (i := 9) rfl, rfl⟩
theorem dL_407 : dc code 407 408 .iadd 1 := ⟨dr_at drL_law_395 (i := 10) rfl, rfl⟩
theorem dL_408 : dc code 408 409 .iaload 1 := ⟨dr_at drL_law_395 (i := 11) rfl, rfl⟩
theorem dL_409 : dc code 409 412 (.invokevirtual 156) 3 := ⟨dr_at drL_law_395 (i := 12) rfl, rfl⟩
theorem dL_412 : dc code 412 413 (.aload_n 2) 1 := ⟨dr_at drL_law_395 (i := 13) rfl, rfl⟩
theorem dL_413 : dc code 413 416 (.invokevirtual 150) 3 := ⟨dr_at drL_law_395 (i := 14) rfl, rfl⟩
theorem dL_416 : dc code 416 418 (.iload 5) 2 := ⟨dr_at drL_law_395 (i := 15) rfl, rfl⟩
theorem dL_418 : dc code 418 421 (.if_icmp .eq 5) 3 := ⟨dr_at drL_law_395 (i := 16) rfl, rfl⟩
theorem dL_421 : dc code 421 422 (.iconst 0) 1 := ⟨dr_at drL_law_395 (i := 17) rfl, rfl⟩
theorem dL_423 : dc code 423 426 (.goto 2359) 3 := ⟨dr_at drL_law_395 (i := 18) rfl, rfl⟩
theorem dL_426 : dc code 426 427 (.aload_n 1) 1 := ⟨dr_at drL_law_395 (i := 19) rfl, rfl⟩
theorem dL_427 : dc code 427 428 (.aload_n 0) 1 := ⟨dr_at drL_law_395 (i := 20) rfl, rfl⟩
theorem dL_428 : dc code 428 430 (.iload 4) 2 := ⟨dr_at drL_law_395 (i := 21) rfl, rfl⟩
theorem dL_430 : dc code 430 431 (.iconst 1) 1 := ⟨dr_at drL_law_395 (i := 22) rfl, rfl⟩
theorem dL_431 : dc code 431 432 .iadd 1 := ⟨dr_at drL_law_395 (i := 23) rfl, rfl⟩
theorem dL_432 : dc code 432 433 .iaload 1 := ⟨dr_at drL_law_395 (i := 24) rfl, rfl⟩
theorem dL_433 : dc code 433 434 (.aload_n 0) 1 := ⟨dr_at drL_law_395 (i := 25) rfl, rfl⟩
theorem dL_434 : dc code 434 436 (.iload 4) 2 := ⟨dr_at drL_law_395 (i := 26) rfl, rfl⟩
theorem dL_436 : dc code 436 437 (.iconst 2) 1 := ⟨dr_at drL_law_395 (i := 27) rfl, rfl⟩
theorem dL_437 : dc code 437 438 .iadd 1 := ⟨dr_at drL_law_395 (i := 28) rfl, rfl⟩
theorem dL_438 : dc code 438 439 .iaload 1 := ⟨dr_at drL_law_395 (i := 29) rfl, rfl⟩
theorem dL_439 : dc code 439 442 (.invokestatic 157) 3 := ⟨dr_at drL_law_395 (i := 30) rfl, rfl⟩
theorem dL_442 : dc code 442 444 (.istore 5) 2 := ⟨dr_at drL_law_395 (i := 31) rfl, rfl⟩
theorem dL_444 : dc code 444 445 (.aload_n 2) 1 := ⟨dr_at drL_law_395 (i := 32) rfl, rfl⟩
theorem dL_445 : dc code 445 446 (.aload_n 0) 1 := ⟨dr_at drL_law_395 (i := 33) rfl, rfl⟩
theorem dL_446 : dc code 446 448 (.iload 4) 2 := ⟨dr_at drL_law_395 (i := 34) rfl, rfl⟩
theorem dL_448 : dc code 448 449 (.iconst 1) 1 := ⟨dr_at drL_law_395 (i := 35) rfl, rfl⟩
theorem dL_449 : dc code 449 450 .iadd 1 := ⟨dr_at drL_law_395 (i := 36) rfl, rfl⟩
theorem dL_450 : dc code 450 451 .iaload 1 := ⟨dr_at drL_law_395 (i := 37) rfl, rfl⟩
theorem dL_451 : dc code 451 452 (.aload_n 0) 1 := ⟨dr_at drL_law_395 (i := 38) rfl, rfl⟩
theorem dL_452 : dc code 452 454 (.iload 4) 2 := ⟨dr_at drL_law_395 (i := 39) rfl, rfl⟩
theorem dL_454 : dc code 454 455 (.iconst 2) 1 := ⟨dr_at drL_law_395 (i := 40) rfl, rfl⟩
theorem dL_455 : dc code 455 456 .iadd 1 := ⟨dr_at drL_law_395 (i := 41) rfl, rfl⟩
theorem dL_456 : dc code 456 457 .iaload 1 := ⟨dr_at drL_law_395 (i := 42) rfl, rfl⟩
theorem dL_457 : dc code 457 460 (.invokevirtual 160) 3 := ⟨dr_at drL_law_395 (i := 43) rfl, rfl⟩
theorem dL_460 : dc code 460 461 (.aload_n 2) 1 := ⟨dr_at drL_law_395 (i := 44) rfl, rfl⟩
theorem dL_461 : dc code 461 464 (.invokevirtual 150) 3 := ⟨dr_at drL_law_395 (i := 45) rfl, rfl⟩
theorem dL_464 : dc code 464 466 (.iload 5) 2 := ⟨dr_at drL_law_395 (i := 46) rfl, rfl⟩
theorem dL_466 : dc code 466 469 (.if_icmp .eq 5) 3 := ⟨dr_at drL_law_395 (i := 47) rfl, rfl⟩
theorem dL_469 : dc code 469 470 (.iconst 0) 1 := ⟨dr_at drL_law_395 (i := 48) rfl, rfl⟩
theorem dL_471 : dc code 471 474 (.goto 2311) 3 := ⟨dr_at drL_law_395 (i := 49) rfl, rfl⟩
theorem dL_474 : dc code 474 475 (.aload_n 1) 1 := ⟨dr_at drL_law_395 (i := 50) rfl, rfl⟩
theorem dL_475 : dc code 475 476 (.aload_n 3) 1 := ⟨dr_at drL_law_395 (i := 51) rfl, rfl⟩
theorem dL_476 : dc code 476 479 (.invokestatic 161) 3 := ⟨dr_at drL_law_395 (i := 52) rfl, rfl⟩
theorem dL_479 : dc code 479 481 (.istore 5) 2 := ⟨dr_at drL_law_395 (i := 53) rfl, rfl⟩
theorem dL_481 : dc code 481 482 (.aload_n 2) 1 := ⟨dr_at drL_law_395 (i := 54) rfl, rfl⟩
theorem dL_482 : dc code 482 485 (.invokevirtual 164) 3 := ⟨dr_at drL_law_395 (i := 55) rfl, rfl⟩
theorem dL_485 : dc code 485 487 (.istore 6) 2 := ⟨dr_at drL_law_395 (i := 56) rfl, rfl⟩
theorem dL_487 : dc code 487 488 (.aload_n 2) 1 := ⟨dr_at drL_law_395 (i := 57) rfl, rfl⟩
theorem dL_488 : dc code 488 491 (.invokevirtual 150) 3 := ⟨dr_at drL_law_395 (i := 58) rfl, rfl⟩
theorem dL_491 : dc code 491 493 (.iload 5) 2 := ⟨dr_at drL_law_395 (i := 59) rfl, rfl⟩
theorem dL_493 : dc code 493 496 (.if_icmp .eq 5) 3 := ⟨dr_at drL_law_395 (i := 60) rfl, rfl⟩
theorem dL_496 : dc code 496 497 (.iconst 0) 1 := ⟨dr_at drL_law_395 (i := 61) rfl, rfl⟩
theorem dL_498 : dc code 498 500 (.iload 5) 2 := ⟨dr_at drL_law_395 (i := 62) rfl, rfl⟩
theorem dL_500 : dc code 500 503 (.ifCond .ne 15) 3 := ⟨dr_at drL_law_395 (i := 63) rfl, rfl⟩
theorem dL_503 : dc code 503 504 (.aload_n 3) 1 := ⟨dr_at drL_law_395 (i := 64) rfl, rfl⟩
theorem dL_504 : dc code 504 505 (.iconst 0) 1 := ⟨dr_at drL_law_395 (i := 65) rfl, rfl⟩
theorem dL_505 : dc code 505 506 .laload 1 := ⟨dr_at drL_law_395 (i := 66) rfl, rfl⟩
theorem dL_506 : dc code 506 508 (.iload 6) 2 := ⟨dr_at drL_law_395 (i := 67) rfl, rfl⟩
theorem dL_508 : dc code 508 509 .i2l 1 := ⟨dr_at drL_law_395 (i := 68) rfl, rfl⟩
theorem dL_509 : dc code 509 510 .lcmp 1 := ⟨dr_at drL_law_395 (i := 69) rfl, rfl⟩
theorem dL_510 : dc code 510 513 (.ifCond .eq 5) 3 := ⟨dr_at drL_law_395 (i := 70) rfl, rfl⟩
theorem dL_513 : dc code 513 514 (.iconst 0) 1 := ⟨dr_at drL_law_395 (i := 71) rfl, rfl⟩
theorem dL_515 : dc code 515 518 (.goto 2267) 3 := ⟨dr_at drL_law_395 (i := 72) rfl, rfl⟩
theorem dL_518 : dc code 518 519 (.aload_n 1) 1 := ⟨dr_at drL_law_395 (i := 73) rfl, rfl⟩
theorem dL_519 : dc code 519 522 (.invokevirtual 165) 3 := ⟨dr_at drL_law_395 (i := 74) rfl, rfl⟩
theorem dL_522 : dc code 522 523 (.aload_n 2) 1 := ⟨dr_at drL_law_395 (i := 75) rfl, rfl⟩
theorem dL_523 : dc code 523 526 (.invokevirtual 168) 3 := ⟨dr_at drL_law_395 (i := 76) rfl, rfl⟩
theorem dL_526 : dc code 526 529 (.if_icmp .eq 2256) 3 := ⟨dr_at drL_law_395 (i := 77) rfl, rfl⟩
theorem dL_529 : dc code 529 530 (.iconst 0) 1 := ⟨dr_at drL_law_395 (i := 78) rfl, rfl⟩
theorem dL_531 : dc code 531 532 (.aload_n 1) 1 := ⟨dr_at drL_law_395 (i := 79) rfl, rfl⟩
theorem dL_532 : dc code 532 533 (.aload_n 0) 1 := ⟨dr_at drL_law_395 (i := 80) rfl, rfl⟩
theorem dL_533 : dc code 533 535 (.iload 4) 2 := ⟨dr_at drL_law_395 (i := 81) rfl, rfl⟩
theorem dL_535 : dc code 535 536 (.iconst 1) 1 := ⟨dr_at drL_law_395 (i := 82) rfl, rfl⟩
theorem dL_536 : dc code 536 537 .iadd 1 := ⟨dr_at drL_law_395 (i := 83) rfl, rfl⟩
theorem dL_537 : dc code 537 538 .iaload 1 := ⟨dr_at drL_law_395 (i := 84) rfl, rfl⟩
theorem dL_538 : dc code 538 539 (.aload_n 0) 1 := ⟨dr_at drL_law_395 (i := 85) rfl, rfl⟩
theorem dL_539 : dc code 539 541 (.iload 4) 2 := ⟨dr_at drL_law_395 (i := 86) rfl, rfl⟩
theorem dL_541 : dc code 541 542 (.iconst 2) 1 := ⟨dr_at drL_law_395 (i := 87) rfl, rfl⟩
theorem dL_542 : dc code 542 543 .iadd 1 := ⟨dr_at drL_law_395 (i := 88) rfl, rfl⟩
theorem dL_543 : dc code 543 544 .iaload 1 := ⟨dr_at drL_law_395 (i := 89) rfl, rfl⟩
theorem dL_544 : dc code 544 545 (.aload_n 0) 1 := ⟨dr_at drL_law_395 (i := 90) rfl, rfl⟩
theorem dL_545 : dc code 545 547 (.iload 4) 2 := ⟨dr_at drL_law_395 (i := 91) rfl, rfl⟩
theorem dL_547 : dc code 547 548 (.iconst 3) 1 := ⟨dr_at drL_law_395 (i := 92) rfl, rfl⟩
theorem dL_548 : dc code 548 549 .iadd 1 := ⟨dr_at drL_law_395 (i := 93) rfl, rfl⟩
theorem dL_549 : dc code 549 550 .iaload 1 := ⟨dr_at drL_law_395 (i := 94) rfl, rfl⟩
theorem dL_550 : dc code 550 551 (.aload_n 3) 1 := ⟨dr_at drL_law_395 (i := 95) rfl, rfl⟩
theorem dL_551 : dc code 551 554 (.invokestatic 169) 3 := ⟨dr_at drL_law_395 (i := 96) rfl, rfl⟩
theorem dL_554 : dc code 554 556 (.istore 5) 2 := ⟨dr_at drL_law_395 (i := 97) rfl, rfl⟩
theorem dL_556 : dc code 556 557 (.aload_n 2) 1 := ⟨dr_at drL_law_395 (i := 98) rfl, rfl⟩
theorem dL_557 : dc code 557 558 (.aload_n 0) 1 := ⟨dr_at drL_law_395 (i := 99) rfl, rfl⟩
theorem dL_558 : dc code 558 560 (.iload 4) 2 := ⟨dr_at drL_law_395 (i := 100) rfl, rfl⟩
theorem dL_560 : dc code 560 561 (.iconst 1) 1 := ⟨dr_at drL_law_395 (i := 101) rfl, rfl⟩
theorem dL_561 : dc code 561 562 .iadd 1 := ⟨dr_at drL_law_395 (i := 102) rfl, rfl⟩
theorem dL_562 : dc code 562 563 .iaload 1 := ⟨dr_at drL_law_395 (i := 103) rfl, rfl⟩
theorem dL_563 : dc code 563 564 (.aload_n 0) 1 := ⟨dr_at drL_law_395 (i := 104) rfl, rfl⟩
theorem dL_564 : dc code 564 566 (.iload 4) 2 := ⟨dr_at drL_law_395 (i := 105) rfl, rfl⟩
theorem dL_566 : dc code 566 567 (.iconst 2) 1 := ⟨dr_at drL_law_395 (i := 106) rfl, rfl⟩
theorem dL_567 : dc code 567 568 .iadd 1 := ⟨dr_at drL_law_395 (i := 107) rfl, rfl⟩
theorem dL_568 : dc code 568 569 .iaload 1 := ⟨dr_at drL_law_395 (i := 108) rfl, rfl⟩
theorem dL_569 : dc code 569 570 (.aload_n 0) 1 := ⟨dr_at drL_law_395 (i := 109) rfl, rfl⟩
theorem dL_570 : dc code 570 572 (.iload 4) 2 := ⟨dr_at drL_law_395 (i := 110) rfl, rfl⟩
theorem dL_572 : dc code 572 573 (.iconst 3) 1 := ⟨dr_at drL_law_395 (i := 111) rfl, rfl⟩
theorem dL_573 : dc code 573 574 .iadd 1 := ⟨dr_at drL_law_395 (i := 112) rfl, rfl⟩
theorem dL_574 : dc code 574 575 .iaload 1 := ⟨dr_at drL_law_395 (i := 113) rfl, rfl⟩
theorem dL_575 : dc code 575 578 (.invokevirtual 172) 3 := ⟨dr_at drL_law_395 (i := 114) rfl, rfl⟩
theorem dL_578 : dc code 578 580 (.istore 6) 2 := ⟨dr_at drL_law_395 (i := 115) rfl, rfl⟩
theorem dL_580 : dc code 580 581 (.aload_n 2) 1 := ⟨dr_at drL_law_395 (i := 116) rfl, rfl⟩
theorem dL_581 : dc code 581 584 (.invokevirtual 150) 3 := ⟨dr_at drL_law_395 (i := 117) rfl, rfl⟩
theorem dL_584 : dc code 584 586 (.iload 5) 2 := ⟨dr_at drL_law_395 (i := 118) rfl, rfl⟩
theorem dL_586 : dc code 586 589 (.if_icmp .eq 5) 3 := ⟨dr_at drL_law_395 (i := 119) rfl, rfl⟩
theorem dL_589 : dc code 589 590 (.iconst 0) 1 := ⟨dr_at drL_law_395 (i := 120) rfl, rfl⟩
theorem dL_591 : dc code 591 593 (.iload 5) 2 := ⟨dr_at drL_law_395 (i := 121) rfl, rfl⟩
theorem dL_593 : dc code 593 596 (.ifCond .ne 15) 3 := ⟨dr_at drL_law_395 (i := 122) rfl, rfl⟩
theorem dL_596 : dc code 596 597 (.aload_n 3) 1 := ⟨dr_at drL_law_395 (i := 123) rfl, rfl⟩
theorem dL_597 : dc code 597 598 (.iconst 0) 1 := ⟨dr_at drL_law_395 (i := 124) rfl, rfl⟩
theorem dL_598 : dc code 598 599 .laload 1 := ⟨dr_at drL_law_395 (i := 125) rfl, rfl⟩
theorem dL_599 : dc code 599 601 (.iload 6) 2 := ⟨dr_at drL_law_395 (i := 126) rfl, rfl⟩
theorem dL_601 : dc code 601 602 .i2l 1 := ⟨dr_at drL_law_395 (i := 127) rfl, rfl⟩
theorem dL_602 : dc code 602 603 .lcmp 1 := ⟨dr_at drL_law_395 (i := 128) rfl, rfl⟩
theorem dL_603 : dc code 603 606 (.ifCond .eq 5) 3 := ⟨dr_at drL_law_395 (i := 129) rfl, rfl⟩
theorem dL_606 : dc code 606 607 (.iconst 0) 1 := ⟨dr_at drL_law_395 (i := 130) rfl, rfl⟩
theorem dL_608 : dc code 608 611 (.goto 2174) 3 := ⟨dr_at drL_law_395 (i := 131) rfl, rfl⟩
theorem dL_611 : dc code 611 612 (.aload_n 1) 1 := ⟨dr_at drL_law_395 (i := 132) rfl, rfl⟩
theorem dL_612 : dc code 612 613 (.aload_n 0) 1 := ⟨dr_at drL_law_395 (i := 133) rfl, rfl⟩
theorem dL_613 : dc code 613 615 (.iload 4) 2 := ⟨dr_at drL_law_395 (i := 134) rfl, rfl⟩
theorem dL_615 : dc code 615 616 (.iconst 1) 1 := ⟨dr_at drL_law_395 (i := 135) rfl, rfl⟩
theorem dL_616 : dc code 616 617 .iadd 1 := ⟨dr_at drL_law_395 (i := 136) rfl, rfl⟩
theorem dL_617 : dc code 617 618 .iaload 1 := ⟨dr_at drL_law_395 (i := 137) rfl, rfl⟩
theorem dL_618 : dc code 618 619 (.aload_n 0) 1 := ⟨dr_at drL_law_395 (i := 138) rfl, rfl⟩
theorem dL_619 : dc code 619 621 (.iload 4) 2 := ⟨dr_at drL_law_395 (i := 139) rfl, rfl⟩
theorem dL_621 : dc code 621 622 (.iconst 2) 1 := ⟨dr_at drL_law_395 (i := 140) rfl, rfl⟩
theorem dL_622 : dc code 622 623 .iadd 1 := ⟨dr_at drL_law_395 (i := 141) rfl, rfl⟩
theorem dL_623 : dc code 623 624 .iaload 1 := ⟨dr_at drL_law_395 (i := 142) rfl, rfl⟩
theorem dL_624 : dc code 624 625 (.aload_n 0) 1 := ⟨dr_at drL_law_395 (i := 143) rfl, rfl⟩
theorem dL_625 : dc code 625 627 (.iload 4) 2 := ⟨dr_at drL_law_395 (i := 144) rfl, rfl⟩
theorem dL_627 : dc code 627 628 (.iconst 3) 1 := ⟨dr_at drL_law_395 (i := 145) rfl, rfl⟩
theorem dL_628 : dc code 628 629 .iadd 1 := ⟨dr_at drL_law_395 (i := 146) rfl, rfl⟩
theorem dL_629 : dc code 629 630 .iaload 1 := ⟨dr_at drL_law_395 (i := 147) rfl, rfl⟩
theorem dL_630 : dc code 630 631 (.aload_n 0) 1 := ⟨dr_at drL_law_395 (i := 148) rfl, rfl⟩
theorem dL_631 : dc code 631 633 (.iload 4) 2 := ⟨dr_at drL_law_395 (i := 149) rfl, rfl⟩
theorem drL_law_633 : ([(633, (.iconst 4), 1), (634, .iadd, 1), (635, .iaload, 1), (636, (.aload_n 0), 1), (637, (.iload 4), 2), (639, (.iconst 5), 1), (640, .iadd, 1), (641, .iaload, 1), (642, (.aload_n 0), 1), (643, (.iload 4), 2), (645, (.bipush 6), 2), (647, .iadd, 1), (648, .iaload, 1), (649, (.ifCond .eq 7), 3), (652, (.iconst 1), 1), (653, (.goto 4), 3), (656, (.iconst 0), 1), (657, (.aload_n 3), 1), (658, (.invokestatic 173), 3), (661, (.istore 5), 2), (663, (.aload_n 2), 1), (664, (.aload_n 0), 1), (665, (.iload 4), 2), (667, (.iconst 1), 1), (668, .iadd, 1), (669, .iaload, 1), (670, (.aload_n 0), 1), (671, (.iload 4), 2), (673, (.iconst 2), 1), (674, .iadd, 1), (675, .iaload, 1), (676, (.aload_n 0), 1), (677, (.iload 4), 2), (679, (.iconst 3), 1), (680, .iadd, 1), (681, .iaload, 1), (682, (.aload_n 0), 1), (683, (.iload 4), 2), (685, (.iconst 4), 1), (686, .iadd, 1), (687, .iaload, 1), (688, (.aload_n 0), 1), (689, (.iload 4), 2), (691, (.iconst 5), 1), (692, .iadd, 1), (693, .iaload, 1), (694, (.aload_n 0), 1), (695, (.iload 4), 2), (697, (.bipush 6), 2), (699, .iadd, 1), (700, .iaload, 1), (701, (.ifCond .eq 7), 3), (704, (.iconst 1), 1), (705, (.goto 4), 3), (708, (.iconst 0), 1), (709, (.invokevirtual 176), 3), (712, (.lstore 6), 2), (714, (.aload_n 2), 1), (715, (.invokevirtual 150), 3), (718, (.iload 5), 2), (720, (.if_icmp .eq 5), 3), (723, (.iconst 0), 1), (725, (.iload 5), 2), (727, (.ifCond .ne 14), 3), (730, (.aload_n 3), 1), (731, (.iconst 0), 1), (732, .laload, 1), (733, (.lload 6), 2), (735, .lcmp, 1), (736, (.ifCond .eq 5), 3), (739, (.iconst 0), 1), (741, (.goto 2041), 3), (744, (.aload_n 1), 1), (745, (.aload_n 0), 1), (746, (.iload 4), 2), (748, (.iconst 1), 1), (749, .iadd, 1), (750, .iaload, 1), (751, (.aload_n 0), 1), (752, (.iload 4), 2), (754, (.iconst 2), 1), (755, .iadd, 1), (756, .iaload, 1), (757, (.aload_n 3), 1), (758, (.invokestatic 177), 3), (761, (.istore 5), 2), (763, (.aload_n 2), 1), (764, (.aload_n 0), 1), (765, (.iload 4), 2), (767, (.iconst 1), 1), (768, .iadd, 1), (769, .iaload, 1), (770, (.aload_n 0), 1), (771, (.iload 4), 2), (773, (.iconst 2), 1), (774, .iadd, 1), (775, .iaload, 1), (776, (.invokevirtual 180), 3), (779, (.istore 6), 2), (781, (.aload_n 2), 1), (782, (.invokevirtual 150), 3), (785, (.iload 5), 2), (787, (.if_icmp .eq 5), 3), (790, (.iconst 0), 1), (792, (.iload 5), 2), (794, (.ifCond .ne 22), 3), (797, (.aload_n 3), 1), (798, (.iconst 0), 1), (799, .laload, 1), (800, (.iload 6), 2), (802, (.ifCond .eq 7), 3), (805, (.lconst 1), 1), (806, (.goto 4), 3), (809, (.lconst 0), 1), (810, .lcmp, 1), (811, (.ifCond .eq 5), 3), (814, (.iconst 0), 1), (816, (.goto 1966), 3), (819, (.aload_n 1), 1), (820, (.aload_n 0), 1), (821, (.iload 4), 2), (823, (.iconst 1), 1), (824, .iadd, 1), (825, .iaload, 1), (826, (.aload_n 0), 1), (827, (.iload 4), 2), (829, (.iconst 2), 1), (830, .iadd, 1), (831, .iaload, 1), (832, (.aload_n 3), 1), (833, (.invokestatic 181), 3), (836, (.istore 5), 2), (838, (.aload_n 2), 1), (839, (.aload_n 0), 1), (840, (.iload 4), 2), (842, (.iconst 1), 1), (843, .iadd, 1), (844, .iaload, 1), (845, (.aload_n 0), 1), (846, (.iload 4), 2), (848, (.iconst 2), 1), (849, .iadd, 1), (850, .iaload, 1), (851, (.invokevirtual 183), 3), (854, (.istore 6), 2), (856, (.aload_n 2), 1), (857, (.invokevirtual 150), 3), (860, (.iload 5), 2), (862, (.if_icmp .eq 5), 3), (865, (.iconst 0), 1)] : List (Nat × Instr × Nat)).all (fun q => decide (decode code q.1 = .ok q.2)) = true := by decide +kernel
theorem dL_633 : dc code 633 634 (.iconst 4) 1 := ⟨dr_at drL_law_633 (i := 0) rfl, rfl⟩
theorem dL_634 : dc code 634 635 .iadd 1 := ⟨dr_at drL_law_633 (i := 1) rfl, rfl⟩
theorem dL_635 : dc code 635 636 .iaload 1 := ⟨dr_at drL_law_633 (i := 2) rfl, rfl⟩
theorem dL_636 : dc code 636 637 (.aload_n 0) 1 := ⟨dr_at drL_law_633 (i := 3) rfl, rfl⟩
theorem dL_637 : dc code 637 639 (.iload 4) 2 := ⟨dr_at drL_law_633 (i := 4) rfl, rfl⟩
theorem dL_639 : dc code 639 640 (.iconst 5) 1 := ⟨dr_at drL_law_633 (i := 5) rfl, rfl⟩
theorem dL_640 : dc code 640 641 .iadd 1 := ⟨dr_at drL_law_633 (i := 6) rfl, rfl⟩
theorem dL_641 : dc code 641 642 .iaload 1 := ⟨dr_at drL_law_633 (i := 7) rfl, rfl⟩
theorem dL_642 : dc code 642 643 (.aload_n 0) 1 := ⟨dr_at drL_law_633 (i := 8) rfl, rfl⟩
theorem dL_643 : dc code 643 645 (.iload 4) 2 := ⟨dr_at drL_law_633 (i := 9) rfl, rfl⟩
theorem dL_645 : dc code 645 647 (.bipush 6) 2 := ⟨dr_at drL_law_633 (i := 10) rfl, rfl⟩
theorem dL_647 : dc code 647 648 .iadd 1 := ⟨dr_at drL_law_633 (i := 11) rfl, rfl⟩
theorem dL_648 : dc code 648 649 .iaload 1 := ⟨dr_at drL_law_633 (i := 12) rfl, rfl⟩
theorem dL_649 : dc code 649 652 (.ifCond .eq 7) 3 := ⟨dr_at drL_law_633 (i := 13) rfl, rfl⟩
theorem dL_652 : dc code 652 653 (.iconst 1) 1 := ⟨dr_at drL_law_633 (i := 14) rfl, rfl⟩
theorem dL_653 : dc code 653 656 (.goto 4) 3 := ⟨dr_at drL_law_633 (i := 15) rfl, rfl⟩
theorem dL_656 : dc code 656 657 (.iconst 0) 1 := ⟨dr_at drL_law_633 (i := 16) rfl, rfl⟩
theorem dL_657 : dc code 657 658 (.aload_n 3) 1 := ⟨dr_at drL_law_633 (i := 17) rfl, rfl⟩
theorem dL_658 : dc code 658 661 (.invokestatic 173) 3 := ⟨dr_at drL_law_633 (i := 18) rfl, rfl⟩
theorem dL_661 : dc code 661 663 (.istore 5) 2 := ⟨dr_at drL_law_633 (i := 19) rfl, rfl⟩
theorem dL_663 : dc code 663 664 (.aload_n 2) 1 := ⟨dr_at drL_law_633 (i := 20) rfl, rfl⟩
theorem dL_664 : dc code 664 665 (.aload_n 0) 1 := ⟨dr_at drL_law_633 (i := 21) rfl, rfl⟩
theorem dL_665 : dc code 665 667 (.iload 4) 2 := ⟨dr_at drL_law_633 (i := 22) rfl, rfl⟩
theorem dL_667 : dc code 667 668 (.iconst 1) 1 := ⟨dr_at drL_law_633 (i := 23) rfl, rfl⟩
theorem dL_668 : dc code 668 669 .iadd 1 := ⟨dr_at drL_law_633 (i := 24) rfl, rfl⟩
theorem dL_669 : dc code 669 670 .iaload 1 := ⟨dr_at drL_law_633 (i := 25) rfl, rfl⟩
theorem dL_670 : dc code 670 671 (.aload_n 0) 1 := ⟨dr_at drL_law_633 (i := 26) rfl, rfl⟩
theorem dL_671 : dc code 671 673 (.iload 4) 2 := ⟨dr_at drL_law_633 (i := 27) rfl, rfl⟩
theorem dL_673 : dc code 673 674 (.iconst 2) 1 := ⟨dr_at drL_law_633 (i := 28) rfl, rfl⟩
theorem dL_674 : dc code 674 675 .iadd 1 := ⟨dr_at drL_law_633 (i := 29) rfl, rfl⟩
theorem dL_675 : dc code 675 676 .iaload 1 := ⟨dr_at drL_law_633 (i := 30) rfl, rfl⟩
theorem dL_676 : dc code 676 677 (.aload_n 0) 1 := ⟨dr_at drL_law_633 (i := 31) rfl, rfl⟩
theorem dL_677 : dc code 677 679 (.iload 4) 2 := ⟨dr_at drL_law_633 (i := 32) rfl, rfl⟩
theorem dL_679 : dc code 679 680 (.iconst 3) 1 := ⟨dr_at drL_law_633 (i := 33) rfl, rfl⟩
theorem dL_680 : dc code 680 681 .iadd 1 := ⟨dr_at drL_law_633 (i := 34) rfl, rfl⟩
theorem dL_681 : dc code 681 682 .iaload 1 := ⟨dr_at drL_law_633 (i := 35) rfl, rfl⟩
theorem dL_682 : dc code 682 683 (.aload_n 0) 1 := ⟨dr_at drL_law_633 (i := 36) rfl, rfl⟩
theorem dL_683 : dc code 683 685 (.iload 4) 2 := ⟨dr_at drL_law_633 (i := 37) rfl, rfl⟩
theorem dL_685 : dc code 685 686 (.iconst 4) 1 := ⟨dr_at drL_law_633 (i := 38) rfl, rfl⟩
theorem dL_686 : dc code 686 687 .iadd 1 := ⟨dr_at drL_law_633 (i := 39) rfl, rfl⟩
theorem dL_687 : dc code 687 688 .iaload 1 := ⟨dr_at drL_law_633 (i := 40) rfl, rfl⟩
theorem dL_688 : dc code 688 689 (.aload_n 0) 1 := ⟨dr_at drL_law_633 (i := 41) rfl, rfl⟩
theorem dL_689 : dc code 689 691 (.iload 4) 2 := ⟨dr_at drL_law_633 (i := 42) rfl, rfl⟩
theorem dL_691 : dc code 691 692 (.iconst 5) 1 := ⟨dr_at drL_law_633 (i := 43) rfl, rfl⟩
theorem dL_692 : dc code 692 693 .iadd 1 := ⟨dr_at drL_law_633 (i := 44) rfl, rfl⟩
theorem dL_693 : dc code 693 694 .iaload 1 := ⟨dr_at drL_law_633 (i := 45) rfl, rfl⟩
theorem dL_694 : dc code 694 695 (.aload_n 0) 1 := ⟨dr_at drL_law_633 (i := 46) rfl, rfl⟩
theorem dL_695 : dc code 695 697 (.iload 4) 2 := ⟨dr_at drL_law_633 (i := 47) rfl, rfl⟩
theorem dL_697 : dc code 697 699 (.bipush 6) 2 := ⟨dr_at drL_law_633 (i := 48) rfl, rfl⟩
theorem dL_699 : dc code 699 700 .iadd 1 := ⟨dr_at drL_law_633 (i := 49) rfl, rfl⟩
theorem dL_700 : dc code 700 701 .iaload 1 := ⟨dr_at drL_law_633 (i := 50) rfl, rfl⟩
theorem dL_701 : dc code 701 704 (.ifCond .eq 7) 3 := ⟨dr_at drL_law_633 (i := 51) rfl, rfl⟩
theorem dL_704 : dc code 704 705 (.iconst 1) 1 := ⟨dr_at drL_law_633 (i := 52) rfl, rfl⟩
theorem dL_705 : dc code 705 708 (.goto 4) 3 := ⟨dr_at drL_law_633 (i := 53) rfl, rfl⟩
theorem dL_708 : dc code 708 709 (.iconst 0) 1 := ⟨dr_at drL_law_633 (i := 54) rfl, rfl⟩
theorem dL_709 : dc code 709 712 (.invokevirtual 176) 3 := ⟨dr_at drL_law_633 (i := 55) rfl, rfl⟩
theorem dL_712 : dc code 712 714 (.lstore 6) 2 := ⟨dr_at drL_law_633 (i := 56) rfl, rfl⟩
theorem dL_714 : dc code 714 715 (.aload_n 2) 1 := ⟨dr_at drL_law_633 (i := 57) rfl, rfl⟩
theorem dL_715 : dc code 715 718 (.invokevirtual 150) 3 := ⟨dr_at drL_law_633 (i := 58) rfl, rfl⟩
theorem dL_718 : dc code 718 720 (.iload 5) 2 := ⟨dr_at drL_law_633 (i := 59) rfl, rfl⟩
theorem dL_720 : dc code 720 723 (.if_icmp .eq 5) 3 := ⟨dr_at drL_law_633 (i := 60) rfl, rfl⟩
theorem dL_723 : dc code 723 724 (.iconst 0) 1 := ⟨dr_at drL_law_633 (i := 61) rfl, rfl⟩
theorem dL_725 : dc code 725 727 (.iload 5) 2 := ⟨dr_at drL_law_633 (i := 62) rfl, rfl⟩
theorem dL_727 : dc code 727 730 (.ifCond .ne 14) 3 := ⟨dr_at drL_law_633 (i := 63) rfl, rfl⟩
theorem dL_730 : dc code 730 731 (.aload_n 3) 1 := ⟨dr_at drL_law_633 (i := 64) rfl, rfl⟩
theorem dL_731 : dc code 731 732 (.iconst 0) 1 := ⟨dr_at drL_law_633 (i := 65) rfl, rfl⟩
theorem dL_732 : dc code 732 733 .laload 1 := ⟨dr_at drL_law_633 (i := 66) rfl, rfl⟩
theorem dL_733 : dc code 733 735 (.lload 6) 2 := ⟨dr_at drL_law_633 (i := 67) rfl, rfl⟩
theorem dL_735 : dc code 735 736 .lcmp 1 := ⟨dr_at drL_law_633 (i := 68) rfl, rfl⟩
theorem dL_736 : dc code 736 739 (.ifCond .eq 5) 3 := ⟨dr_at drL_law_633 (i := 69) rfl, rfl⟩
theorem dL_739 : dc code 739 740 (.iconst 0) 1 := ⟨dr_at drL_law_633 (i := 70) rfl, rfl⟩
theorem dL_741 : dc code 741 744 (.goto 2041) 3 := ⟨dr_at drL_law_633 (i := 71) rfl, rfl⟩
theorem dL_744 : dc code 744 745 (.aload_n 1) 1 := ⟨dr_at drL_law_633 (i := 72) rfl, rfl⟩
theorem dL_745 : dc code 745 746 (.aload_n 0) 1 := ⟨dr_at drL_law_633 (i := 73) rfl, rfl⟩
theorem dL_746 : dc code 746 748 (.iload 4) 2 := ⟨dr_at drL_law_633 (i := 74) rfl, rfl⟩
theorem dL_748 : dc code 748 749 (.iconst 1) 1 := ⟨dr_at drL_law_633 (i := 75) rfl, rfl⟩
theorem dL_749 : dc code 749 750 .iadd 1 := ⟨dr_at drL_law_633 (i := 76) rfl, rfl⟩
theorem dL_750 : dc code 750 751 .iaload 1 := ⟨dr_at drL_law_633 (i := 77) rfl, rfl⟩
theorem dL_751 : dc code 751 752 (.aload_n 0) 1 := ⟨dr_at drL_law_633 (i := 78) rfl, rfl⟩
theorem dL_752 : dc code 752 754 (.iload 4) 2 := ⟨dr_at drL_law_633 (i := 79) rfl, rfl⟩
theorem dL_754 : dc code 754 755 (.iconst 2) 1 := ⟨dr_at drL_law_633 (i := 80) rfl, rfl⟩
theorem dL_755 : dc code 755 756 .iadd 1 := ⟨dr_at drL_law_633 (i := 81) rfl, rfl⟩
theorem dL_756 : dc code 756 757 .iaload 1 := ⟨dr_at drL_law_633 (i := 82) rfl, rfl⟩
theorem dL_757 : dc code 757 758 (.aload_n 3) 1 := ⟨dr_at drL_law_633 (i := 83) rfl, rfl⟩
theorem dL_758 : dc code 758 761 (.invokestatic 177) 3 := ⟨dr_at drL_law_633 (i := 84) rfl, rfl⟩
theorem dL_761 : dc code 761 763 (.istore 5) 2 := ⟨dr_at drL_law_633 (i := 85) rfl, rfl⟩
theorem dL_763 : dc code 763 764 (.aload_n 2) 1 := ⟨dr_at drL_law_633 (i := 86) rfl, rfl⟩
theorem dL_764 : dc code 764 765 (.aload_n 0) 1 := ⟨dr_at drL_law_633 (i := 87) rfl, rfl⟩
theorem dL_765 : dc code 765 767 (.iload 4) 2 := ⟨dr_at drL_law_633 (i := 88) rfl, rfl⟩
theorem dL_767 : dc code 767 768 (.iconst 1) 1 := ⟨dr_at drL_law_633 (i := 89) rfl, rfl⟩
theorem dL_768 : dc code 768 769 .iadd 1 := ⟨dr_at drL_law_633 (i := 90) rfl, rfl⟩
theorem dL_769 : dc code 769 770 .iaload 1 := ⟨dr_at drL_law_633 (i := 91) rfl, rfl⟩
theorem dL_770 : dc code 770 771 (.aload_n 0) 1 := ⟨dr_at drL_law_633 (i := 92) rfl, rfl⟩
theorem dL_771 : dc code 771 773 (.iload 4) 2 := ⟨dr_at drL_law_633 (i := 93) rfl, rfl⟩
theorem dL_773 : dc code 773 774 (.iconst 2) 1 := ⟨dr_at drL_law_633 (i := 94) rfl, rfl⟩
theorem dL_774 : dc code 774 775 .iadd 1 := ⟨dr_at drL_law_633 (i := 95) rfl, rfl⟩
theorem dL_775 : dc code 775 776 .iaload 1 := ⟨dr_at drL_law_633 (i := 96) rfl, rfl⟩
theorem dL_776 : dc code 776 779 (.invokevirtual 180) 3 := ⟨dr_at drL_law_633 (i := 97) rfl, rfl⟩
theorem dL_779 : dc code 779 781 (.istore 6) 2 := ⟨dr_at drL_law_633 (i := 98) rfl, rfl⟩
theorem dL_781 : dc code 781 782 (.aload_n 2) 1 := ⟨dr_at drL_law_633 (i := 99) rfl, rfl⟩
theorem dL_782 : dc code 782 785 (.invokevirtual 150) 3 := ⟨dr_at drL_law_633 (i := 100) rfl, rfl⟩
theorem dL_785 : dc code 785 787 (.iload 5) 2 := ⟨dr_at drL_law_633 (i := 101) rfl, rfl⟩
theorem dL_787 : dc code 787 790 (.if_icmp .eq 5) 3 := ⟨dr_at drL_law_633 (i := 102) rfl, rfl⟩
theorem dL_790 : dc code 790 791 (.iconst 0) 1 := ⟨dr_at drL_law_633 (i := 103) rfl, rfl⟩
theorem dL_792 : dc code 792 794 (.iload 5) 2 := ⟨dr_at drL_law_633 (i := 104) rfl, rfl⟩
theorem dL_794 : dc code 794 797 (.ifCond .ne 22) 3 := ⟨dr_at drL_law_633 (i := 105) rfl, rfl⟩
theorem dL_797 : dc code 797 798 (.aload_n 3) 1 := ⟨dr_at drL_law_633 (i := 106) rfl, rfl⟩
theorem dL_798 : dc code 798 799 (.iconst 0) 1 := ⟨dr_at drL_law_633 (i := 107) rfl, rfl⟩
theorem dL_799 : dc code 799 800 .laload 1 := ⟨dr_at drL_law_633 (i := 108) rfl, rfl⟩
theorem dL_800 : dc code 800 802 (.iload 6) 2 := ⟨dr_at drL_law_633 (i := 109) rfl, rfl⟩
theorem dL_802 : dc code 802 805 (.ifCond .eq 7) 3 := ⟨dr_at drL_law_633 (i := 110) rfl, rfl⟩
theorem dL_805 : dc code 805 806 (.lconst 1) 1 := ⟨dr_at drL_law_633 (i := 111) rfl, rfl⟩
theorem dL_806 : dc code 806 809 (.goto 4) 3 := ⟨dr_at drL_law_633 (i := 112) rfl, rfl⟩
theorem dL_809 : dc code 809 810 (.lconst 0) 1 := ⟨dr_at drL_law_633 (i := 113) rfl, rfl⟩
theorem dL_810 : dc code 810 811 .lcmp 1 := ⟨dr_at drL_law_633 (i := 114) rfl, rfl⟩
theorem dL_811 : dc code 811 814 (.ifCond .eq 5) 3 := ⟨dr_at drL_law_633 (i := 115) rfl, rfl⟩
theorem dL_814 : dc code 814 815 (.iconst 0) 1 := ⟨dr_at drL_law_633 (i := 116) rfl, rfl⟩
theorem dL_816 : dc code 816 819 (.goto 1966) 3 := ⟨dr_at drL_law_633 (i := 117) rfl, rfl⟩
theorem dL_819 : dc code 819 820 (.aload_n 1) 1 := ⟨dr_at drL_law_633 (i := 118) rfl, rfl⟩
theorem dL_820 : dc code 820 821 (.aload_n 0) 1 := ⟨dr_at drL_law_633 (i := 119) rfl, rfl⟩
theorem dL_821 : dc code 821 823 (.iload 4) 2 := ⟨dr_at drL_law_633 (i := 120) rfl, rfl⟩
theorem dL_823 : dc code 823 824 (.iconst 1) 1 := ⟨dr_at drL_law_633 (i := 121) rfl, rfl⟩
theorem dL_824 : dc code 824 825 .iadd 1 := ⟨dr_at drL_law_633 (i := 122) rfl, rfl⟩
theorem dL_825 : dc code 825 826 .iaload 1 := ⟨dr_at drL_law_633 (i := 123) rfl, rfl⟩
theorem dL_826 : dc code 826 827 (.aload_n 0) 1 := ⟨dr_at drL_law_633 (i := 124) rfl, rfl⟩
theorem dL_827 : dc code 827 829 (.iload 4) 2 := ⟨dr_at drL_law_633 (i := 125) rfl, rfl⟩
theorem dL_829 : dc code 829 830 (.iconst 2) 1 := ⟨dr_at drL_law_633 (i := 126) rfl, rfl⟩
theorem dL_830 : dc code 830 831 .iadd 1 := ⟨dr_at drL_law_633 (i := 127) rfl, rfl⟩
theorem dL_831 : dc code 831 832 .iaload 1 := ⟨dr_at drL_law_633 (i := 128) rfl, rfl⟩
theorem dL_832 : dc code 832 833 (.aload_n 3) 1 := ⟨dr_at drL_law_633 (i := 129) rfl, rfl⟩
theorem dL_833 : dc code 833 836 (.invokestatic 181) 3 := ⟨dr_at drL_law_633 (i := 130) rfl, rfl⟩
theorem dL_836 : dc code 836 838 (.istore 5) 2 := ⟨dr_at drL_law_633 (i := 131) rfl, rfl⟩
theorem dL_838 : dc code 838 839 (.aload_n 2) 1 := ⟨dr_at drL_law_633 (i := 132) rfl, rfl⟩
theorem dL_839 : dc code 839 840 (.aload_n 0) 1 := ⟨dr_at drL_law_633 (i := 133) rfl, rfl⟩
theorem dL_840 : dc code 840 842 (.iload 4) 2 := ⟨dr_at drL_law_633 (i := 134) rfl, rfl⟩
theorem dL_842 : dc code 842 843 (.iconst 1) 1 := ⟨dr_at drL_law_633 (i := 135) rfl, rfl⟩
theorem dL_843 : dc code 843 844 .iadd 1 := ⟨dr_at drL_law_633 (i := 136) rfl, rfl⟩
theorem dL_844 : dc code 844 845 .iaload 1 := ⟨dr_at drL_law_633 (i := 137) rfl, rfl⟩
theorem dL_845 : dc code 845 846 (.aload_n 0) 1 := ⟨dr_at drL_law_633 (i := 138) rfl, rfl⟩
theorem dL_846 : dc code 846 848 (.iload 4) 2 := ⟨dr_at drL_law_633 (i := 139) rfl, rfl⟩
theorem dL_848 : dc code 848 849 (.iconst 2) 1 := ⟨dr_at drL_law_633 (i := 140) rfl, rfl⟩
theorem dL_849 : dc code 849 850 .iadd 1 := ⟨dr_at drL_law_633 (i := 141) rfl, rfl⟩
theorem dL_850 : dc code 850 851 .iaload 1 := ⟨dr_at drL_law_633 (i := 142) rfl, rfl⟩
theorem dL_851 : dc code 851 854 (.invokevirtual 183) 3 := ⟨dr_at drL_law_633 (i := 143) rfl, rfl⟩
theorem dL_854 : dc code 854 856 (.istore 6) 2 := ⟨dr_at drL_law_633 (i := 144) rfl, rfl⟩
theorem dL_856 : dc code 856 857 (.aload_n 2) 1 := ⟨dr_at drL_law_633 (i := 145) rfl, rfl⟩
theorem dL_857 : dc code 857 860 (.invokevirtual 150) 3 := ⟨dr_at drL_law_633 (i := 146) rfl, rfl⟩
theorem dL_860 : dc code 860 862 (.iload 5) 2 := ⟨dr_at drL_law_633 (i := 147) rfl, rfl⟩
theorem dL_862 : dc code 862 865 (.if_icmp .eq 5) 3 := ⟨dr_at drL_law_633 (i := 148) rfl, rfl⟩
theorem dL_865 : dc code 865 866 (.iconst 0) 1 := ⟨dr_at drL_law_633 (i := 149) rfl, rfl⟩
theorem drL_law_867 : ([(867, (.iload 5), 2), (869, (.ifCond .ne 15), 3), (872, (.aload_n 3), 1), (873, (.iconst 0), 1), (874, .laload, 1), (875, (.iload 6), 2), (877, .i2l, 1), (878, .lcmp, 1), (879, (.ifCond .eq 5), 3), (882, (.iconst 0), 1), (884, (.goto 1898), 3), (887, (.aload_n 1), 1), (888, (.aload_n 0), 1), (889, (.iload 4), 2), (891, (.iconst 1), 1), (892, .iadd, 1), (893, .iaload, 1), (894, (.aload_n 0), 1), (895, (.iload 4), 2), (897, (.iconst 2), 1), (898, .iadd, 1), (899, .iaload, 1), (900, (.aload_n 0), 1), (901, (.iload 4), 2), (903, (.iconst 3), 1), (904, .iadd, 1), (905, .iaload, 1), (906, (.aload_n 3), 1), (907, (.invokestatic 184), 3), (910, (.istore 5), 2), (912, (.aload_n 2), 1), (913, (.aload_n 0), 1), (914, (.iload 4), 2), (916, (.iconst 1), 1), (917, .iadd, 1), (918, .iaload, 1), (919, (.aload_n 0), 1), (920, (.iload 4), 2), (922, (.iconst 2), 1), (923, .iadd, 1), (924, .iaload, 1), (925, (.aload_n 0), 1), (926, (.iload 4), 2), (928, (.iconst 3), 1), (929, .iadd, 1), (930, .iaload, 1), (931, (.invokevirtual 186), 3), (934, (.istore 6), 2), (936, (.aload_n 2), 1), (937, (.invokevirtual 150), 3), (940, (.iload 5), 2), (942, (.if_icmp .eq 5), 3), (945, (.iconst 0), 1), (947, (.iload 5), 2), (949, (.ifCond .ne 15), 3), (952, (.aload_n 3), 1), (953, (.iconst 0), 1), (954, .laload, 1), (955, (.iload 6), 2), (957, .i2l, 1), (958, .lcmp, 1), (959, (.ifCond .eq 5), 3), (962, (.iconst 0), 1), (964, (.goto 1818), 3), (967, (.aload_n 1), 1), (968, (.aload_n 0), 1), (969, (.iload 4), 2), (971, (.iconst 1), 1), (972, .iadd, 1), (973, .iaload, 1), (974, (.aload_n 0), 1), (975, (.iload 4), 2), (977, (.iconst 2), 1), (978, .iadd, 1), (979, .iaload, 1), (980, (.aload_n 0), 1), (981, (.iload 4), 2), (983, (.iconst 3), 1), (984, .iadd, 1), (985, .iaload, 1), (986, (.aload_n 0), 1), (987, (.iload 4), 2), (989, (.iconst 4), 1), (990, .iadd, 1), (991, .iaload, 1), (992, (.ifCond .eq 7), 3), (995, (.iconst 1), 1), (996, (.goto 4), 3), (999, (.iconst 0), 1), (1000, (.aload_n 3), 1), (1001, (.invokestatic 187), 3), (1004, (.istore 5), 2), (1006, (.aload_n 2), 1), (1007, (.aload_n 0), 1), (1008, (.iload 4), 2), (1010, (.iconst 1), 1), (1011, .iadd, 1), (1012, .iaload, 1), (1013, (.aload_n 0), 1), (1014, (.iload 4), 2), (1016, (.iconst 2), 1), (1017, .iadd, 1), (1018, .iaload, 1), (1019, (.aload_n 0), 1), (1020, (.iload 4), 2), (1022, (.iconst 3), 1), (1023, .iadd, 1), (1024, .iaload, 1), (1025, (.aload_n 0), 1), (1026, (.iload 4), 2), (1028, (.iconst 4), 1), (1029, .iadd, 1), (1030, .iaload, 1), (1031, (.ifCond .eq 7), 3), (1034, (.iconst 1), 1), (1035, (.goto 4), 3), (1038, (.iconst 0), 1), (1039, (.invokevirtual 190), 3), (1042, (.lstore 6), 2), (1044, (.aload_n 2), 1), (1045, (.invokevirtual 150), 3), (1048, (.iload 5), 2), (1050, (.if_icmp .eq 5), 3), (1053, (.iconst 0), 1), (1055, (.iload 5), 2), (1057, (.ifCond .ne 14), 3), (1060, (.aload_n 3), 1), (1061, (.iconst 0), 1), (1062, .laload, 1), (1063, (.lload 6), 2), (1065, .lcmp, 1), (1066, (.ifCond .eq 5), 3), (1069, (.iconst 0), 1), (1071, (.goto 1711), 3), (1074, (.aload_n 1), 1), (1075, (.aload_n 0), 1), (1076, (.iload 4), 2), (1078, (.iconst 1), 1), (1079, .iadd, 1), (1080, .iaload, 1), (1081, (.aload_n 0), 1), (1082, (.iload 4), 2), (1084, (.iconst 2), 1), (1085, .iadd, 1), (1086, .iaload, 1), (1087, (.ifCond .eq 7), 3), (1090, (.iconst 1), 1), (1091, (.goto 4), 3), (1094, (.iconst 0), 1), (1095, (.aload_n 3), 1)] : List (Nat × Instr × Nat)).all (fun q => decide (decode code q.1 = .ok q.2)) = true := by decide +kernel
theorem dL_867 : dc code 867 869 (.iload 5) 2 := ⟨dr_at drL_law_867 (i := 0) rfl, rfl⟩
theorem dL_869 : dc code 869 872 (.ifCond .ne 15) 3 := ⟨dr_at drL_law_867 (i := 1) rfl, rfl⟩
theorem dL_872 : dc code 872 873 (.aload_n 3) 1 := ⟨dr_at drL_law_867 (i := 2) rfl, rfl⟩
theorem dL_873 : dc code 873 874 (.iconst 0) 1 := ⟨dr_at drL_law_867 (i := 3) rfl, rfl⟩
theorem dL_874 : dc code 874 875 .laload 1 := ⟨dr_at drL_law_867 (i := 4) rfl, rfl⟩
theorem dL_875 : dc code 875 877 (.iload 6) 2 := ⟨dr_at drL_law_867 (i := 5) rfl, rfl⟩
theorem dL_877 : dc code 877 878 .i2l 1 := ⟨dr_at drL_law_867 (i := 6) rfl, rfl⟩
theorem dL_878 : dc code 878 879 .lcmp 1 := ⟨dr_at drL_law_867 (i := 7) rfl, rfl⟩
theorem dL_879 : dc code 879 882 (.ifCond .eq 5) 3 := ⟨dr_at drL_law_867 (i := 8) rfl, rfl⟩
theorem dL_882 : dc code 882 883 (.iconst 0) 1 := ⟨dr_at drL_law_867 (i := 9) rfl, rfl⟩
theorem dL_884 : dc code 884 887 (.goto 1898) 3 := ⟨dr_at drL_law_867 (i := 10) rfl, rfl⟩
theorem dL_887 : dc code 887 888 (.aload_n 1) 1 := ⟨dr_at drL_law_867 (i := 11) rfl, rfl⟩
theorem dL_888 : dc code 888 889 (.aload_n 0) 1 := ⟨dr_at drL_law_867 (i := 12) rfl, rfl⟩
theorem dL_889 : dc code 889 891 (.iload 4) 2 := ⟨dr_at drL_law_867 (i := 13) rfl, rfl⟩
theorem dL_891 : dc code 891 892 (.iconst 1) 1 := ⟨dr_at drL_law_867 (i := 14) rfl, rfl⟩
theorem dL_892 : dc code 892 893 .iadd 1 := ⟨dr_at drL_law_867 (i := 15) rfl, rfl⟩
theorem dL_893 : dc code 893 894 .iaload 1 := ⟨dr_at drL_law_867 (i := 16) rfl, rfl⟩
theorem dL_894 : dc code 894 895 (.aload_n 0) 1 := ⟨dr_at drL_law_867 (i := 17) rfl, rfl⟩
theorem dL_895 : dc code 895 897 (.iload 4) 2 := ⟨dr_at drL_law_867 (i := 18) rfl, rfl⟩
theorem dL_897 : dc code 897 898 (.iconst 2) 1 := ⟨dr_at drL_law_867 (i := 19) rfl, rfl⟩
theorem dL_898 : dc code 898 899 .iadd 1 := ⟨dr_at drL_law_867 (i := 20) rfl, rfl⟩
theorem dL_899 : dc code 899 900 .iaload 1 := ⟨dr_at drL_law_867 (i := 21) rfl, rfl⟩
theorem dL_900 : dc code 900 901 (.aload_n 0) 1 := ⟨dr_at drL_law_867 (i := 22) rfl, rfl⟩
theorem dL_901 : dc code 901 903 (.iload 4) 2 := ⟨dr_at drL_law_867 (i := 23) rfl, rfl⟩
theorem dL_903 : dc code 903 904 (.iconst 3) 1 := ⟨dr_at drL_law_867 (i := 24) rfl, rfl⟩
theorem dL_904 : dc code 904 905 .iadd 1 := ⟨dr_at drL_law_867 (i := 25) rfl, rfl⟩
theorem dL_905 : dc code 905 906 .iaload 1 := ⟨dr_at drL_law_867 (i := 26) rfl, rfl⟩
theorem dL_906 : dc code 906 907 (.aload_n 3) 1 := ⟨dr_at drL_law_867 (i := 27) rfl, rfl⟩
theorem dL_907 : dc code 907 910 (.invokestatic 184) 3 := ⟨dr_at drL_law_867 (i := 28) rfl, rfl⟩
theorem dL_910 : dc code 910 912 (.istore 5) 2 := ⟨dr_at drL_law_867 (i := 29) rfl, rfl⟩
theorem dL_912 : dc code 912 913 (.aload_n 2) 1 := ⟨dr_at drL_law_867 (i := 30) rfl, rfl⟩
theorem dL_913 : dc code 913 914 (.aload_n 0) 1 := ⟨dr_at drL_law_867 (i := 31) rfl, rfl⟩
theorem dL_914 : dc code 914 916 (.iload 4) 2 := ⟨dr_at drL_law_867 (i := 32) rfl, rfl⟩
theorem dL_916 : dc code 916 917 (.iconst 1) 1 := ⟨dr_at drL_law_867 (i := 33) rfl, rfl⟩
theorem dL_917 : dc code 917 918 .iadd 1 := ⟨dr_at drL_law_867 (i := 34) rfl, rfl⟩
theorem dL_918 : dc code 918 919 .iaload 1 := ⟨dr_at drL_law_867 (i := 35) rfl, rfl⟩
theorem dL_919 : dc code 919 920 (.aload_n 0) 1 := ⟨dr_at drL_law_867 (i := 36) rfl, rfl⟩
theorem dL_920 : dc code 920 922 (.iload 4) 2 := ⟨dr_at drL_law_867 (i := 37) rfl, rfl⟩
theorem dL_922 : dc code 922 923 (.iconst 2) 1 := ⟨dr_at drL_law_867 (i := 38) rfl, rfl⟩
theorem dL_923 : dc code 923 924 .iadd 1 := ⟨dr_at drL_law_867 (i := 39) rfl, rfl⟩
theorem dL_924 : dc code 924 925 .iaload 1 := ⟨dr_at drL_law_867 (i := 40) rfl, rfl⟩
theorem dL_925 : dc code 925 926 (.aload_n 0) 1 := ⟨dr_at drL_law_867 (i := 41) rfl, rfl⟩
theorem dL_926 : dc code 926 928 (.iload 4) 2 := ⟨dr_at drL_law_867 (i := 42) rfl, rfl⟩
theorem dL_928 : dc code 928 929 (.iconst 3) 1 := ⟨dr_at drL_law_867 (i := 43) rfl, rfl⟩
theorem dL_929 : dc code 929 930 .iadd 1 := ⟨dr_at drL_law_867 (i := 44) rfl, rfl⟩
theorem dL_930 : dc code 930 931 .iaload 1 := ⟨dr_at drL_law_867 (i := 45) rfl, rfl⟩
theorem dL_931 : dc code 931 934 (.invokevirtual 186) 3 := ⟨dr_at drL_law_867 (i := 46) rfl, rfl⟩
theorem dL_934 : dc code 934 936 (.istore 6) 2 := ⟨dr_at drL_law_867 (i := 47) rfl, rfl⟩
theorem dL_936 : dc code 936 937 (.aload_n 2) 1 := ⟨dr_at drL_law_867 (i := 48) rfl, rfl⟩
theorem dL_937 : dc code 937 940 (.invokevirtual 150) 3 := ⟨dr_at drL_law_867 (i := 49) rfl, rfl⟩
theorem dL_940 : dc code 940 942 (.iload 5) 2 := ⟨dr_at drL_law_867 (i := 50) rfl, rfl⟩
theorem dL_942 : dc code 942 945 (.if_icmp .eq 5) 3 := ⟨dr_at drL_law_867 (i := 51) rfl, rfl⟩
theorem dL_945 : dc code 945 946 (.iconst 0) 1 := ⟨dr_at drL_law_867 (i := 52) rfl, rfl⟩
theorem dL_947 : dc code 947 949 (.iload 5) 2 := ⟨dr_at drL_law_867 (i := 53) rfl, rfl⟩
theorem dL_949 : dc code 949 952 (.ifCond .ne 15) 3 := ⟨dr_at drL_law_867 (i := 54) rfl, rfl⟩
theorem dL_952 : dc code 952 953 (.aload_n 3) 1 := ⟨dr_at drL_law_867 (i := 55) rfl, rfl⟩
theorem dL_953 : dc code 953 954 (.iconst 0) 1 := ⟨dr_at drL_law_867 (i := 56) rfl, rfl⟩
theorem dL_954 : dc code 954 955 .laload 1 := ⟨dr_at drL_law_867 (i := 57) rfl, rfl⟩
theorem dL_955 : dc code 955 957 (.iload 6) 2 := ⟨dr_at drL_law_867 (i := 58) rfl, rfl⟩
theorem dL_957 : dc code 957 958 .i2l 1 := ⟨dr_at drL_law_867 (i := 59) rfl, rfl⟩
theorem dL_958 : dc code 958 959 .lcmp 1 := ⟨dr_at drL_law_867 (i := 60) rfl, rfl⟩
theorem dL_959 : dc code 959 962 (.ifCond .eq 5) 3 := ⟨dr_at drL_law_867 (i := 61) rfl, rfl⟩
theorem dL_962 : dc code 962 963 (.iconst 0) 1 := ⟨dr_at drL_law_867 (i := 62) rfl, rfl⟩
theorem dL_964 : dc code 964 967 (.goto 1818) 3 := ⟨dr_at drL_law_867 (i := 63) rfl, rfl⟩
theorem dL_967 : dc code 967 968 (.aload_n 1) 1 := ⟨dr_at drL_law_867 (i := 64) rfl, rfl⟩
theorem dL_968 : dc code 968 969 (.aload_n 0) 1 := ⟨dr_at drL_law_867 (i := 65) rfl, rfl⟩
theorem dL_969 : dc code 969 971 (.iload 4) 2 := ⟨dr_at drL_law_867 (i := 66) rfl, rfl⟩
theorem dL_971 : dc code 971 972 (.iconst 1) 1 := ⟨dr_at drL_law_867 (i := 67) rfl, rfl⟩
theorem dL_972 : dc code 972 973 .iadd 1 := ⟨dr_at drL_law_867 (i := 68) rfl, rfl⟩
theorem dL_973 : dc code 973 974 .iaload 1 := ⟨dr_at drL_law_867 (i := 69) rfl, rfl⟩
theorem dL_974 : dc code 974 975 (.aload_n 0) 1 := ⟨dr_at drL_law_867 (i := 70) rfl, rfl⟩
theorem dL_975 : dc code 975 977 (.iload 4) 2 := ⟨dr_at drL_law_867 (i := 71) rfl, rfl⟩
theorem dL_977 : dc code 977 978 (.iconst 2) 1 := ⟨dr_at drL_law_867 (i := 72) rfl, rfl⟩
theorem dL_978 : dc code 978 979 .iadd 1 := ⟨dr_at drL_law_867 (i := 73) rfl, rfl⟩
theorem dL_979 : dc code 979 980 .iaload 1 := ⟨dr_at drL_law_867 (i := 74) rfl, rfl⟩
theorem dL_980 : dc code 980 981 (.aload_n 0) 1 := ⟨dr_at drL_law_867 (i := 75) rfl, rfl⟩
theorem dL_981 : dc code 981 983 (.iload 4) 2 := ⟨dr_at drL_law_867 (i := 76) rfl, rfl⟩
theorem dL_983 : dc code 983 984 (.iconst 3) 1 := ⟨dr_at drL_law_867 (i := 77) rfl, rfl⟩
theorem dL_984 : dc code 984 985 .iadd 1 := ⟨dr_at drL_law_867 (i := 78) rfl, rfl⟩
theorem dL_985 : dc code 985 986 .iaload 1 := ⟨dr_at drL_law_867 (i := 79) rfl, rfl⟩
theorem dL_986 : dc code 986 987 (.aload_n 0) 1 := ⟨dr_at drL_law_867 (i := 80) rfl, rfl⟩
theorem dL_987 : dc code 987 989 (.iload 4) 2 := ⟨dr_at drL_law_867 (i := 81) rfl, rfl⟩
theorem dL_989 : dc code 989 990 (.iconst 4) 1 := ⟨dr_at drL_law_867 (i := 82) rfl, rfl⟩
theorem dL_990 : dc code 990 991 .iadd 1 := ⟨dr_at drL_law_867 (i := 83) rfl, rfl⟩
theorem dL_991 : dc code 991 992 .iaload 1 := ⟨dr_at drL_law_867 (i := 84) rfl, rfl⟩
theorem dL_992 : dc code 992 995 (.ifCond .eq 7) 3 := ⟨dr_at drL_law_867 (i := 85) rfl, rfl⟩
theorem dL_995 : dc code 995 996 (.iconst 1) 1 := ⟨dr_at drL_law_867 (i := 86) rfl, rfl⟩
theorem dL_996 : dc code 996 999 (.goto 4) 3 := ⟨dr_at drL_law_867 (i := 87) rfl, rfl⟩
theorem dL_999 : dc code 999 1000 (.iconst 0) 1 := ⟨dr_at drL_law_867 (i := 88) rfl, rfl⟩
theorem dL_1000 : dc code 1000 1001 (.aload_n 3) 1 := ⟨dr_at drL_law_867 (i := 89) rfl, rfl⟩
theorem dL_1001 : dc code 1001 1004 (.invokestatic 187) 3 := ⟨dr_at drL_law_867 (i := 90) rfl, rfl⟩
theorem dL_1004 : dc code 1004 1006 (.istore 5) 2 := ⟨dr_at drL_law_867 (i := 91) rfl, rfl⟩
theorem dL_1006 : dc code 1006 1007 (.aload_n 2) 1 := ⟨dr_at drL_law_867 (i := 92) rfl, rfl⟩
theorem dL_1007 : dc code 1007 1008 (.aload_n 0) 1 := ⟨dr_at drL_law_867 (i := 93) rfl, rfl⟩
theorem dL_1008 : dc code 1008 1010 (.iload 4) 2 := ⟨dr_at drL_law_867 (i := 94) rfl, rfl⟩
theorem dL_1010 : dc code 1010 1011 (.iconst 1) 1 := ⟨dr_at drL_law_867 (i := 95) rfl, rfl⟩
theorem dL_1011 : dc code 1011 1012 .iadd 1 := ⟨dr_at drL_law_867 (i := 96) rfl, rfl⟩
theorem dL_1012 : dc code 1012 1013 .iaload 1 := ⟨dr_at drL_law_867 (i := 97) rfl, rfl⟩
theorem dL_1013 : dc code 1013 1014 (.aload_n 0) 1 := ⟨dr_at drL_law_867 (i := 98) rfl, rfl⟩
theorem dL_1014 : dc code 1014 1016 (.iload 4) 2 := ⟨dr_at drL_law_867 (i := 99) rfl, rfl⟩
theorem dL_1016 : dc code 1016 1017 (.iconst 2) 1 := ⟨dr_at drL_law_867 (i := 100) rfl, rfl⟩
theorem dL_1017 : dc code 1017 1018 .iadd 1 := ⟨dr_at drL_law_867 (i := 101) rfl, rfl⟩
theorem dL_1018 : dc code 1018 1019 .iaload 1 := ⟨dr_at drL_law_867 (i := 102) rfl, rfl⟩
theorem dL_1019 : dc code 1019 1020 (.aload_n 0) 1 := ⟨dr_at drL_law_867 (i := 103) rfl, rfl⟩
theorem dL_1020 : dc code 1020 1022 (.iload 4) 2 := ⟨dr_at drL_law_867 (i := 104) rfl, rfl⟩
theorem dL_1022 : dc code 1022 1023 (.iconst 3) 1 := ⟨dr_at drL_law_867 (i := 105) rfl, rfl⟩
theorem dL_1023 : dc code 1023 1024 .iadd 1 := ⟨dr_at drL_law_867 (i := 106) rfl, rfl⟩
theorem dL_1024 : dc code 1024 1025 .iaload 1 := ⟨dr_at drL_law_867 (i := 107) rfl, rfl⟩
theorem dL_1025 : dc code 1025 1026 (.aload_n 0) 1 := ⟨dr_at drL_law_867 (i := 108) rfl, rfl⟩
theorem dL_1026 : dc code 1026 1028 (.iload 4) 2 := ⟨dr_at drL_law_867 (i := 109) rfl, rfl⟩
theorem dL_1028 : dc code 1028 1029 (.iconst 4) 1 := ⟨dr_at drL_law_867 (i := 110) rfl, rfl⟩
theorem dL_1029 : dc code 1029 1030 .iadd 1 := ⟨dr_at drL_law_867 (i := 111) rfl, rfl⟩
theorem dL_1030 : dc code 1030 1031 .iaload 1 := ⟨dr_at drL_law_867 (i := 112) rfl, rfl⟩
theorem dL_1031 : dc code 1031 1034 (.ifCond .eq 7) 3 := ⟨dr_at drL_law_867 (i := 113) rfl, rfl⟩
theorem dL_1034 : dc code 1034 1035 (.iconst 1) 1 := ⟨dr_at drL_law_867 (i := 114) rfl, rfl⟩
theorem dL_1035 : dc code 1035 1038 (.goto 4) 3 := ⟨dr_at drL_law_867 (i := 115) rfl, rfl⟩
theorem dL_1038 : dc code 1038 1039 (.iconst 0) 1 := ⟨dr_at drL_law_867 (i := 116) rfl, rfl⟩
theorem dL_1039 : dc code 1039 1042 (.invokevirtual 190) 3 := ⟨dr_at drL_law_867 (i := 117) rfl, rfl⟩
theorem dL_1042 : dc code 1042 1044 (.lstore 6) 2 := ⟨dr_at drL_law_867 (i := 118) rfl, rfl⟩
theorem dL_1044 : dc code 1044 1045 (.aload_n 2) 1 := ⟨dr_at drL_law_867 (i := 119) rfl, rfl⟩
theorem dL_1045 : dc code 1045 1048 (.invokevirtual 150) 3 := ⟨dr_at drL_law_867 (i := 120) rfl, rfl⟩
theorem dL_1048 : dc code 1048 1050 (.iload 5) 2 := ⟨dr_at drL_law_867 (i := 121) rfl, rfl⟩
theorem dL_1050 : dc code 1050 1053 (.if_icmp .eq 5) 3 := ⟨dr_at drL_law_867 (i := 122) rfl, rfl⟩
theorem dL_1053 : dc code 1053 1054 (.iconst 0) 1 := ⟨dr_at drL_law_867 (i := 123) rfl, rfl⟩
theorem dL_1055 : dc code 1055 1057 (.iload 5) 2 := ⟨dr_at drL_law_867 (i := 124) rfl, rfl⟩
theorem dL_1057 : dc code 1057 1060 (.ifCond .ne 14) 3 := ⟨dr_at drL_law_867 (i := 125) rfl, rfl⟩
theorem dL_1060 : dc code 1060 1061 (.aload_n 3) 1 := ⟨dr_at drL_law_867 (i := 126) rfl, rfl⟩
theorem dL_1061 : dc code 1061 1062 (.iconst 0) 1 := ⟨dr_at drL_law_867 (i := 127) rfl, rfl⟩
theorem dL_1062 : dc code 1062 1063 .laload 1 := ⟨dr_at drL_law_867 (i := 128) rfl, rfl⟩
theorem dL_1063 : dc code 1063 1065 (.lload 6) 2 := ⟨dr_at drL_law_867 (i := 129) rfl, rfl⟩
theorem dL_1065 : dc code 1065 1066 .lcmp 1 := ⟨dr_at drL_law_867 (i := 130) rfl, rfl⟩
theorem dL_1066 : dc code 1066 1069 (.ifCond .eq 5) 3 := ⟨dr_at drL_law_867 (i := 131) rfl, rfl⟩
theorem dL_1069 : dc code 1069 1070 (.iconst 0) 1 := ⟨dr_at drL_law_867 (i := 132) rfl, rfl⟩
theorem dL_1071 : dc code 1071 1074 (.goto 1711) 3 := ⟨dr_at drL_law_867 (i := 133) rfl, rfl⟩
theorem dL_1074 : dc code 1074 1075 (.aload_n 1) 1 := ⟨dr_at drL_law_867 (i := 134) rfl, rfl⟩
theorem dL_1075 : dc code 1075 1076 (.aload_n 0) 1 := ⟨dr_at drL_law_867 (i := 135) rfl, rfl⟩
theorem dL_1076 : dc code 1076 1078 (.iload 4) 2 := ⟨dr_at drL_law_867 (i := 136) rfl, rfl⟩
theorem dL_1078 : dc code 1078 1079 (.iconst 1) 1 := ⟨dr_at drL_law_867 (i := 137) rfl, rfl⟩
theorem dL_1079 : dc code 1079 1080 .iadd 1 := ⟨dr_at drL_law_867 (i := 138) rfl, rfl⟩
theorem dL_1080 : dc code 1080 1081 .iaload 1 := ⟨dr_at drL_law_867 (i := 139) rfl, rfl⟩
theorem dL_1081 : dc code 1081 1082 (.aload_n 0) 1 := ⟨dr_at drL_law_867 (i := 140) rfl, rfl⟩
theorem dL_1082 : dc code 1082 1084 (.iload 4) 2 := ⟨dr_at drL_law_867 (i := 141) rfl, rfl⟩
theorem dL_1084 : dc code 1084 1085 (.iconst 2) 1 := ⟨dr_at drL_law_867 (i := 142) rfl, rfl⟩
theorem dL_1085 : dc code 1085 1086 .iadd 1 := ⟨dr_at drL_law_867 (i := 143) rfl, rfl⟩
theorem dL_1086 : dc code 1086 1087 .iaload 1 := ⟨dr_at drL_law_867 (i := 144) rfl, rfl⟩
theorem dL_1087 : dc code 1087 1090 (.ifCond .eq 7) 3 := ⟨dr_at drL_law_867 (i := 145) rfl, rfl⟩
theorem dL_1090 : dc code 1090 1091 (.iconst 1) 1 := ⟨dr_at drL_law_867 (i := 146) rfl, rfl⟩
theorem dL_1091 : dc code 1091 1094 (.goto 4) 3 := ⟨dr_at drL_law_867 (i := 147) rfl, rfl⟩
theorem dL_1094 : dc code 1094 1095 (.iconst 0) 1 := ⟨dr_at drL_law_867 (i := 148) rfl, rfl⟩
theorem dL_1095 : dc code 1095 1096 (.aload_n 3) 1 := ⟨dr_at drL_law_867 (i := 149) rfl, rfl⟩
theorem drL_law_1096 : ([(1096, (.invokestatic 191), 3), (1099, (.istore 5), 2), (1101, (.aload_n 2), 1), (1102, (.aload_n 0), 1), (1103, (.iload 4), 2), (1105, (.iconst 1), 1), (1106, .iadd, 1), (1107, .iaload, 1), (1108, (.aload_n 0), 1), (1109, (.iload 4), 2), (1111, (.iconst 2), 1), (1112, .iadd, 1), (1113, .iaload, 1), (1114, (.ifCond .eq 7), 3), (1117, (.iconst 1), 1), (1118, (.goto 4), 3), (1121, (.iconst 0), 1), (1122, (.invokevirtual 194), 3), (1125, (.istore 6), 2), (1127, (.aload_n 2), 1), (1128, (.invokevirtual 150), 3), (1131, (.iload 5), 2), (1133, (.if_icmp .eq 5), 3), (1136, (.iconst 0), 1), (1138, (.iload 5), 2), (1140, (.ifCond .ne 15), 3), (1143, (.aload_n 3), 1), (1144, (.iconst 0), 1), (1145, .laload, 1), (1146, (.iload 6), 2), (1148, .i2l, 1), (1149, .lcmp, 1), (1150, (.ifCond .eq 5), 3), (1153, (.iconst 0), 1), (1155, (.goto 1627), 3), (1158, (.aload_n 1), 1), (1159, (.aload_n 0), 1), (1160, (.iload 4), 2), (1162, (.iconst 1), 1), (1163, .iadd, 1), (1164, .iaload, 1), (1165, (.aload_n 0), 1), (1166, (.iload 4), 2), (1168, (.iconst 2), 1), (1169, .iadd, 1), (1170, .iaload, 1), (1171, (.ifCond .eq 7), 3), (1174, (.iconst 1), 1), (1175, (.goto 4), 3), (1178, (.iconst 0), 1), (1179, (.aload_n 3), 1), (1180, (.invokestatic 195), 3), (1183, (.istore 5), 2), (1185, (.aload_n 2), 1), (1186, (.aload_n 0), 1), (1187, (.iload 4), 2), (1189, (.iconst 1), 1), (1190, .iadd, 1), (1191, .iaload, 1), (1192, (.aload_n 0), 1), (1193, (.iload 4), 2), (1195, (.iconst 2), 1), (1196, .iadd, 1), (1197, .iaload, 1), (1198, (.ifCond .eq 7), 3), (1201, (.iconst 1), 1), (1202, (.goto 4), 3), (1205, (.iconst 0), 1), (1206, (.invokevirtual 197), 3), (1209, (.lstore 6), 2), (1211, (.aload_n 2), 1), (1212, (.invokevirtual 150), 3), (1215, (.iload 5), 2), (1217, (.if_icmp .eq 5), 3), (1220, (.iconst 0), 1), (1222, (.iload 5), 2), (1224, (.ifCond .ne 14), 3), (1227, (.aload_n 3), 1), (1228, (.iconst 0), 1), (1229, .laload, 1), (1230, (.lload 6), 2), (1232, .lcmp, 1), (1233, (.ifCond .eq 5), 3), (1236, (.iconst 0), 1), (1238, (.goto 1544), 3), (1241, (.aload_n 1), 1), (1242, (.invokevirtual 198), 3), (1245, (.aload_n 2), 1), (1246, (.invokevirtual 201), 3), (1249, (.if_icmp .eq 1533), 3), (1252, (.iconst 0), 1), (1254, (.aload_n 1), 1), (1255, (.aload_n 0), 1), (1256, (.iload 4), 2), (1258, (.iconst 1), 1), (1259, .iadd, 1), (1260, .iaload, 1), (1261, (.aload_n 0), 1), (1262, (.iload 4), 2), (1264, (.iconst 2), 1), (1265, .iadd, 1), (1266, .iaload, 1), (1267, (.ifCond .eq 7), 3), (1270, (.iconst 1), 1), (1271, (.goto 4), 3), (1274, (.iconst 0), 1), (1275, (.invokevirtual 202), 3), (1278, (.aload_n 2), 1), (1279, (.aload_n 0), 1), (1280, (.iload 4), 2), (1282, (.iconst 1), 1), (1283, .iadd, 1), (1284, .iaload, 1), (1285, (.aload_n 0), 1), (1286, (.iload 4), 2), (1288, (.iconst 2), 1), (1289, .iadd, 1), (1290, .iaload, 1), (1291, (.ifCond .eq 7), 3), (1294, (.iconst 1), 1), (1295, (.goto 4), 3), (1298, (.iconst 0), 1), (1299, (.invokevirtual 205), 3), (1302, (.if_icmp .eq 1480), 3), (1305, (.iconst 0), 1), (1307, (.aload_n 1), 1), (1308, (.aload_n 0), 1), (1309, (.iload 4), 2), (1311, (.iconst 1), 1), (1312, .iadd, 1), (1313, .iaload, 1), (1314, (.aload_n 0), 1), (1315, (.iload 4), 2), (1317, (.iconst 2), 1), (1318, .iadd, 1), (1319, .iaload, 1), (1320, (.aload_n 0), 1), (1321, (.iload 4), 2), (1323, (.iconst 3), 1), (1324, .iadd, 1), (1325, .iaload, 1), (1326, (.aload_n 0), 1), (1327, (.iload 4), 2), (1329, (.iconst 4), 1), (1330, .iadd, 1), (1331, .iaload, 1), (1332, (.ifCond .eq 7), 3), (1335, (.iconst 1), 1), (1336, (.goto 4), 3), (1339, (.iconst 0), 1)] : List (Nat × Instr × Nat)).all (fun q => decide (decode code q.1 = .ok q.2)) = true := by decide +kernel
theorem dL_1096 : dc code 1096 1099 (.invokestatic 191) 3 := ⟨dr_at drL_law_1096 (i := 0) rfl, rfl⟩
theorem dL_1099 : dc code 1099 1101 (.istore 5) 2 := ⟨dr_at drL_law_1096 (i := 1) rfl, rfl⟩
theorem dL_1101 : dc code 1101 1102 (.aload_n 2) 1 := ⟨dr_at drL_law_1096 (i := 2) rfl, rfl⟩
theorem dL_1102 : dc code 1102 1103 (.aload_n 0) 1 := ⟨dr_at drL_law_1096 (i := 3) rfl, rfl⟩
theorem dL_1103 : dc code 1103 1105 (.iload 4) 2 := ⟨dr_at drL_law_1096 (i := 4) rfl, rfl⟩
theorem dL_1105 : dc code 1105 1106 (.iconst 1) 1 := ⟨dr_at drL_law_1096 (i := 5) rfl, rfl⟩
theorem dL_1106 : dc code 1106 1107 .iadd 1 := ⟨dr_at drL_law_1096 (i := 6) rfl, rfl⟩
theorem dL_1107 : dc code 1107 1108 .iaload 1 := ⟨dr_at drL_law_1096 (i := 7) rfl, rfl⟩
theorem dL_1108 : dc code 1108 1109 (.aload_n 0) 1 := ⟨dr_at drL_law_1096 (i := 8) rfl, rfl⟩
theorem dL_1109 : dc code 1109 1111 (.iload 4) 2 := ⟨dr_at drL_law_1096 (i := 9) rfl, rfl⟩
theorem dL_1111 : dc code 1111 1112 (.iconst 2) 1 := ⟨dr_at drL_law_1096 (i := 10) rfl, rfl⟩
theorem dL_1112 : dc code 1112 1113 .iadd 1 := ⟨dr_at drL_law_1096 (i := 11) rfl, rfl⟩
theorem dL_1113 : dc code 1113 1114 .iaload 1 := ⟨dr_at drL_law_1096 (i := 12) rfl, rfl⟩
theorem dL_1114 : dc code 1114 1117 (.ifCond .eq 7) 3 := ⟨dr_at drL_law_1096 (i := 13) rfl, rfl⟩
theorem dL_1117 : dc code 1117 1118 (.iconst 1) 1 := ⟨dr_at drL_law_1096 (i := 14) rfl, rfl⟩
theorem dL_1118 : dc code 1118 1121 (.goto 4) 3 := ⟨dr_at drL_law_1096 (i := 15) rfl, rfl⟩
theorem dL_1121 : dc code 1121 1122 (.iconst 0) 1 := ⟨dr_at drL_law_1096 (i := 16) rfl, rfl⟩
theorem dL_1122 : dc code 1122 1125 (.invokevirtual 194) 3 := ⟨dr_at drL_law_1096 (i := 17) rfl, rfl⟩
theorem dL_1125 : dc code 1125 1127 (.istore 6) 2 := ⟨dr_at drL_law_1096 (i := 18) rfl, rfl⟩
theorem dL_1127 : dc code 1127 1128 (.aload_n 2) 1 := ⟨dr_at drL_law_1096 (i := 19) rfl, rfl⟩
theorem dL_1128 : dc code 1128 1131 (.invokevirtual 150) 3 := ⟨dr_at drL_law_1096 (i := 20) rfl, rfl⟩
theorem dL_1131 : dc code 1131 1133 (.iload 5) 2 := ⟨dr_at drL_law_1096 (i := 21) rfl, rfl⟩
theorem dL_1133 : dc code 1133 1136 (.if_icmp .eq 5) 3 := ⟨dr_at drL_law_1096 (i := 22) rfl, rfl⟩
theorem dL_1136 : dc code 1136 1137 (.iconst 0) 1 := ⟨dr_at drL_law_1096 (i := 23) rfl, rfl⟩
theorem dL_1138 : dc code 1138 1140 (.iload 5) 2 := ⟨dr_at drL_law_1096 (i := 24) rfl, rfl⟩
theorem dL_1140 : dc code 1140 1143 (.ifCond .ne 15) 3 := ⟨dr_at drL_law_1096 (i := 25) rfl, rfl⟩
theorem dL_1143 : dc code 1143 1144 (.aload_n 3) 1 := ⟨dr_at drL_law_1096 (i := 26) rfl, rfl⟩
theorem dL_1144 : dc code 1144 1145 (.iconst 0) 1 := ⟨dr_at drL_law_1096 (i := 27) rfl, rfl⟩
theorem dL_1145 : dc code 1145 1146 .laload 1 := ⟨dr_at drL_law_1096 (i := 28) rfl, rfl⟩
theorem dL_1146 : dc code 1146 1148 (.iload 6) 2 := ⟨dr_at drL_law_1096 (i := 29) rfl, rfl⟩
theorem dL_1148 : dc code 1148 1149 .i2l 1 := ⟨dr_at drL_law_1096 (i := 30) rfl, rfl⟩
theorem dL_1149 : dc code 1149 1150 .lcmp 1 := ⟨dr_at drL_law_1096 (i := 31) rfl, rfl⟩
theorem dL_1150 : dc code 1150 1153 (.ifCond .eq 5) 3 := ⟨dr_at drL_law_1096 (i := 32) rfl, rfl⟩
theorem dL_1153 : dc code 1153 1154 (.iconst 0) 1 := ⟨dr_at drL_law_1096 (i := 33) rfl, rfl⟩
theorem dL_1155 : dc code 1155 1158 (.goto 1627) 3 := ⟨dr_at drL_law_1096 (i := 34) rfl, rfl⟩
theorem dL_1158 : dc code 1158 1159 (.aload_n 1) 1 := ⟨dr_at drL_law_1096 (i := 35) rfl, rfl⟩
theorem dL_1159 : dc code 1159 1160 (.aload_n 0) 1 := ⟨dr_at drL_law_1096 (i := 36) rfl, rfl⟩
theorem dL_1160 : dc code 1160 1162 (.iload 4) 2 := ⟨dr_at drL_law_1096 (i := 37) rfl, rfl⟩
theorem dL_1162 : dc code 1162 1163 (.iconst 1) 1 := ⟨dr_at drL_law_1096 (i := 38) rfl, rfl⟩
theorem dL_1163 : dc code 1163 1164 .iadd 1 := ⟨dr_at drL_law_1096 (i := 39) rfl, rfl⟩
theorem dL_1164 : dc code 1164 1165 .iaload 1 := ⟨dr_at drL_law_1096 (i := 40) rfl, rfl⟩
theorem dL_1165 : dc code 1165 1166 (.aload_n 0) 1 := ⟨dr_at drL_law_1096 (i := 41) rfl, rfl⟩
theorem dL_1166 : dc code 1166 1168 (.iload 4) 2 := ⟨dr_at drL_law_1096 (i := 42) rfl, rfl⟩
theorem dL_1168 : dc code 1168 1169 (.iconst 2) 1 := ⟨dr_at drL_law_1096 (i := 43) rfl, rfl⟩
theorem dL_1169 : dc code 1169 1170 .iadd 1 := ⟨dr_at drL_law_1096 (i := 44) rfl, rfl⟩
theorem dL_1170 : dc code 1170 1171 .iaload 1 := ⟨dr_at drL_law_1096 (i := 45) rfl, rfl⟩
theorem dL_1171 : dc code 1171 1174 (.ifCond .eq 7) 3 := ⟨dr_at drL_law_1096 (i := 46) rfl, rfl⟩
theorem dL_1174 : dc code 1174 1175 (.iconst 1) 1 := ⟨dr_at drL_law_1096 (i := 47) rfl, rfl⟩
theorem dL_1175 : dc code 1175 1178 (.goto 4) 3 := ⟨dr_at drL_law_1096 (i := 48) rfl, rfl⟩
theorem dL_1178 : dc code 1178 1179 (.iconst 0) 1 := ⟨dr_at drL_law_1096 (i := 49) rfl, rfl⟩
theorem dL_1179 : dc code 1179 1180 (.aload_n 3) 1 := ⟨dr_at drL_law_1096 (i := 50) rfl, rfl⟩
theorem dL_1180 : dc code 1180 1183 (.invokestatic 195) 3 := ⟨dr_at drL_law_1096 (i := 51) rfl, rfl⟩
theorem dL_1183 : dc code 1183 1185 (.istore 5) 2 := ⟨dr_at drL_law_1096 (i := 52) rfl, rfl⟩
theorem dL_1185 : dc code 1185 1186 (.aload_n 2) 1 := ⟨dr_at drL_law_1096 (i := 53) rfl, rfl⟩
theorem dL_1186 : dc code 1186 1187 (.aload_n 0) 1 := ⟨dr_at drL_law_1096 (i := 54) rfl, rfl⟩
theorem dL_1187 : dc code 1187 1189 (.iload 4) 2 := ⟨dr_at drL_law_1096 (i := 55) rfl, rfl⟩
theorem dL_1189 : dc code 1189 1190 (.iconst 1) 1 := ⟨dr_at drL_law_1096 (i := 56) rfl, rfl⟩
theorem dL_1190 : dc code 1190 1191 .iadd 1 := ⟨dr_at drL_law_1096 (i := 57) rfl, rfl⟩
theorem dL_1191 : dc code 1191 1192 .iaload 1 := ⟨dr_at drL_law_1096 (i := 58) rfl, rfl⟩
theorem dL_1192 : dc code 1192 1193 (.aload_n 0) 1 := ⟨dr_at drL_law_1096 (i := 59) rfl, rfl⟩
theorem dL_1193 : dc code 1193 1195 (.iload 4) 2 := ⟨dr_at drL_law_1096 (i := 60) rfl, rfl⟩
theorem dL_1195 : dc code 1195 1196 (.iconst 2) 1 := ⟨dr_at drL_law_1096 (i := 61) rfl, rfl⟩
theorem dL_1196 : dc code 1196 1197 .iadd 1 := ⟨dr_at drL_law_1096 (i := 62) rfl, rfl⟩
theorem dL_1197 : dc code 1197 1198 .iaload 1 := ⟨dr_at drL_law_1096 (i := 63) rfl, rfl⟩
theorem dL_1198 : dc code 1198 1201 (.ifCond .eq 7) 3 := ⟨dr_at drL_law_1096 (i := 64) rfl, rfl⟩
theorem dL_1201 : dc code 1201 1202 (.iconst 1) 1 := ⟨dr_at drL_law_1096 (i := 65) rfl, rfl⟩
theorem dL_1202 : dc code 1202 1205 (.goto 4) 3 := ⟨dr_at drL_law_1096 (i := 66) rfl, rfl⟩
theorem dL_1205 : dc code 1205 1206 (.iconst 0) 1 := ⟨dr_at drL_law_1096 (i := 67) rfl, rfl⟩
theorem dL_1206 : dc code 1206 1209 (.invokevirtual 197) 3 := ⟨dr_at drL_law_1096 (i := 68) rfl, rfl⟩
theorem dL_1209 : dc code 1209 1211 (.lstore 6) 2 := ⟨dr_at drL_law_1096 (i := 69) rfl, rfl⟩
theorem dL_1211 : dc code 1211 1212 (.aload_n 2) 1 := ⟨dr_at drL_law_1096 (i := 70) rfl, rfl⟩
theorem dL_1212 : dc code 1212 1215 (.invokevirtual 150) 3 := ⟨dr_at drL_law_1096 (i := 71) rfl, rfl⟩
theorem dL_1215 : dc code 1215 1217 (.iload 5) 2 := ⟨dr_at drL_law_1096 (i := 72) rfl, rfl⟩
theorem dL_1217 : dc code 1217 1220 (.if_icmp .eq 5) 3 := ⟨dr_at drL_law_1096 (i := 73) rfl, rfl⟩
theorem dL_1220 : dc code 1220 1221 (.iconst 0) 1 := ⟨dr_at drL_law_1096 (i := 74) rfl, rfl⟩
theorem dL_1222 : dc code 1222 1224 (.iload 5) 2 := ⟨dr_at drL_law_1096 (i := 75) rfl, rfl⟩
theorem dL_1224 : dc code 1224 1227 (.ifCond .ne 14) 3 := ⟨dr_at drL_law_1096 (i := 76) rfl, rfl⟩
theorem dL_1227 : dc code 1227 1228 (.aload_n 3) 1 := ⟨dr_at drL_law_1096 (i := 77) rfl, rfl⟩
theorem dL_1228 : dc code 1228 1229 (.iconst 0) 1 := ⟨dr_at drL_law_1096 (i := 78) rfl, rfl⟩
theorem dL_1229 : dc code 1229 1230 .laload 1 := ⟨dr_at drL_law_1096 (i := 79) rfl, rfl⟩
theorem dL_1230 : dc code 1230 1232 (.lload 6) 2 := ⟨dr_at drL_law_1096 (i := 80) rfl, rfl⟩
theorem dL_1232 : dc code 1232 1233 .lcmp 1 := ⟨dr_at drL_law_1096 (i := 81) rfl, rfl⟩
theorem dL_1233 : dc code 1233 1236 (.ifCond .eq 5) 3 := ⟨dr_at drL_law_1096 (i := 82) rfl, rfl⟩
theorem dL_1236 : dc code 1236 1237 (.iconst 0) 1 := ⟨dr_at drL_law_1096 (i := 83) rfl, rfl⟩
theorem dL_1238 : dc code 1238 1241 (.goto 1544) 3 := ⟨dr_at drL_law_1096 (i := 84) rfl, rfl⟩
theorem dL_1241 : dc code 1241 1242 (.aload_n 1) 1 := ⟨dr_at drL_law_1096 (i := 85) rfl, rfl⟩
theorem dL_1242 : dc code 1242 1245 (.invokevirtual 198) 3 := ⟨dr_at drL_law_1096 (i := 86) rfl, rfl⟩
theorem dL_1245 : dc code 1245 1246 (.aload_n 2) 1 := ⟨dr_at drL_law_1096 (i := 87) rfl, rfl⟩
theorem dL_1246 : dc code 1246 1249 (.invokevirtual 201) 3 := ⟨dr_at drL_law_1096 (i := 88) rfl, rfl⟩
theorem dL_1249 : dc code 1249 1252 (.if_icmp .eq 1533) 3 := ⟨dr_at drL_law_1096 (i := 89) rfl, rfl⟩
theorem dL_1252 : dc code 1252 1253 (.iconst 0) 1 := ⟨dr_at drL_law_1096 (i := 90) rfl, rfl⟩
theorem dL_1254 : dc code 1254 1255 (.aload_n 1) 1 := ⟨dr_at drL_law_1096 (i := 91) rfl, rfl⟩
theorem dL_1255 : dc code 1255 1256 (.aload_n 0) 1 := ⟨dr_at drL_law_1096 (i := 92) rfl, rfl⟩
theorem dL_1256 : dc code 1256 1258 (.iload 4) 2 := ⟨dr_at drL_law_1096 (i := 93) rfl, rfl⟩
theorem dL_1258 : dc code 1258 1259 (.iconst 1) 1 := ⟨dr_at drL_law_1096 (i := 94) rfl, rfl⟩
theorem dL_1259 : dc code 1259 1260 .iadd 1 := ⟨dr_at drL_law_1096 (i := 95) rfl, rfl⟩
theorem dL_1260 : dc code 1260 1261 .iaload 1 := ⟨dr_at drL_law_1096 (i := 96) rfl, rfl⟩
theorem dL_1261 : dc code 1261 1262 (.aload_n 0) 1 := ⟨dr_at drL_law_1096 (i := 97) rfl, rfl⟩
theorem dL_1262 : dc code 1262 1264 (.iload 4) 2 := ⟨dr_at drL_law_1096 (i := 98) rfl, rfl⟩
theorem dL_1264 : dc code 1264 1265 (.iconst 2) 1 := ⟨dr_at drL_law_1096 (i := 99) rfl, rfl⟩
theorem dL_1265 : dc code 1265 1266 .iadd 1 := ⟨dr_at drL_law_1096 (i := 100) rfl, rfl⟩
theorem dL_1266 : dc code 1266 1267 .iaload 1 := ⟨dr_at drL_law_1096 (i := 101) rfl, rfl⟩
theorem dL_1267 : dc code 1267 1270 (.ifCond .eq 7) 3 := ⟨dr_at drL_law_1096 (i := 102) rfl, rfl⟩
theorem dL_1270 : dc code 1270 1271 (.iconst 1) 1 := ⟨dr_at drL_law_1096 (i := 103) rfl, rfl⟩
theorem dL_1271 : dc code 1271 1274 (.goto 4) 3 := ⟨dr_at drL_law_1096 (i := 104) rfl, rfl⟩
theorem dL_1274 : dc code 1274 1275 (.iconst 0) 1 := ⟨dr_at drL_law_1096 (i := 105) rfl, rfl⟩
theorem dL_1275 : dc code 1275 1278 (.invokevirtual 202) 3 := ⟨dr_at drL_law_1096 (i := 106) rfl, rfl⟩
theorem dL_1278 : dc code 1278 1279 (.aload_n 2) 1 := ⟨dr_at drL_law_1096 (i := 107) rfl, rfl⟩
theorem dL_1279 : dc code 1279 1280 (.aload_n 0) 1 := ⟨dr_at drL_law_1096 (i := 108) rfl, rfl⟩
theorem dL_1280 : dc code 1280 1282 (.iload 4) 2 := ⟨dr_at drL_law_1096 (i := 109) rfl, rfl⟩
theorem dL_1282 : dc code 1282 1283 (.iconst 1) 1 := ⟨dr_at drL_law_1096 (i := 110) rfl, rfl⟩
theorem dL_1283 : dc code 1283 1284 .iadd 1 := ⟨dr_at drL_law_1096 (i := 111) rfl, rfl⟩
theorem dL_1284 : dc code 1284 1285 .iaload 1 := ⟨dr_at drL_law_1096 (i := 112) rfl, rfl⟩
theorem dL_1285 : dc code 1285 1286 (.aload_n 0) 1 := ⟨dr_at drL_law_1096 (i := 113) rfl, rfl⟩
theorem dL_1286 : dc code 1286 1288 (.iload 4) 2 := ⟨dr_at drL_law_1096 (i := 114) rfl, rfl⟩
theorem dL_1288 : dc code 1288 1289 (.iconst 2) 1 := ⟨dr_at drL_law_1096 (i := 115) rfl, rfl⟩
theorem dL_1289 : dc code 1289 1290 .iadd 1 := ⟨dr_at drL_law_1096 (i := 116) rfl, rfl⟩
theorem dL_1290 : dc code 1290 1291 .iaload 1 := ⟨dr_at drL_law_1096 (i := 117) rfl, rfl⟩
theorem dL_1291 : dc code 1291 1294 (.ifCond .eq 7) 3 := ⟨dr_at drL_law_1096 (i := 118) rfl, rfl⟩
theorem dL_1294 : dc code 1294 1295 (.iconst 1) 1 := ⟨dr_at drL_law_1096 (i := 119) rfl, rfl⟩
theorem dL_1295 : dc code 1295 1298 (.goto 4) 3 := ⟨dr_at drL_law_1096 (i := 120) rfl, rfl⟩
theorem dL_1298 : dc code 1298 1299 (.iconst 0) 1 := ⟨dr_at drL_law_1096 (i := 121) rfl, rfl⟩
theorem dL_1299 : dc code 1299 1302 (.invokevirtual 205) 3 := ⟨dr_at drL_law_1096 (i := 122) rfl, rfl⟩
theorem dL_1302 : dc code 1302 1305 (.if_icmp .eq 1480) 3 := ⟨dr_at drL_law_1096 (i := 123) rfl, rfl⟩
theorem dL_1305 : dc code 1305 1306 (.iconst 0) 1 := ⟨dr_at drL_law_1096 (i := 124) rfl, rfl⟩
theorem dL_1307 : dc code 1307 1308 (.aload_n 1) 1 := ⟨dr_at drL_law_1096 (i := 125) rfl, rfl⟩
theorem dL_1308 : dc code 1308 1309 (.aload_n 0) 1 := ⟨dr_at drL_law_1096 (i := 126) rfl, rfl⟩
theorem dL_1309 : dc code 1309 1311 (.iload 4) 2 := ⟨dr_at drL_law_1096 (i := 127) rfl, rfl⟩
theorem dL_1311 : dc code 1311 1312 (.iconst 1) 1 := ⟨dr_at drL_law_1096 (i := 128) rfl, rfl⟩
theorem dL_1312 : dc code 1312 1313 .iadd 1 := ⟨dr_at drL_law_1096 (i := 129) rfl, rfl⟩
theorem dL_1313 : dc code 1313 1314 .iaload 1 := ⟨dr_at drL_law_1096 (i := 130) rfl, rfl⟩
theorem dL_1314 : dc code 1314 1315 (.aload_n 0) 1 := ⟨dr_at drL_law_1096 (i := 131) rfl, rfl⟩
theorem dL_1315 : dc code 1315 1317 (.iload 4) 2 := ⟨dr_at drL_law_1096 (i := 132) rfl, rfl⟩
theorem dL_1317 : dc code 1317 1318 (.iconst 2) 1 := ⟨dr_at drL_law_1096 (i := 133) rfl, rfl⟩
theorem dL_1318 : dc code 1318 1319 .iadd 1 := ⟨dr_at drL_law_1096 (i := 134) rfl, rfl⟩
theorem dL_1319 : dc code 1319 1320 .iaload 1 := ⟨dr_at drL_law_1096 (i := 135) rfl, rfl⟩
theorem dL_1320 : dc code 1320 1321 (.aload_n 0) 1 := ⟨dr_at drL_law_1096 (i := 136) rfl, rfl⟩
theorem dL_1321 : dc code 1321 1323 (.iload 4) 2 := ⟨dr_at drL_law_1096 (i := 137) rfl, rfl⟩
theorem dL_1323 : dc code 1323 1324 (.iconst 3) 1 := ⟨dr_at drL_law_1096 (i := 138) rfl, rfl⟩
theorem dL_1324 : dc code 1324 1325 .iadd 1 := ⟨dr_at drL_law_1096 (i := 139) rfl, rfl⟩
theorem dL_1325 : dc code 1325 1326 .iaload 1 := ⟨dr_at drL_law_1096 (i := 140) rfl, rfl⟩
theorem dL_1326 : dc code 1326 1327 (.aload_n 0) 1 := ⟨dr_at drL_law_1096 (i := 141) rfl, rfl⟩
theorem dL_1327 : dc code 1327 1329 (.iload 4) 2 := ⟨dr_at drL_law_1096 (i := 142) rfl, rfl⟩
theorem dL_1329 : dc code 1329 1330 (.iconst 4) 1 := ⟨dr_at drL_law_1096 (i := 143) rfl, rfl⟩
theorem dL_1330 : dc code 1330 1331 .iadd 1 := ⟨dr_at drL_law_1096 (i := 144) rfl, rfl⟩
theorem dL_1331 : dc code 1331 1332 .iaload 1 := ⟨dr_at drL_law_1096 (i := 145) rfl, rfl⟩
theorem dL_1332 : dc code 1332 1335 (.ifCond .eq 7) 3 := ⟨dr_at drL_law_1096 (i := 146) rfl, rfl⟩
theorem dL_1335 : dc code 1335 1336 (.iconst 1) 1 := ⟨dr_at drL_law_1096 (i := 147) rfl, rfl⟩
theorem dL_1336 : dc code 1336 1339 (.goto 4) 3 := ⟨dr_at drL_law_1096 (i := 148) rfl, rfl⟩
theorem dL_1339 : dc code 1339 1340 (.iconst 0) 1 := ⟨dr_at drL_law_1096 (i := 149) rfl, rfl⟩
theorem drL_law_1340 : ([(1340, (.aload_n 3), 1), (1341, (.invokestatic 206), 3), (1344, (.istore 5), 2), (1346, (.aload_n 2), 1), (1347, (.aload_n 0), 1), (1348, (.iload 4), 2), (1350, (.iconst 1), 1), (1351, .iadd, 1), (1352, .iaload, 1), (1353, (.aload_n 0), 1), (1354, (.iload 4), 2), (1356, (.iconst 2), 1), (1357, .iadd, 1), (1358, .iaload, 1), (1359, (.aload_n 0), 1), (1360, (.iload 4), 2), (1362, (.iconst 3), 1), (1363, .iadd, 1), (1364, .iaload, 1), (1365, (.aload_n 0), 1), (1366, (.iload 4), 2), (1368, (.iconst 4), 1), (1369, .iadd, 1), (1370, .iaload, 1), (1371, (.ifCond .eq 7), 3), (1374, (.iconst 1), 1), (1375, (.goto 4), 3), (1378, (.iconst 0), 1), (1379, (.invokevirtual 208), 3), (1382, (.istore 6), 2), (1384, (.aload_n 2), 1), (1385, (.invokevirtual 150), 3), (1388, (.iload 5), 2), (1390, (.if_icmp .eq 5), 3), (1393, (.iconst 0), 1), (1395, (.iload 5), 2), (1397, (.ifCond .ne 22), 3), (1400, (.aload_n 3), 1), (1401, (.iconst 0), 1), (1402, .laload, 1), (1403, (.iload 6), 2), (1405, (.ifCond .eq 7), 3), (1408, (.lconst 1), 1), (1409, (.goto 4), 3), (1412, (.lconst 0), 1), (1413, .lcmp, 1), (1414, (.ifCond .eq 5), 3), (1417, (.iconst 0), 1), (1419, (.goto 1363), 3), (1422, (.aload_n 1), 1), (1423, (.aload_n 0), 1), (1424, (.iload 4), 2), (1426, (.iconst 1), 1), (1427, .iadd, 1), (1428, .iaload, 1), (1429, (.aload_n 0), 1), (1430, (.iload 4), 2), (1432, (.iconst 2), 1), (1433, .iadd, 1), (1434, .iaload, 1), (1435, (.aload_n 0), 1), (1436, (.iload 4), 2), (1438, (.iconst 3), 1), (1439, .iadd, 1), (1440, .iaload, 1), (1441, (.aload_n 0), 1), (1442, (.iload 4), 2), (1444, (.iconst 4), 1), (1445, .iadd, 1), (1446, .iaload, 1), (1447, (.aload_n 3), 1), (1448, (.invokestatic 209), 3), (1451, (.istore 5), 2), (1453, (.aload_n 2), 1), (1454, (.aload_n 0), 1), (1455, (.iload 4), 2), (1457, (.iconst 1), 1), (1458, .iadd, 1), (1459, .iaload, 1), (1460, (.aload_n 0), 1), (1461, (.iload 4), 2), (1463, (.iconst 2), 1), (1464, .iadd, 1), (1465, .iaload, 1), (1466, (.aload_n 0), 1), (1467, (.iload 4), 2), (1469, (.iconst 3), 1), (1470, .iadd, 1), (1471, .iaload, 1), (1472, (.aload_n 0), 1), (1473, (.iload 4), 2), (1475, (.iconst 4), 1), (1476, .iadd, 1), (1477, .iaload, 1), (1478, (.invokevirtual 212), 3), (1481, (.istore 6), 2), (1483, (.aload_n 2), 1), (1484, (.invokevirtual 150), 3), (1487, (.iload 5), 2), (1489, (.if_icmp .eq 5), 3), (1492, (.iconst 0), 1), (1494, (.iload 5), 2), (1496, (.ifCond .ne 15), 3), (1499, (.aload_n 3), 1), (1500, (.iconst 0), 1), (1501, .laload, 1), (1502, (.iload 6), 2), (1504, .i2l, 1), (1505, .lcmp, 1), (1506, (.ifCond .eq 5), 3), (1509, (.iconst 0), 1), (1511, (.goto 1271), 3), (1514, (.aload_n 1), 1), (1515, (.aload_n 0), 1), (1516, (.iload 4), 2), (1518, (.iconst 1), 1), (1519, .iadd, 1), (1520, .iaload, 1), (1521, (.aload_n 0), 1), (1522, (.iload 4), 2), (1524, (.iconst 2), 1), (1525, .iadd, 1), (1526, .iaload, 1), (1527, (.aload_n 0), 1), (1528, (.iload 4), 2), (1530, (.iconst 3), 1), (1531, .iadd, 1), (1532, .iaload, 1), (1533, (.aload_n 3), 1), (1534, (.invokestatic 213), 3), (1537, (.istore 5), 2), (1539, (.aload_n 2), 1), (1540, (.aload_n 0), 1), (1541, (.iload 4), 2), (1543, (.iconst 1), 1), (1544, .iadd, 1), (1545, .iaload, 1), (1546, (.aload_n 0), 1), (1547, (.iload 4), 2), (1549, (.iconst 2), 1), (1550, .iadd, 1), (1551, .iaload, 1), (1552, (.aload_n 0), 1), (1553, (.iload 4), 2), (1555, (.iconst 3), 1), (1556, .iadd, 1), (1557, .iaload, 1), (1558, (.invokevirtual 215), 3), (1561, (.istore 6), 2), (1563, (.aload_n 2), 1)] : List (Nat × Instr × Nat)).all (fun q => decide (decode code q.1 = .ok q.2)) = true := by decide +kernel
theorem dL_1340 : dc code 1340 1341 (.aload_n 3) 1 := ⟨dr_at drL_law_1340 (i := 0) rfl, rfl⟩
theorem dL_1341 : dc code 1341 1344 (.invokestatic 206) 3 := ⟨dr_at drL_law_1340 (i := 1) rfl, rfl⟩
theorem dL_1344 : dc code 1344 1346 (.istore 5) 2 := ⟨dr_at drL_law_1340 (i := 2) rfl, rfl⟩
theorem dL_1346 : dc code 1346 1347 (.aload_n 2) 1 := ⟨dr_at drL_law_1340 (i := 3) rfl, rfl⟩
theorem dL_1347 : dc code 1347 1348 (.aload_n 0) 1 := ⟨dr_at drL_law_1340 (i := 4) rfl, rfl⟩
theorem dL_1348 : dc code 1348 1350 (.iload 4) 2 := ⟨dr_at drL_law_1340 (i := 5) rfl, rfl⟩
theorem dL_1350 : dc code 1350 1351 (.iconst 1) 1 := ⟨dr_at drL_law_1340 (i := 6) rfl, rfl⟩
theorem dL_1351 : dc code 1351 1352 .iadd 1 := ⟨dr_at drL_law_1340 (i := 7) rfl, rfl⟩
theorem dL_1352 : dc code 1352 1353 .iaload 1 := ⟨dr_at drL_law_1340 (i := 8) rfl, rfl⟩
theorem dL_1353 : dc code 1353 1354 (.aload_n 0) 1 := ⟨dr_at drL_law_1340 (i := 9) rfl, rfl⟩
theorem dL_1354 : dc code 1354 1356 (.iload 4) 2 := ⟨dr_at drL_law_1340 (i := 10) rfl, rfl⟩
theorem dL_1356 : dc code 1356 1357 (.iconst 2) 1 := ⟨dr_at drL_law_1340 (i := 11) rfl, rfl⟩
theorem dL_1357 : dc code 1357 1358 .iadd 1 := ⟨dr_at drL_law_1340 (i := 12) rfl, rfl⟩
theorem dL_1358 : dc code 1358 1359 .iaload 1 := ⟨dr_at drL_law_1340 (i := 13) rfl, rfl⟩
theorem dL_1359 : dc code 1359 1360 (.aload_n 0) 1 := ⟨dr_at drL_law_1340 (i := 14) rfl, rfl⟩
theorem dL_1360 : dc code 1360 1362 (.iload 4) 2 := ⟨dr_at drL_law_1340 (i := 15) rfl, rfl⟩
theorem dL_1362 : dc code 1362 1363 (.iconst 3) 1 := ⟨dr_at drL_law_1340 (i := 16) rfl, rfl⟩
theorem dL_1363 : dc code 1363 1364 .iadd 1 := ⟨dr_at drL_law_1340 (i := 17) rfl, rfl⟩
theorem dL_1364 : dc code 1364 1365 .iaload 1 := ⟨dr_at drL_law_1340 (i := 18) rfl, rfl⟩
theorem dL_1365 : dc code 1365 1366 (.aload_n 0) 1 := ⟨dr_at drL_law_1340 (i := 19) rfl, rfl⟩
theorem dL_1366 : dc code 1366 1368 (.iload 4) 2 := ⟨dr_at drL_law_1340 (i := 20) rfl, rfl⟩
theorem dL_1368 : dc code 1368 1369 (.iconst 4) 1 := ⟨dr_at drL_law_1340 (i := 21) rfl, rfl⟩
theorem dL_1369 : dc code 1369 1370 .iadd 1 := ⟨dr_at drL_law_1340 (i := 22) rfl, rfl⟩
theorem dL_1370 : dc code 1370 1371 .iaload 1 := ⟨dr_at drL_law_1340 (i := 23) rfl, rfl⟩
theorem dL_1371 : dc code 1371 1374 (.ifCond .eq 7) 3 := ⟨dr_at drL_law_1340 (i := 24) rfl, rfl⟩
theorem dL_1374 : dc code 1374 1375 (.iconst 1) 1 := ⟨dr_at drL_law_1340 (i := 25) rfl, rfl⟩
theorem dL_1375 : dc code 1375 1378 (.goto 4) 3 := ⟨dr_at drL_law_1340 (i := 26) rfl, rfl⟩
theorem dL_1378 : dc code 1378 1379 (.iconst 0) 1 := ⟨dr_at drL_law_1340 (i := 27) rfl, rfl⟩
theorem dL_1379 : dc code 1379 1382 (.invokevirtual 208) 3 := ⟨dr_at drL_law_1340 (i := 28) rfl, rfl⟩
theorem dL_1382 : dc code 1382 1384 (.istore 6) 2 := ⟨dr_at drL_law_1340 (i := 29) rfl, rfl⟩
theorem dL_1384 : dc code 1384 1385 (.aload_n 2) 1 := ⟨dr_at drL_law_1340 (i := 30) rfl, rfl⟩
theorem dL_1385 : dc code 1385 1388 (.invokevirtual 150) 3 := ⟨dr_at drL_law_1340 (i := 31) rfl, rfl⟩
theorem dL_1388 : dc code 1388 1390 (.iload 5) 2 := ⟨dr_at drL_law_1340 (i := 32) rfl, rfl⟩
theorem dL_1390 : dc code 1390 1393 (.if_icmp .eq 5) 3 := ⟨dr_at drL_law_1340 (i := 33) rfl, rfl⟩
theorem dL_1393 : dc code 1393 1394 (.iconst 0) 1 := ⟨dr_at drL_law_1340 (i := 34) rfl, rfl⟩
theorem dL_1395 : dc code 1395 1397 (.iload 5) 2 := ⟨dr_at drL_law_1340 (i := 35) rfl, rfl⟩
theorem dL_1397 : dc code 1397 1400 (.ifCond .ne 22) 3 := ⟨dr_at drL_law_1340 (i := 36) rfl, rfl⟩
theorem dL_1400 : dc code 1400 1401 (.aload_n 3) 1 := ⟨dr_at drL_law_1340 (i := 37) rfl, rfl⟩
theorem dL_1401 : dc code 1401 1402 (.iconst 0) 1 := ⟨dr_at drL_law_1340 (i := 38) rfl, rfl⟩
theorem dL_1402 : dc code 1402 1403 .laload 1 := ⟨dr_at drL_law_1340 (i := 39) rfl, rfl⟩
theorem dL_1403 : dc code 1403 1405 (.iload 6) 2 := ⟨dr_at drL_law_1340 (i := 40) rfl, rfl⟩
theorem dL_1405 : dc code 1405 1408 (.ifCond .eq 7) 3 := ⟨dr_at drL_law_1340 (i := 41) rfl, rfl⟩
theorem dL_1408 : dc code 1408 1409 (.lconst 1) 1 := ⟨dr_at drL_law_1340 (i := 42) rfl, rfl⟩
theorem dL_1409 : dc code 1409 1412 (.goto 4) 3 := ⟨dr_at drL_law_1340 (i := 43) rfl, rfl⟩
theorem dL_1412 : dc code 1412 1413 (.lconst 0) 1 := ⟨dr_at drL_law_1340 (i := 44) rfl, rfl⟩
theorem dL_1413 : dc code 1413 1414 .lcmp 1 := ⟨dr_at drL_law_1340 (i := 45) rfl, rfl⟩
theorem dL_1414 : dc code 1414 1417 (.ifCond .eq 5) 3 := ⟨dr_at drL_law_1340 (i := 46) rfl, rfl⟩
theorem dL_1417 : dc code 1417 1418 (.iconst 0) 1 := ⟨dr_at drL_law_1340 (i := 47) rfl, rfl⟩
theorem dL_1419 : dc code 1419 1422 (.goto 1363) 3 := ⟨dr_at drL_law_1340 (i := 48) rfl, rfl⟩
theorem dL_1422 : dc code 1422 1423 (.aload_n 1) 1 := ⟨dr_at drL_law_1340 (i := 49) rfl, rfl⟩
theorem dL_1423 : dc code 1423 1424 (.aload_n 0) 1 := ⟨dr_at drL_law_1340 (i := 50) rfl, rfl⟩
theorem dL_1424 : dc code 1424 1426 (.iload 4) 2 := ⟨dr_at drL_law_1340 (i := 51) rfl, rfl⟩
theorem dL_1426 : dc code 1426 1427 (.iconst 1) 1 := ⟨dr_at drL_law_1340 (i := 52) rfl, rfl⟩
theorem dL_1427 : dc code 1427 1428 .iadd 1 := ⟨dr_at drL_law_1340 (i := 53) rfl, rfl⟩
theorem dL_1428 : dc code 1428 1429 .iaload 1 := ⟨dr_at drL_law_1340 (i := 54) rfl, rfl⟩
theorem dL_1429 : dc code 1429 1430 (.aload_n 0) 1 := ⟨dr_at drL_law_1340 (i := 55) rfl, rfl⟩
theorem dL_1430 : dc code 1430 1432 (.iload 4) 2 := ⟨dr_at drL_law_1340 (i := 56) rfl, rfl⟩
theorem dL_1432 : dc code 1432 1433 (.iconst 2) 1 := ⟨dr_at drL_law_1340 (i := 57) rfl, rfl⟩
theorem dL_1433 : dc code 1433 1434 .iadd 1 := ⟨dr_at drL_law_1340 (i := 58) rfl, rfl⟩
theorem dL_1434 : dc code 1434 1435 .iaload 1 := ⟨dr_at drL_law_1340 (i := 59) rfl, rfl⟩
theorem dL_1435 : dc code 1435 1436 (.aload_n 0) 1 := ⟨dr_at drL_law_1340 (i := 60) rfl, rfl⟩
theorem dL_1436 : dc code 1436 1438 (.iload 4) 2 := ⟨dr_at drL_law_1340 (i := 61) rfl, rfl⟩
theorem dL_1438 : dc code 1438 1439 (.iconst 3) 1 := ⟨dr_at drL_law_1340 (i := 62) rfl, rfl⟩
theorem dL_1439 : dc code 1439 1440 .iadd 1 := ⟨dr_at drL_law_1340 (i := 63) rfl, rfl⟩
theorem dL_1440 : dc code 1440 1441 .iaload 1 := ⟨dr_at drL_law_1340 (i := 64) rfl, rfl⟩
theorem dL_1441 : dc code 1441 1442 (.aload_n 0) 1 := ⟨dr_at drL_law_1340 (i := 65) rfl, rfl⟩
theorem dL_1442 : dc code 1442 1444 (.iload 4) 2 := ⟨dr_at drL_law_1340 (i := 66) rfl, rfl⟩
theorem dL_1444 : dc code 1444 1445 (.iconst 4) 1 := ⟨dr_at drL_law_1340 (i := 67) rfl, rfl⟩
theorem dL_1445 : dc code 1445 1446 .iadd 1 := ⟨dr_at drL_law_1340 (i := 68) rfl, rfl⟩
theorem dL_1446 : dc code 1446 1447 .iaload 1 := ⟨dr_at drL_law_1340 (i := 69) rfl, rfl⟩
theorem dL_1447 : dc code 1447 1448 (.aload_n 3) 1 := ⟨dr_at drL_law_1340 (i := 70) rfl, rfl⟩
theorem dL_1448 : dc code 1448 1451 (.invokestatic 209) 3 := ⟨dr_at drL_law_1340 (i := 71) rfl, rfl⟩
theorem dL_1451 : dc code 1451 1453 (.istore 5) 2 := ⟨dr_at drL_law_1340 (i := 72) rfl, rfl⟩
theorem dL_1453 : dc code 1453 1454 (.aload_n 2) 1 := ⟨dr_at drL_law_1340 (i := 73) rfl, rfl⟩
theorem dL_1454 : dc code 1454 1455 (.aload_n 0) 1 := ⟨dr_at drL_law_1340 (i := 74) rfl, rfl⟩
theorem dL_1455 : dc code 1455 1457 (.iload 4) 2 := ⟨dr_at drL_law_1340 (i := 75) rfl, rfl⟩
theorem dL_1457 : dc code 1457 1458 (.iconst 1) 1 := ⟨dr_at drL_law_1340 (i := 76) rfl, rfl⟩
theorem dL_1458 : dc code 1458 1459 .iadd 1 := ⟨dr_at drL_law_1340 (i := 77) rfl, rfl⟩
theorem dL_1459 : dc code 1459 1460 .iaload 1 := ⟨dr_at drL_law_1340 (i := 78) rfl, rfl⟩
theorem dL_1460 : dc code 1460 1461 (.aload_n 0) 1 := ⟨dr_at drL_law_1340 (i := 79) rfl, rfl⟩
theorem dL_1461 : dc code 1461 1463 (.iload 4) 2 := ⟨dr_at drL_law_1340 (i := 80) rfl, rfl⟩
theorem dL_1463 : dc code 1463 1464 (.iconst 2) 1 := ⟨dr_at drL_law_1340 (i := 81) rfl, rfl⟩
theorem dL_1464 : dc code 1464 1465 .iadd 1 := ⟨dr_at drL_law_1340 (i := 82) rfl, rfl⟩
theorem dL_1465 : dc code 1465 1466 .iaload 1 := ⟨dr_at drL_law_1340 (i := 83) rfl, rfl⟩
theorem dL_1466 : dc code 1466 1467 (.aload_n 0) 1 := ⟨dr_at drL_law_1340 (i := 84) rfl, rfl⟩
theorem dL_1467 : dc code 1467 1469 (.iload 4) 2 := ⟨dr_at drL_law_1340 (i := 85) rfl, rfl⟩
theorem dL_1469 : dc code 1469 1470 (.iconst 3) 1 := ⟨dr_at drL_law_1340 (i := 86) rfl, rfl⟩
theorem dL_1470 : dc code 1470 1471 .iadd 1 := ⟨dr_at drL_law_1340 (i := 87) rfl, rfl⟩
theorem dL_1471 : dc code 1471 1472 .iaload 1 := ⟨dr_at drL_law_1340 (i := 88) rfl, rfl⟩
theorem dL_1472 : dc code 1472 1473 (.aload_n 0) 1 := ⟨dr_at drL_law_1340 (i := 89) rfl, rfl⟩
theorem dL_1473 : dc code 1473 1475 (.iload 4) 2 := ⟨dr_at drL_law_1340 (i := 90) rfl, rfl⟩
theorem dL_1475 : dc code 1475 1476 (.iconst 4) 1 := ⟨dr_at drL_law_1340 (i := 91) rfl, rfl⟩
theorem dL_1476 : dc code 1476 1477 .iadd 1 := ⟨dr_at drL_law_1340 (i := 92) rfl, rfl⟩
theorem dL_1477 : dc code 1477 1478 .iaload 1 := ⟨dr_at drL_law_1340 (i := 93) rfl, rfl⟩
theorem dL_1478 : dc code 1478 1481 (.invokevirtual 212) 3 := ⟨dr_at drL_law_1340 (i := 94) rfl, rfl⟩
theorem dL_1481 : dc code 1481 1483 (.istore 6) 2 := ⟨dr_at drL_law_1340 (i := 95) rfl, rfl⟩
theorem dL_1483 : dc code 1483 1484 (.aload_n 2) 1 := ⟨dr_at drL_law_1340 (i := 96) rfl, rfl⟩
theorem dL_1484 : dc code 1484 1487 (.invokevirtual 150) 3 := ⟨dr_at drL_law_1340 (i := 97) rfl, rfl⟩
theorem dL_1487 : dc code 1487 1489 (.iload 5) 2 := ⟨dr_at drL_law_1340 (i := 98) rfl, rfl⟩
theorem dL_1489 : dc code 1489 1492 (.if_icmp .eq 5) 3 := ⟨dr_at drL_law_1340 (i := 99) rfl, rfl⟩
theorem dL_1492 : dc code 1492 1493 (.iconst 0) 1 := ⟨dr_at drL_law_1340 (i := 100) rfl, rfl⟩
theorem dL_1494 : dc code 1494 1496 (.iload 5) 2 := ⟨dr_at drL_law_1340 (i := 101) rfl, rfl⟩
theorem dL_1496 : dc code 1496 1499 (.ifCond .ne 15) 3 := ⟨dr_at drL_law_1340 (i := 102) rfl, rfl⟩
theorem dL_1499 : dc code 1499 1500 (.aload_n 3) 1 := ⟨dr_at drL_law_1340 (i := 103) rfl, rfl⟩
theorem dL_1500 : dc code 1500 1501 (.iconst 0) 1 := ⟨dr_at drL_law_1340 (i := 104) rfl, rfl⟩
theorem dL_1501 : dc code 1501 1502 .laload 1 := ⟨dr_at drL_law_1340 (i := 105) rfl, rfl⟩
theorem dL_1502 : dc code 1502 1504 (.iload 6) 2 := ⟨dr_at drL_law_1340 (i := 106) rfl, rfl⟩
theorem dL_1504 : dc code 1504 1505 .i2l 1 := ⟨dr_at drL_law_1340 (i := 107) rfl, rfl⟩
theorem dL_1505 : dc code 1505 1506 .lcmp 1 := ⟨dr_at drL_law_1340 (i := 108) rfl, rfl⟩
theorem dL_1506 : dc code 1506 1509 (.ifCond .eq 5) 3 := ⟨dr_at drL_law_1340 (i := 109) rfl, rfl⟩
theorem dL_1509 : dc code 1509 1510 (.iconst 0) 1 := ⟨dr_at drL_law_1340 (i := 110) rfl, rfl⟩
theorem dL_1511 : dc code 1511 1514 (.goto 1271) 3 := ⟨dr_at drL_law_1340 (i := 111) rfl, rfl⟩
theorem dL_1514 : dc code 1514 1515 (.aload_n 1) 1 := ⟨dr_at drL_law_1340 (i := 112) rfl, rfl⟩
theorem dL_1515 : dc code 1515 1516 (.aload_n 0) 1 := ⟨dr_at drL_law_1340 (i := 113) rfl, rfl⟩
theorem dL_1516 : dc code 1516 1518 (.iload 4) 2 := ⟨dr_at drL_law_1340 (i := 114) rfl, rfl⟩
theorem dL_1518 : dc code 1518 1519 (.iconst 1) 1 := ⟨dr_at drL_law_1340 (i := 115) rfl, rfl⟩
theorem dL_1519 : dc code 1519 1520 .iadd 1 := ⟨dr_at drL_law_1340 (i := 116) rfl, rfl⟩
theorem dL_1520 : dc code 1520 1521 .iaload 1 := ⟨dr_at drL_law_1340 (i := 117) rfl, rfl⟩
theorem dL_1521 : dc code 1521 1522 (.aload_n 0) 1 := ⟨dr_at drL_law_1340 (i := 118) rfl, rfl⟩
theorem dL_1522 : dc code 1522 1524 (.iload 4) 2 := ⟨dr_at drL_law_1340 (i := 119) rfl, rfl⟩
theorem dL_1524 : dc code 1524 1525 (.iconst 2) 1 := ⟨dr_at drL_law_1340 (i := 120) rfl, rfl⟩
theorem dL_1525 : dc code 1525 1526 .iadd 1 := ⟨dr_at drL_law_1340 (i := 121) rfl, rfl⟩
theorem dL_1526 : dc code 1526 1527 .iaload 1 := ⟨dr_at drL_law_1340 (i := 122) rfl, rfl⟩
theorem dL_1527 : dc code 1527 1528 (.aload_n 0) 1 := ⟨dr_at drL_law_1340 (i := 123) rfl, rfl⟩
theorem dL_1528 : dc code 1528 1530 (.iload 4) 2 := ⟨dr_at drL_law_1340 (i := 124) rfl, rfl⟩
theorem dL_1530 : dc code 1530 1531 (.iconst 3) 1 := ⟨dr_at drL_law_1340 (i := 125) rfl, rfl⟩
theorem dL_1531 : dc code 1531 1532 .iadd 1 := ⟨dr_at drL_law_1340 (i := 126) rfl, rfl⟩
theorem dL_1532 : dc code 1532 1533 .iaload 1 := ⟨dr_at drL_law_1340 (i := 127) rfl, rfl⟩
theorem dL_1533 : dc code 1533 1534 (.aload_n 3) 1 := ⟨dr_at drL_law_1340 (i := 128) rfl, rfl⟩
theorem dL_1534 : dc code 1534 1537 (.invokestatic 213) 3 := ⟨dr_at drL_law_1340 (i := 129) rfl, rfl⟩
theorem dL_1537 : dc code 1537 1539 (.istore 5) 2 := ⟨dr_at drL_law_1340 (i := 130) rfl, rfl⟩
theorem dL_1539 : dc code 1539 1540 (.aload_n 2) 1 := ⟨dr_at drL_law_1340 (i := 131) rfl, rfl⟩
theorem dL_1540 : dc code 1540 1541 (.aload_n 0) 1 := ⟨dr_at drL_law_1340 (i := 132) rfl, rfl⟩
theorem dL_1541 : dc code 1541 1543 (.iload 4) 2 := ⟨dr_at drL_law_1340 (i := 133) rfl, rfl⟩
theorem dL_1543 : dc code 1543 1544 (.iconst 1) 1 := ⟨dr_at drL_law_1340 (i := 134) rfl, rfl⟩
theorem dL_1544 : dc code 1544 1545 .iadd 1 := ⟨dr_at drL_law_1340 (i := 135) rfl, rfl⟩
theorem dL_1545 : dc code 1545 1546 .iaload 1 := ⟨dr_at drL_law_1340 (i := 136) rfl, rfl⟩
theorem dL_1546 : dc code 1546 1547 (.aload_n 0) 1 := ⟨dr_at drL_law_1340 (i := 137) rfl, rfl⟩
theorem dL_1547 : dc code 1547 1549 (.iload 4) 2 := ⟨dr_at drL_law_1340 (i := 138) rfl, rfl⟩
theorem dL_1549 : dc code 1549 1550 (.iconst 2) 1 := ⟨dr_at drL_law_1340 (i := 139) rfl, rfl⟩
theorem dL_1550 : dc code 1550 1551 .iadd 1 := ⟨dr_at drL_law_1340 (i := 140) rfl, rfl⟩
theorem dL_1551 : dc code 1551 1552 .iaload 1 := ⟨dr_at drL_law_1340 (i := 141) rfl, rfl⟩
theorem dL_1552 : dc code 1552 1553 (.aload_n 0) 1 := ⟨dr_at drL_law_1340 (i := 142) rfl, rfl⟩
theorem dL_1553 : dc code 1553 1555 (.iload 4) 2 := ⟨dr_at drL_law_1340 (i := 143) rfl, rfl⟩
theorem dL_1555 : dc code 1555 1556 (.iconst 3) 1 := ⟨dr_at drL_law_1340 (i := 144) rfl, rfl⟩
theorem dL_1556 : dc code 1556 1557 .iadd 1 := ⟨dr_at drL_law_1340 (i := 145) rfl, rfl⟩
theorem dL_1557 : dc code 1557 1558 .iaload 1 := ⟨dr_at drL_law_1340 (i := 146) rfl, rfl⟩
theorem dL_1558 : dc code 1558 1561 (.invokevirtual 215) 3 := ⟨dr_at drL_law_1340 (i := 147) rfl, rfl⟩
theorem dL_1561 : dc code 1561 1563 (.istore 6) 2 := ⟨dr_at drL_law_1340 (i := 148) rfl, rfl⟩
theorem dL_1563 : dc code 1563 1564 (.aload_n 2) 1 := ⟨dr_at drL_law_1340 (i := 149) rfl, rfl⟩
theorem drL_law_1564 : ([(1564, (.invokevirtual 150), 3), (1567, (.iload 5), 2), (1569, (.if_icmp .eq 5), 3), (1572, (.iconst 0), 1), (1574, (.iload 5), 2), (1576, (.ifCond .ne 15), 3), (1579, (.aload_n 3), 1), (1580, (.iconst 0), 1), (1581, .laload, 1), (1582, (.iload 6), 2), (1584, .i2l, 1), (1585, .lcmp, 1), (1586, (.ifCond .eq 5), 3), (1589, (.iconst 0), 1), (1591, (.goto 1191), 3), (1594, (.aload_n 1), 1), (1595, (.invokevirtual 216), 3), (1598, (.aload_n 2), 1), (1599, (.invokevirtual 219), 3), (1602, (.if_icmp .eq 1180), 3), (1605, (.iconst 0), 1), (1607, (.aload_n 1), 1), (1608, (.aload_n 0), 1), (1609, (.iload 4), 2), (1611, (.iconst 1), 1), (1612, .iadd, 1), (1613, .iaload, 1), (1614, (.aload_n 0), 1), (1615, (.iload 4), 2), (1617, (.iconst 2), 1), (1618, .iadd, 1), (1619, .iaload, 1), (1620, (.invokestatic 220), 3), (1623, (.istore 5), 2), (1625, (.aload_n 2), 1), (1626, (.aload_n 0), 1), (1627, (.iload 4), 2), (1629, (.iconst 1), 1), (1630, .iadd, 1), (1631, .iaload, 1), (1632, (.aload_n 0), 1), (1633, (.iload 4), 2), (1635, (.iconst 2), 1), (1636, .iadd, 1), (1637, .iaload, 1), (1638, (.invokevirtual 222), 3), (1641, (.aload_n 2), 1), (1642, (.invokevirtual 150), 3), (1645, (.iload 5), 2), (1647, (.if_icmp .eq 5), 3), (1650, (.iconst 0), 1), (1652, (.goto 1130), 3), (1655, (.aload_n 1), 1), (1656, (.aload_n 0), 1), (1657, (.iload 4), 2), (1659, (.iconst 1), 1), (1660, .iadd, 1), (1661, .iaload, 1), (1662, (.aload_n 0), 1), (1663, (.iload 4), 2), (1665, (.iconst 2), 1), (1666, .iadd, 1), (1667, .iaload, 1), (1668, (.aload_n 0), 1), (1669, (.iload 4), 2), (1671, (.iconst 3), 1), (1672, .iadd, 1), (1673, .iaload, 1), (1674, (.aload_n 0), 1), (1675, (.iload 4), 2), (1677, (.iconst 4), 1), (1678, .iadd, 1), (1679, .iaload, 1), (1680, (.ifCond .eq 7), 3), (1683, (.iconst 1), 1), (1684, (.goto 4), 3), (1687, (.iconst 0), 1), (1688, (.aload_n 0), 1), (1689, (.iload 4), 2), (1691, (.iconst 5), 1), (1692, .iadd, 1), (1693, .iaload, 1), (1694, (.ifCond .eq 7), 3), (1697, (.iconst 1), 1), (1698, (.goto 4), 3), (1701, (.iconst 0), 1), (1702, (.aload_n 3), 1), (1703, (.invokestatic 223), 3), (1706, (.istore 5), 2), (1708, (.aload_n 2), 1), (1709, (.aload_n 0), 1), (1710, (.iload 4), 2), (1712, (.iconst 1), 1), (1713, .iadd, 1), (1714, .iaload, 1), (1715, (.aload_n 0), 1), (1716, (.iload 4), 2), (1718, (.iconst 2), 1), (1719, .iadd, 1), (1720, .iaload, 1), (1721, (.aload_n 0), 1), (1722, (.iload 4), 2), (1724, (.iconst 3), 1), (1725, .iadd, 1), (1726, .iaload, 1), (1727, (.aload_n 0), 1), (1728, (.iload 4), 2), (1730, (.iconst 4), 1), (1731, .iadd, 1), (1732, .iaload, 1), (1733, (.ifCond .eq 7), 3), (1736, (.iconst 1), 1), (1737, (.goto 4), 3), (1740, (.iconst 0), 1), (1741, (.aload_n 0), 1), (1742, (.iload 4), 2), (1744, (.iconst 5), 1), (1745, .iadd, 1), (1746, .iaload, 1), (1747, (.ifCond .eq 7), 3), (1750, (.iconst 1), 1), (1751, (.goto 4), 3), (1754, (.iconst 0), 1), (1755, (.invokevirtual 226), 3), (1758, (.lstore 6), 2), (1760, (.aload_n 2), 1), (1761, (.invokevirtual 150), 3), (1764, (.iload 5), 2), (1766, (.if_icmp .eq 5), 3), (1769, (.iconst 0), 1), (1771, (.iload 5), 2), (1773, (.ifCond .ne 14), 3), (1776, (.aload_n 3), 1), (1777, (.iconst 0), 1), (1778, .laload, 1), (1779, (.lload 6), 2), (1781, .lcmp, 1), (1782, (.ifCond .eq 5), 3), (1785, (.iconst 0), 1), (1787, (.goto 995), 3), (1790, (.aload_n 1), 1), (1791, (.aload_n 3), 1), (1792, (.invokestatic 227), 3), (1795, (.istore 5), 2), (1797, (.aload_n 2), 1), (1798, (.invokevirtual 229), 3), (1801, (.istore 6), 2), (1803, (.aload_n 2), 1), (1804, (.invokevirtual 150), 3), (1807, (.iload 5), 2)] : List (Nat × Instr × Nat)).all (fun q => decide (decode code q.1 = .ok q.2)) = true := by decide +kernel
theorem dL_1564 : dc code 1564 1567 (.invokevirtual 150) 3 := ⟨dr_at drL_law_1564 (i := 0) rfl, rfl⟩
theorem dL_1567 : dc code 1567 1569 (.iload 5) 2 := ⟨dr_at drL_law_1564 (i := 1) rfl, rfl⟩
theorem dL_1569 : dc code 1569 1572 (.if_icmp .eq 5) 3 := ⟨dr_at drL_law_1564 (i := 2) rfl, rfl⟩
theorem dL_1572 : dc code 1572 1573 (.iconst 0) 1 := ⟨dr_at drL_law_1564 (i := 3) rfl, rfl⟩
theorem dL_1574 : dc code 1574 1576 (.iload 5) 2 := ⟨dr_at drL_law_1564 (i := 4) rfl, rfl⟩
theorem dL_1576 : dc code 1576 1579 (.ifCond .ne 15) 3 := ⟨dr_at drL_law_1564 (i := 5) rfl, rfl⟩
theorem dL_1579 : dc code 1579 1580 (.aload_n 3) 1 := ⟨dr_at drL_law_1564 (i := 6) rfl, rfl⟩
theorem dL_1580 : dc code 1580 1581 (.iconst 0) 1 := ⟨dr_at drL_law_1564 (i := 7) rfl, rfl⟩
theorem dL_1581 : dc code 1581 1582 .laload 1 := ⟨dr_at drL_law_1564 (i := 8) rfl, rfl⟩
theorem dL_1582 : dc code 1582 1584 (.iload 6) 2 := ⟨dr_at drL_law_1564 (i := 9) rfl, rfl⟩
theorem dL_1584 : dc code 1584 1585 .i2l 1 := ⟨dr_at drL_law_1564 (i := 10) rfl, rfl⟩
theorem dL_1585 : dc code 1585 1586 .lcmp 1 := ⟨dr_at drL_law_1564 (i := 11) rfl, rfl⟩
theorem dL_1586 : dc code 1586 1589 (.ifCond .eq 5) 3 := ⟨dr_at drL_law_1564 (i := 12) rfl, rfl⟩
theorem dL_1589 : dc code 1589 1590 (.iconst 0) 1 := ⟨dr_at drL_law_1564 (i := 13) rfl, rfl⟩
theorem dL_1591 : dc code 1591 1594 (.goto 1191) 3 := ⟨dr_at drL_law_1564 (i := 14) rfl, rfl⟩
theorem dL_1594 : dc code 1594 1595 (.aload_n 1) 1 := ⟨dr_at drL_law_1564 (i := 15) rfl, rfl⟩
theorem dL_1595 : dc code 1595 1598 (.invokevirtual 216) 3 := ⟨dr_at drL_law_1564 (i := 16) rfl, rfl⟩
theorem dL_1598 : dc code 1598 1599 (.aload_n 2) 1 := ⟨dr_at drL_law_1564 (i := 17) rfl, rfl⟩
theorem dL_1599 : dc code 1599 1602 (.invokevirtual 219) 3 := ⟨dr_at drL_law_1564 (i := 18) rfl, rfl⟩
theorem dL_1602 : dc code 1602 1605 (.if_icmp .eq 1180) 3 := ⟨dr_at drL_law_1564 (i := 19) rfl, rfl⟩
theorem dL_1605 : dc code 1605 1606 (.iconst 0) 1 := ⟨dr_at drL_law_1564 (i := 20) rfl, rfl⟩
theorem dL_1607 : dc code 1607 1608 (.aload_n 1) 1 := ⟨dr_at drL_law_1564 (i := 21) rfl, rfl⟩
theorem dL_1608 : dc code 1608 1609 (.aload_n 0) 1 := ⟨dr_at drL_law_1564 (i := 22) rfl, rfl⟩
theorem dL_1609 : dc code 1609 1611 (.iload 4) 2 := ⟨dr_at drL_law_1564 (i := 23) rfl, rfl⟩
theorem dL_1611 : dc code 1611 1612 (.iconst 1) 1 := ⟨dr_at drL_law_1564 (i := 24) rfl, rfl⟩
theorem dL_1612 : dc code 1612 1613 .iadd 1 := ⟨dr_at drL_law_1564 (i := 25) rfl, rfl⟩
theorem dL_1613 : dc code 1613 1614 .iaload 1 := ⟨dr_at drL_law_1564 (i := 26) rfl, rfl⟩
theorem dL_1614 : dc code 1614 1615 (.aload_n 0) 1 := ⟨dr_at drL_law_1564 (i := 27) rfl, rfl⟩
theorem dL_1615 : dc code 1615 1617 (.iload 4) 2 := ⟨dr_at drL_law_1564 (i := 28) rfl, rfl⟩
theorem dL_1617 : dc code 1617 1618 (.iconst 2) 1 := ⟨dr_at drL_law_1564 (i := 29) rfl, rfl⟩
theorem dL_1618 : dc code 1618 1619 .iadd 1 := ⟨dr_at drL_law_1564 (i := 30) rfl, rfl⟩
theorem dL_1619 : dc code 1619 1620 .iaload 1 := ⟨dr_at drL_law_1564 (i := 31) rfl, rfl⟩
theorem dL_1620 : dc code 1620 1623 (.invokestatic 220) 3 := ⟨dr_at drL_law_1564 (i := 32) rfl, rfl⟩
theorem dL_1623 : dc code 1623 1625 (.istore 5) 2 := ⟨dr_at drL_law_1564 (i := 33) rfl, rfl⟩
theorem dL_1625 : dc code 1625 1626 (.aload_n 2) 1 := ⟨dr_at drL_law_1564 (i := 34) rfl, rfl⟩
theorem dL_1626 : dc code 1626 1627 (.aload_n 0) 1 := ⟨dr_at drL_law_1564 (i := 35) rfl, rfl⟩
theorem dL_1627 : dc code 1627 1629 (.iload 4) 2 := ⟨dr_at drL_law_1564 (i := 36) rfl, rfl⟩
theorem dL_1629 : dc code 1629 1630 (.iconst 1) 1 := ⟨dr_at drL_law_1564 (i := 37) rfl, rfl⟩
theorem dL_1630 : dc code 1630 1631 .iadd 1 := ⟨dr_at drL_law_1564 (i := 38) rfl, rfl⟩
theorem dL_1631 : dc code 1631 1632 .iaload 1 := ⟨dr_at drL_law_1564 (i := 39) rfl, rfl⟩
theorem dL_1632 : dc code 1632 1633 (.aload_n 0) 1 := ⟨dr_at drL_law_1564 (i := 40) rfl, rfl⟩
theorem dL_1633 : dc code 1633 1635 (.iload 4) 2 := ⟨dr_at drL_law_1564 (i := 41) rfl, rfl⟩
theorem dL_1635 : dc code 1635 1636 (.iconst 2) 1 := ⟨dr_at drL_law_1564 (i := 42) rfl, rfl⟩
theorem dL_1636 : dc code 1636 1637 .iadd 1 := ⟨dr_at drL_law_1564 (i := 43) rfl, rfl⟩
theorem dL_1637 : dc code 1637 1638 .iaload 1 := ⟨dr_at drL_law_1564 (i := 44) rfl, rfl⟩
theorem dL_1638 : dc code 1638 1641 (.invokevirtual 222) 3 := ⟨dr_at drL_law_1564 (i := 45) rfl, rfl⟩
theorem dL_1641 : dc code 1641 1642 (.aload_n 2) 1 := ⟨dr_at drL_law_1564 (i := 46) rfl, rfl⟩
theorem dL_1642 : dc code 1642 1645 (.invokevirtual 150) 3 := ⟨dr_at drL_law_1564 (i := 47) rfl, rfl⟩
theorem dL_1645 : dc code 1645 1647 (.iload 5) 2 := ⟨dr_at drL_law_1564 (i := 48) rfl, rfl⟩
theorem dL_1647 : dc code 1647 1650 (.if_icmp .eq 5) 3 := ⟨dr_at drL_law_1564 (i := 49) rfl, rfl⟩
theorem dL_1650 : dc code 1650 1651 (.iconst 0) 1 := ⟨dr_at drL_law_1564 (i := 50) rfl, rfl⟩
theorem dL_1652 : dc code 1652 1655 (.goto 1130) 3 := ⟨dr_at drL_law_1564 (i := 51) rfl, rfl⟩
theorem dL_1655 : dc code 1655 1656 (.aload_n 1) 1 := ⟨dr_at drL_law_1564 (i := 52) rfl, rfl⟩
theorem dL_1656 : dc code 1656 1657 (.aload_n 0) 1 := ⟨dr_at drL_law_1564 (i := 53) rfl, rfl⟩
theorem dL_1657 : dc code 1657 1659 (.iload 4) 2 := ⟨dr_at drL_law_1564 (i := 54) rfl, rfl⟩
theorem dL_1659 : dc code 1659 1660 (.iconst 1) 1 := ⟨dr_at drL_law_1564 (i := 55) rfl, rfl⟩
theorem dL_1660 : dc code 1660 1661 .iadd 1 := ⟨dr_at drL_law_1564 (i := 56) rfl, rfl⟩
theorem dL_1661 : dc code 1661 1662 .iaload 1 := ⟨dr_at drL_law_1564 (i := 57) rfl, rfl⟩
theorem dL_1662 : dc code 1662 1663 (.aload_n 0) 1 := ⟨dr_at drL_law_1564 (i := 58) rfl, rfl⟩
theorem dL_1663 : dc code 1663 1665 (.iload 4) 2 := ⟨dr_at drL_law_1564 (i := 59) rfl, rfl⟩
theorem dL_1665 : dc code 1665 1666 (.iconst 2) 1 := ⟨dr_at drL_law_1564 (i := 60) rfl, rfl⟩
theorem dL_1666 : dc code 1666 1667 .iadd 1 := ⟨dr_at drL_law_1564 (i := 61) rfl, rfl⟩
theorem dL_1667 : dc code 1667 1668 .iaload 1 := ⟨dr_at drL_law_1564 (i := 62) rfl, rfl⟩
theorem dL_1668 : dc code 1668 1669 (.aload_n 0) 1 := ⟨dr_at drL_law_1564 (i := 63) rfl, rfl⟩
theorem dL_1669 : dc code 1669 1671 (.iload 4) 2 := ⟨dr_at drL_law_1564 (i := 64) rfl, rfl⟩
theorem dL_1671 : dc code 1671 1672 (.iconst 3) 1 := ⟨dr_at drL_law_1564 (i := 65) rfl, rfl⟩
theorem dL_1672 : dc code 1672 1673 .iadd 1 := ⟨dr_at drL_law_1564 (i := 66) rfl, rfl⟩
theorem dL_1673 : dc code 1673 1674 .iaload 1 := ⟨dr_at drL_law_1564 (i := 67) rfl, rfl⟩
theorem dL_1674 : dc code 1674 1675 (.aload_n 0) 1 := ⟨dr_at drL_law_1564 (i := 68) rfl, rfl⟩
theorem dL_1675 : dc code 1675 1677 (.iload 4) 2 := ⟨dr_at drL_law_1564 (i := 69) rfl, rfl⟩
theorem dL_1677 : dc code 1677 1678 (.iconst 4) 1 := ⟨dr_at drL_law_1564 (i := 70) rfl, rfl⟩
theorem dL_1678 : dc code 1678 1679 .iadd 1 := ⟨dr_at drL_law_1564 (i := 71) rfl, rfl⟩
theorem dL_1679 : dc code 1679 1680 .iaload 1 := ⟨dr_at drL_law_1564 (i := 72) rfl, rfl⟩
theorem dL_1680 : dc code 1680 1683 (.ifCond .eq 7) 3 := ⟨dr_at drL_law_1564 (i := 73) rfl, rfl⟩
theorem dL_1683 : dc code 1683 1684 (.iconst 1) 1 := ⟨dr_at drL_law_1564 (i := 74) rfl, rfl⟩
theorem dL_1684 : dc code 1684 1687 (.goto 4) 3 := ⟨dr_at drL_law_1564 (i := 75) rfl, rfl⟩
theorem dL_1687 : dc code 1687 1688 (.iconst 0) 1 := ⟨dr_at drL_law_1564 (i := 76) rfl, rfl⟩
theorem dL_1688 : dc code 1688 1689 (.aload_n 0) 1 := ⟨dr_at drL_law_1564 (i := 77) rfl, rfl⟩
theorem dL_1689 : dc code 1689 1691 (.iload 4) 2 := ⟨dr_at drL_law_1564 (i := 78) rfl, rfl⟩
theorem dL_1691 : dc code 1691 1692 (.iconst 5) 1 := ⟨dr_at drL_law_1564 (i := 79) rfl, rfl⟩
theorem dL_1692 : dc code 1692 1693 .iadd 1 := ⟨dr_at drL_law_1564 (i := 80) rfl, rfl⟩
theorem dL_1693 : dc code 1693 1694 .iaload 1 := ⟨dr_at drL_law_1564 (i := 81) rfl, rfl⟩
theorem dL_1694 : dc code 1694 1697 (.ifCond .eq 7) 3 := ⟨dr_at drL_law_1564 (i := 82) rfl, rfl⟩
theorem dL_1697 : dc code 1697 1698 (.iconst 1) 1 := ⟨dr_at drL_law_1564 (i := 83) rfl, rfl⟩
theorem dL_1698 : dc code 1698 1701 (.goto 4) 3 := ⟨dr_at drL_law_1564 (i := 84) rfl, rfl⟩
theorem dL_1701 : dc code 1701 1702 (.iconst 0) 1 := ⟨dr_at drL_law_1564 (i := 85) rfl, rfl⟩
theorem dL_1702 : dc code 1702 1703 (.aload_n 3) 1 := ⟨dr_at drL_law_1564 (i := 86) rfl, rfl⟩
theorem dL_1703 : dc code 1703 1706 (.invokestatic 223) 3 := ⟨dr_at drL_law_1564 (i := 87) rfl, rfl⟩
theorem dL_1706 : dc code 1706 1708 (.istore 5) 2 := ⟨dr_at drL_law_1564 (i := 88) rfl, rfl⟩
theorem dL_1708 : dc code 1708 1709 (.aload_n 2) 1 := ⟨dr_at drL_law_1564 (i := 89) rfl, rfl⟩
theorem dL_1709 : dc code 1709 1710 (.aload_n 0) 1 := ⟨dr_at drL_law_1564 (i := 90) rfl, rfl⟩
theorem dL_1710 : dc code 1710 1712 (.iload 4) 2 := ⟨dr_at drL_law_1564 (i := 91) rfl, rfl⟩
theorem dL_1712 : dc code 1712 1713 (.iconst 1) 1 := ⟨dr_at drL_law_1564 (i := 92) rfl, rfl⟩
theorem dL_1713 : dc code 1713 1714 .iadd 1 := ⟨dr_at drL_law_1564 (i := 93) rfl, rfl⟩
theorem dL_1714 : dc code 1714 1715 .iaload 1 := ⟨dr_at drL_law_1564 (i := 94) rfl, rfl⟩
theorem dL_1715 : dc code 1715 1716 (.aload_n 0) 1 := ⟨dr_at drL_law_1564 (i := 95) rfl, rfl⟩
theorem dL_1716 : dc code 1716 1718 (.iload 4) 2 := ⟨dr_at drL_law_1564 (i := 96) rfl, rfl⟩
theorem dL_1718 : dc code 1718 1719 (.iconst 2) 1 := ⟨dr_at drL_law_1564 (i := 97) rfl, rfl⟩
theorem dL_1719 : dc code 1719 1720 .iadd 1 := ⟨dr_at drL_law_1564 (i := 98) rfl, rfl⟩
theorem dL_1720 : dc code 1720 1721 .iaload 1 := ⟨dr_at drL_law_1564 (i := 99) rfl, rfl⟩
theorem dL_1721 : dc code 1721 1722 (.aload_n 0) 1 := ⟨dr_at drL_law_1564 (i := 100) rfl, rfl⟩
theorem dL_1722 : dc code 1722 1724 (.iload 4) 2 := ⟨dr_at drL_law_1564 (i := 101) rfl, rfl⟩
theorem dL_1724 : dc code 1724 1725 (.iconst 3) 1 := ⟨dr_at drL_law_1564 (i := 102) rfl, rfl⟩
theorem dL_1725 : dc code 1725 1726 .iadd 1 := ⟨dr_at drL_law_1564 (i := 103) rfl, rfl⟩
theorem dL_1726 : dc code 1726 1727 .iaload 1 := ⟨dr_at drL_law_1564 (i := 104) rfl, rfl⟩
theorem dL_1727 : dc code 1727 1728 (.aload_n 0) 1 := ⟨dr_at drL_law_1564 (i := 105) rfl, rfl⟩
theorem dL_1728 : dc code 1728 1730 (.iload 4) 2 := ⟨dr_at drL_law_1564 (i := 106) rfl, rfl⟩
theorem dL_1730 : dc code 1730 1731 (.iconst 4) 1 := ⟨dr_at drL_law_1564 (i := 107) rfl, rfl⟩
theorem dL_1731 : dc code 1731 1732 .iadd 1 := ⟨dr_at drL_law_1564 (i := 108) rfl, rfl⟩
theorem dL_1732 : dc code 1732 1733 .iaload 1 := ⟨dr_at drL_law_1564 (i := 109) rfl, rfl⟩
theorem dL_1733 : dc code 1733 1736 (.ifCond .eq 7) 3 := ⟨dr_at drL_law_1564 (i := 110) rfl, rfl⟩
theorem dL_1736 : dc code 1736 1737 (.iconst 1) 1 := ⟨dr_at drL_law_1564 (i := 111) rfl, rfl⟩
theorem dL_1737 : dc code 1737 1740 (.goto 4) 3 := ⟨dr_at drL_law_1564 (i := 112) rfl, rfl⟩
theorem dL_1740 : dc code 1740 1741 (.iconst 0) 1 := ⟨dr_at drL_law_1564 (i := 113) rfl, rfl⟩
theorem dL_1741 : dc code 1741 1742 (.aload_n 0) 1 := ⟨dr_at drL_law_1564 (i := 114) rfl, rfl⟩
theorem dL_1742 : dc code 1742 1744 (.iload 4) 2 := ⟨dr_at drL_law_1564 (i := 115) rfl, rfl⟩
theorem dL_1744 : dc code 1744 1745 (.iconst 5) 1 := ⟨dr_at drL_law_1564 (i := 116) rfl, rfl⟩
theorem dL_1745 : dc code 1745 1746 .iadd 1 := ⟨dr_at drL_law_1564 (i := 117) rfl, rfl⟩
theorem dL_1746 : dc code 1746 1747 .iaload 1 := ⟨dr_at drL_law_1564 (i := 118) rfl, rfl⟩
theorem dL_1747 : dc code 1747 1750 (.ifCond .eq 7) 3 := ⟨dr_at drL_law_1564 (i := 119) rfl, rfl⟩
theorem dL_1750 : dc code 1750 1751 (.iconst 1) 1 := ⟨dr_at drL_law_1564 (i := 120) rfl, rfl⟩
theorem dL_1751 : dc code 1751 1754 (.goto 4) 3 := ⟨dr_at drL_law_1564 (i := 121) rfl, rfl⟩
theorem dL_1754 : dc code 1754 1755 (.iconst 0) 1 := ⟨dr_at drL_law_1564 (i := 122) rfl, rfl⟩
theorem dL_1755 : dc code 1755 1758 (.invokevirtual 226) 3 := ⟨dr_at drL_law_1564 (i := 123) rfl, rfl⟩
theorem dL_1758 : dc code 1758 1760 (.lstore 6) 2 := ⟨dr_at drL_law_1564 (i := 124) rfl, rfl⟩
theorem dL_1760 : dc code 1760 1761 (.aload_n 2) 1 := ⟨dr_at drL_law_1564 (i := 125) rfl, rfl⟩
theorem dL_1761 : dc code 1761 1764 (.invokevirtual 150) 3 := ⟨dr_at drL_law_1564 (i := 126) rfl, rfl⟩
theorem dL_1764 : dc code 1764 1766 (.iload 5) 2 := ⟨dr_at drL_law_1564 (i := 127) rfl, rfl⟩
theorem dL_1766 : dc code 1766 1769 (.if_icmp .eq 5) 3 := ⟨dr_at drL_law_1564 (i := 128) rfl, rfl⟩
theorem dL_1769 : dc code 1769 1770 (.iconst 0) 1 := ⟨dr_at drL_law_1564 (i := 129) rfl, rfl⟩
theorem dL_1771 : dc code 1771 1773 (.iload 5) 2 := ⟨dr_at drL_law_1564 (i := 130) rfl, rfl⟩
theorem dL_1773 : dc code 1773 1776 (.ifCond .ne 14) 3 := ⟨dr_at drL_law_1564 (i := 131) rfl, rfl⟩
theorem dL_1776 : dc code 1776 1777 (.aload_n 3) 1 := ⟨dr_at drL_law_1564 (i := 132) rfl, rfl⟩
theorem dL_1777 : dc code 1777 1778 (.iconst 0) 1 := ⟨dr_at drL_law_1564 (i := 133) rfl, rfl⟩
theorem dL_1778 : dc code 1778 1779 .laload 1 := ⟨dr_at drL_law_1564 (i := 134) rfl, rfl⟩
theorem dL_1779 : dc code 1779 1781 (.lload 6) 2 := ⟨dr_at drL_law_1564 (i := 135) rfl, rfl⟩
theorem dL_1781 : dc code 1781 1782 .lcmp 1 := ⟨dr_at drL_law_1564 (i := 136) rfl, rfl⟩
theorem dL_1782 : dc code 1782 1785 (.ifCond .eq 5) 3 := ⟨dr_at drL_law_1564 (i := 137) rfl, rfl⟩
theorem dL_1785 : dc code 1785 1786 (.iconst 0) 1 := ⟨dr_at drL_law_1564 (i := 138) rfl, rfl⟩
theorem dL_1787 : dc code 1787 1790 (.goto 995) 3 := ⟨dr_at drL_law_1564 (i := 139) rfl, rfl⟩
theorem dL_1790 : dc code 1790 1791 (.aload_n 1) 1 := ⟨dr_at drL_law_1564 (i := 140) rfl, rfl⟩
theorem dL_1791 : dc code 1791 1792 (.aload_n 3) 1 := ⟨dr_at drL_law_1564 (i := 141) rfl, rfl⟩
theorem dL_1792 : dc code 1792 1795 (.invokestatic 227) 3 := ⟨dr_at drL_law_1564 (i := 142) rfl, rfl⟩
theorem dL_1795 : dc code 1795 1797 (.istore 5) 2 := ⟨dr_at drL_law_1564 (i := 143) rfl, rfl⟩
theorem dL_1797 : dc code 1797 1798 (.aload_n 2) 1 := ⟨dr_at drL_law_1564 (i := 144) rfl, rfl⟩
theorem dL_1798 : dc code 1798 1801 (.invokevirtual 229) 3 := ⟨dr_at drL_law_1564 (i := 145) rfl, rfl⟩
theorem dL_1801 : dc code 1801 1803 (.istore 6) 2 := ⟨dr_at drL_law_1564 (i := 146) rfl, rfl⟩
theorem dL_1803 : dc code 1803 1804 (.aload_n 2) 1 := ⟨dr_at drL_law_1564 (i := 147) rfl, rfl⟩
theorem dL_1804 : dc code 1804 1807 (.invokevirtual 150) 3 := ⟨dr_at drL_law_1564 (i := 148) rfl, rfl⟩
theorem dL_1807 : dc code 1807 1809 (.iload 5) 2 := ⟨dr_at drL_law_1564 (i := 149) rfl, rfl⟩
theorem drL_law_1809 : ([(1809, (.if_icmp .eq 5), 3), (1812, (.iconst 0), 1), (1814, (.iload 5), 2), (1816, (.ifCond .ne 15), 3), (1819, (.aload_n 3), 1), (1820, (.iconst 0), 1), (1821, .laload, 1), (1822, (.iload 6), 2), (1824, .i2l, 1), (1825, .lcmp, 1), (1826, (.ifCond .eq 5), 3), (1829, (.iconst 0), 1), (1831, (.goto 951), 3), (1834, (.aload_n 1), 1), (1835, (.aload_n 0), 1), (1836, (.iload 4), 2), (1838, (.iconst 1), 1), (1839, .iadd, 1), (1840, .iaload, 1), (1841, (.aload_n 0), 1), (1842, (.iload 4), 2), (1844, (.iconst 2), 1), (1845, .iadd, 1), (1846, .iaload, 1), (1847, (.aload_n 3), 1), (1848, (.invokestatic 230), 3), (1851, (.istore 5), 2), (1853, (.aload_n 2), 1), (1854, (.aload_n 0), 1), (1855, (.iload 4), 2), (1857, (.iconst 1), 1), (1858, .iadd, 1), (1859, .iaload, 1), (1860, (.aload_n 0), 1), (1861, (.iload 4), 2), (1863, (.iconst 2), 1), (1864, .iadd, 1), (1865, .iaload, 1), (1866, (.invokevirtual 232), 3), (1869, (.istore 6), 2), (1871, (.aload_n 2), 1), (1872, (.invokevirtual 150), 3), (1875, (.iload 5), 2), (1877, (.if_icmp .eq 5), 3), (1880, (.iconst 0), 1), (1882, (.iload 5), 2), (1884, (.ifCond .ne 15), 3), (1887, (.aload_n 3), 1), (1888, (.iconst 0), 1), (1889, .laload, 1), (1890, (.iload 6), 2), (1892, .i2l, 1), (1893, .lcmp, 1), (1894, (.ifCond .eq 5), 3), (1897, (.iconst 0), 1), (1899, (.goto 883), 3), (1902, (.aload_n 1), 1), (1903, (.aload_n 0), 1), (1904, (.iload 4), 2), (1906, (.iconst 1), 1), (1907, .iadd, 1), (1908, .iaload, 1), (1909, (.aload_n 3), 1), (1910, (.invokestatic 233), 3), (1913, (.istore 5), 2), (1915, (.aload_n 2), 1), (1916, (.aload_n 0), 1), (1917, (.iload 4), 2), (1919, (.iconst 1), 1), (1920, .iadd, 1), (1921, .iaload, 1), (1922, (.invokevirtual 236), 3), (1925, (.istore 6), 2), (1927, (.aload_n 2), 1), (1928, (.invokevirtual 150), 3), (1931, (.iload 5), 2), (1933, (.if_icmp .eq 5), 3), (1936, (.iconst 0), 1), (1938, (.iload 5), 2), (1940, (.ifCond .ne 15), 3), (1943, (.aload_n 3), 1), (1944, (.iconst 0), 1), (1945, .laload, 1), (1946, (.iload 6), 2), (1948, .i2l, 1), (1949, .lcmp, 1), (1950, (.ifCond .eq 5), 3), (1953, (.iconst 0), 1), (1955, (.goto 827), 3), (1958, (.aload_n 1), 1), (1959, (.aload_n 0), 1), (1960, (.iload 4), 2), (1962, (.iconst 1), 1), (1963, .iadd, 1), (1964, .iaload, 1), (1965, (.aload_n 0), 1), (1966, (.iload 4), 2), (1968, (.iconst 2), 1), (1969, .iadd, 1), (1970, .iaload, 1), (1971, (.aload_n 0), 1), (1972, (.iload 4), 2), (1974, (.iconst 3), 1), (1975, .iadd, 1), (1976, .iaload, 1), (1977, (.aload_n 0), 1), (1978, (.iload 4), 2), (1980, (.iconst 4), 1), (1981, .iadd, 1), (1982, .iaload, 1), (1983, (.aload_n 0), 1), (1984, (.iload 4), 2), (1986, (.iconst 5), 1), (1987, .iadd, 1), (1988, .iaload, 1), (1989, (.aload_n 3), 1), (1990, (.invokestatic 237), 3), (1993, (.istore 5), 2), (1995, (.aload_n 2), 1), (1996, (.aload_n 0), 1), (1997, (.iload 4), 2), (1999, (.iconst 1), 1), (2000, .iadd, 1), (2001, .iaload, 1), (2002, (.aload_n 0), 1), (2003, (.iload 4), 2), (2005, (.iconst 2), 1), (2006, .iadd, 1), (2007, .iaload, 1), (2008, (.aload_n 0), 1), (2009, (.iload 4), 2), (2011, (.iconst 3), 1), (2012, .iadd, 1), (2013, .iaload, 1), (2014, (.aload_n 0), 1), (2015, (.iload 4), 2), (2017, (.iconst 4), 1), (2018, .iadd, 1), (2019, .iaload, 1), (2020, (.aload_n 0), 1), (2021, (.iload 4), 2), (2023, (.iconst 5), 1), (2024, .iadd, 1), (2025, .iaload, 1), (2026, (.invokevirtual 240), 3), (2029, (.istore 6), 2), (2031, (.aload_n 2), 1), (2032, (.invokevirtual 150), 3), (2035, (.iload 5), 2), (2037, (.if_icmp .eq 5), 3)] : List (Nat × Instr × Nat)).all (fun q => decide (decode code q.1 = .ok q.2)) = true := by decide +kernel
theorem dL_1809 : dc code 1809 1812 (.if_icmp .eq 5) 3 := ⟨dr_at drL_law_1809 (i := 0) rfl, rfl⟩
theorem dL_1812 : dc code 1812 1813 (.iconst 0) 1 := ⟨dr_at drL_law_1809 (i := 1) rfl, rfl⟩
theorem dL_1814 : dc code 1814 1816 (.iload 5) 2 := ⟨dr_at drL_law_1809 (i := 2) rfl, rfl⟩
theorem dL_1816 : dc code 1816 1819 (.ifCond .ne 15) 3 := ⟨dr_at drL_law_1809 (i := 3) rfl, rfl⟩
theorem dL_1819 : dc code 1819 1820 (.aload_n 3) 1 := ⟨dr_at drL_law_1809 (i := 4) rfl, rfl⟩
theorem dL_1820 : dc code 1820 1821 (.iconst 0) 1 := ⟨dr_at drL_law_1809 (i := 5) rfl, rfl⟩
theorem dL_1821 : dc code 1821 1822 .laload 1 := ⟨dr_at drL_law_1809 (i := 6) rfl, rfl⟩
theorem dL_1822 : dc code 1822 1824 (.iload 6) 2 := ⟨dr_at drL_law_1809 (i := 7) rfl, rfl⟩
theorem dL_1824 : dc code 1824 1825 .i2l 1 := ⟨dr_at drL_law_1809 (i := 8) rfl, rfl⟩
theorem dL_1825 : dc code 1825 1826 .lcmp 1 := ⟨dr_at drL_law_1809 (i := 9) rfl, rfl⟩
theorem dL_1826 : dc code 1826 1829 (.ifCond .eq 5) 3 := ⟨dr_at drL_law_1809 (i := 10) rfl, rfl⟩
theorem dL_1829 : dc code 1829 1830 (.iconst 0) 1 := ⟨dr_at drL_law_1809 (i := 11) rfl, rfl⟩
theorem dL_1831 : dc code 1831 1834 (.goto 951) 3 := ⟨dr_at drL_law_1809 (i := 12) rfl, rfl⟩
theorem dL_1834 : dc code 1834 1835 (.aload_n 1) 1 := ⟨dr_at drL_law_1809 (i := 13) rfl, rfl⟩
theorem dL_1835 : dc code 1835 1836 (.aload_n 0) 1 := ⟨dr_at drL_law_1809 (i := 14) rfl, rfl⟩
theorem dL_1836 : dc code 1836 1838 (.iload 4) 2 := ⟨dr_at drL_law_1809 (i := 15) rfl, rfl⟩
theorem dL_1838 : dc code 1838 1839 (.iconst 1) 1 := ⟨dr_at drL_law_1809 (i := 16) rfl, rfl⟩
theorem dL_1839 : dc code 1839 1840 .iadd 1 := ⟨dr_at drL_law_1809 (i := 17) rfl, rfl⟩
theorem dL_1840 : dc code 1840 1841 .iaload 1 := ⟨dr_at drL_law_1809 (i := 18) rfl, rfl⟩
theorem dL_1841 : dc code 1841 1842 (.aload_n 0) 1 := ⟨dr_at drL_law_1809 (i := 19) rfl, rfl⟩
theorem dL_1842 : dc code 1842 1844 (.iload 4) 2 := ⟨dr_at drL_law_1809 (i := 20) rfl, rfl⟩
theorem dL_1844 : dc code 1844 1845 (.iconst 2) 1 := ⟨dr_at drL_law_1809 (i := 21) rfl, rfl⟩
theorem dL_1845 : dc code 1845 1846 .iadd 1 := ⟨dr_at drL_law_1809 (i := 22) rfl, rfl⟩
theorem dL_1846 : dc code 1846 1847 .iaload 1 := ⟨dr_at drL_law_1809 (i := 23) rfl, rfl⟩
theorem dL_1847 : dc code 1847 1848 (.aload_n 3) 1 := ⟨dr_at drL_law_1809 (i := 24) rfl, rfl⟩
theorem dL_1848 : dc code 1848 1851 (.invokestatic 230) 3 := ⟨dr_at drL_law_1809 (i := 25) rfl, rfl⟩
theorem dL_1851 : dc code 1851 1853 (.istore 5) 2 := ⟨dr_at drL_law_1809 (i := 26) rfl, rfl⟩
theorem dL_1853 : dc code 1853 1854 (.aload_n 2) 1 := ⟨dr_at drL_law_1809 (i := 27) rfl, rfl⟩
theorem dL_1854 : dc code 1854 1855 (.aload_n 0) 1 := ⟨dr_at drL_law_1809 (i := 28) rfl, rfl⟩
theorem dL_1855 : dc code 1855 1857 (.iload 4) 2 := ⟨dr_at drL_law_1809 (i := 29) rfl, rfl⟩
theorem dL_1857 : dc code 1857 1858 (.iconst 1) 1 := ⟨dr_at drL_law_1809 (i := 30) rfl, rfl⟩
theorem dL_1858 : dc code 1858 1859 .iadd 1 := ⟨dr_at drL_law_1809 (i := 31) rfl, rfl⟩
theorem dL_1859 : dc code 1859 1860 .iaload 1 := ⟨dr_at drL_law_1809 (i := 32) rfl, rfl⟩
theorem dL_1860 : dc code 1860 1861 (.aload_n 0) 1 := ⟨dr_at drL_law_1809 (i := 33) rfl, rfl⟩
theorem dL_1861 : dc code 1861 1863 (.iload 4) 2 := ⟨dr_at drL_law_1809 (i := 34) rfl, rfl⟩
theorem dL_1863 : dc code 1863 1864 (.iconst 2) 1 := ⟨dr_at drL_law_1809 (i := 35) rfl, rfl⟩
theorem dL_1864 : dc code 1864 1865 .iadd 1 := ⟨dr_at drL_law_1809 (i := 36) rfl, rfl⟩
theorem dL_1865 : dc code 1865 1866 .iaload 1 := ⟨dr_at drL_law_1809 (i := 37) rfl, rfl⟩
theorem dL_1866 : dc code 1866 1869 (.invokevirtual 232) 3 := ⟨dr_at drL_law_1809 (i := 38) rfl, rfl⟩
theorem dL_1869 : dc code 1869 1871 (.istore 6) 2 := ⟨dr_at drL_law_1809 (i := 39) rfl, rfl⟩
theorem dL_1871 : dc code 1871 1872 (.aload_n 2) 1 := ⟨dr_at drL_law_1809 (i := 40) rfl, rfl⟩
theorem dL_1872 : dc code 1872 1875 (.invokevirtual 150) 3 := ⟨dr_at drL_law_1809 (i := 41) rfl, rfl⟩
theorem dL_1875 : dc code 1875 1877 (.iload 5) 2 := ⟨dr_at drL_law_1809 (i := 42) rfl, rfl⟩
theorem dL_1877 : dc code 1877 1880 (.if_icmp .eq 5) 3 := ⟨dr_at drL_law_1809 (i := 43) rfl, rfl⟩
theorem dL_1880 : dc code 1880 1881 (.iconst 0) 1 := ⟨dr_at drL_law_1809 (i := 44) rfl, rfl⟩
theorem dL_1882 : dc code 1882 1884 (.iload 5) 2 := ⟨dr_at drL_law_1809 (i := 45) rfl, rfl⟩
theorem dL_1884 : dc code 1884 1887 (.ifCond .ne 15) 3 := ⟨dr_at drL_law_1809 (i := 46) rfl, rfl⟩
theorem dL_1887 : dc code 1887 1888 (.aload_n 3) 1 := ⟨dr_at drL_law_1809 (i := 47) rfl, rfl⟩
theorem dL_1888 : dc code 1888 1889 (.iconst 0) 1 := ⟨dr_at drL_law_1809 (i := 48) rfl, rfl⟩
theorem dL_1889 : dc code 1889 1890 .laload 1 := ⟨dr_at drL_law_1809 (i := 49) rfl, rfl⟩
theorem dL_1890 : dc code 1890 1892 (.iload 6) 2 := ⟨dr_at drL_law_1809 (i := 50) rfl, rfl⟩
theorem dL_1892 : dc code 1892 1893 .i2l 1 := ⟨dr_at drL_law_1809 (i := 51) rfl, rfl⟩
theorem dL_1893 : dc code 1893 1894 .lcmp 1 := ⟨dr_at drL_law_1809 (i := 52) rfl, rfl⟩
theorem dL_1894 : dc code 1894 1897 (.ifCond .eq 5) 3 := ⟨dr_at drL_law_1809 (i := 53) rfl, rfl⟩
theorem dL_1897 : dc code 1897 1898 (.iconst 0) 1 := ⟨dr_at drL_law_1809 (i := 54) rfl, rfl⟩
theorem dL_1899 : dc code 1899 1902 (.goto 883) 3 := ⟨dr_at drL_law_1809 (i := 55) rfl, rfl⟩
theorem dL_1902 : dc code 1902 1903 (.aload_n 1) 1 := ⟨dr_at drL_law_1809 (i := 56) rfl, rfl⟩
theorem dL_1903 : dc code 1903 1904 (.aload_n 0) 1 := ⟨dr_at drL_law_1809 (i := 57) rfl, rfl⟩
theorem dL_1904 : dc code 1904 1906 (.iload 4) 2 := ⟨dr_at drL_law_1809 (i := 58) rfl, rfl⟩
theorem dL_1906 : dc code 1906 1907 (.iconst 1) 1 := ⟨dr_at drL_law_1809 (i := 59) rfl, rfl⟩
theorem dL_1907 : dc code 1907 1908 .iadd 1 := ⟨dr_at drL_law_1809 (i := 60) rfl, rfl⟩
theorem dL_1908 : dc code 1908 1909 .iaload 1 := ⟨dr_at drL_law_1809 (i := 61) rfl, rfl⟩
theorem dL_1909 : dc code 1909 1910 (.aload_n 3) 1 := ⟨dr_at drL_law_1809 (i := 62) rfl, rfl⟩
theorem dL_1910 : dc code 1910 1913 (.invokestatic 233) 3 := ⟨dr_at drL_law_1809 (i := 63) rfl, rfl⟩
theorem dL_1913 : dc code 1913 1915 (.istore 5) 2 := ⟨dr_at drL_law_1809 (i := 64) rfl, rfl⟩
theorem dL_1915 : dc code 1915 1916 (.aload_n 2) 1 := ⟨dr_at drL_law_1809 (i := 65) rfl, rfl⟩
theorem dL_1916 : dc code 1916 1917 (.aload_n 0) 1 := ⟨dr_at drL_law_1809 (i := 66) rfl, rfl⟩
theorem dL_1917 : dc code 1917 1919 (.iload 4) 2 := ⟨dr_at drL_law_1809 (i := 67) rfl, rfl⟩
theorem dL_1919 : dc code 1919 1920 (.iconst 1) 1 := ⟨dr_at drL_law_1809 (i := 68) rfl, rfl⟩
theorem dL_1920 : dc code 1920 1921 .iadd 1 := ⟨dr_at drL_law_1809 (i := 69) rfl, rfl⟩
theorem dL_1921 : dc code 1921 1922 .iaload 1 := ⟨dr_at drL_law_1809 (i := 70) rfl, rfl⟩
theorem dL_1922 : dc code 1922 1925 (.invokevirtual 236) 3 := ⟨dr_at drL_law_1809 (i := 71) rfl, rfl⟩
theorem dL_1925 : dc code 1925 1927 (.istore 6) 2 := ⟨dr_at drL_law_1809 (i := 72) rfl, rfl⟩
theorem dL_1927 : dc code 1927 1928 (.aload_n 2) 1 := ⟨dr_at drL_law_1809 (i := 73) rfl, rfl⟩
theorem dL_1928 : dc code 1928 1931 (.invokevirtual 150) 3 := ⟨dr_at drL_law_1809 (i := 74) rfl, rfl⟩
theorem dL_1931 : dc code 1931 1933 (.iload 5) 2 := ⟨dr_at drL_law_1809 (i := 75) rfl, rfl⟩
theorem dL_1933 : dc code 1933 1936 (.if_icmp .eq 5) 3 := ⟨dr_at drL_law_1809 (i := 76) rfl, rfl⟩
theorem dL_1936 : dc code 1936 1937 (.iconst 0) 1 := ⟨dr_at drL_law_1809 (i := 77) rfl, rfl⟩
theorem dL_1938 : dc code 1938 1940 (.iload 5) 2 := ⟨dr_at drL_law_1809 (i := 78) rfl, rfl⟩
theorem dL_1940 : dc code 1940 1943 (.ifCond .ne 15) 3 := ⟨dr_at drL_law_1809 (i := 79) rfl, rfl⟩
theorem dL_1943 : dc code 1943 1944 (.aload_n 3) 1 := ⟨dr_at drL_law_1809 (i := 80) rfl, rfl⟩
theorem dL_1944 : dc code 1944 1945 (.iconst 0) 1 := ⟨dr_at drL_law_1809 (i := 81) rfl, rfl⟩
theorem dL_1945 : dc code 1945 1946 .laload 1 := ⟨dr_at drL_law_1809 (i := 82) rfl, rfl⟩
theorem dL_1946 : dc code 1946 1948 (.iload 6) 2 := ⟨dr_at drL_law_1809 (i := 83) rfl, rfl⟩
theorem dL_1948 : dc code 1948 1949 .i2l 1 := ⟨dr_at drL_law_1809 (i := 84) rfl, rfl⟩
theorem dL_1949 : dc code 1949 1950 .lcmp 1 := ⟨dr_at drL_law_1809 (i := 85) rfl, rfl⟩
theorem dL_1950 : dc code 1950 1953 (.ifCond .eq 5) 3 := ⟨dr_at drL_law_1809 (i := 86) rfl, rfl⟩
theorem dL_1953 : dc code 1953 1954 (.iconst 0) 1 := ⟨dr_at drL_law_1809 (i := 87) rfl, rfl⟩
theorem dL_1955 : dc code 1955 1958 (.goto 827) 3 := ⟨dr_at drL_law_1809 (i := 88) rfl, rfl⟩
theorem dL_1958 : dc code 1958 1959 (.aload_n 1) 1 := ⟨dr_at drL_law_1809 (i := 89) rfl, rfl⟩
theorem dL_1959 : dc code 1959 1960 (.aload_n 0) 1 := ⟨dr_at drL_law_1809 (i := 90) rfl, rfl⟩
theorem dL_1960 : dc code 1960 1962 (.iload 4) 2 := ⟨dr_at drL_law_1809 (i := 91) rfl, rfl⟩
theorem dL_1962 : dc code 1962 1963 (.iconst 1) 1 := ⟨dr_at drL_law_1809 (i := 92) rfl, rfl⟩
theorem dL_1963 : dc code 1963 1964 .iadd 1 := ⟨dr_at drL_law_1809 (i := 93) rfl, rfl⟩
theorem dL_1964 : dc code 1964 1965 .iaload 1 := ⟨dr_at drL_law_1809 (i := 94) rfl, rfl⟩
theorem dL_1965 : dc code 1965 1966 (.aload_n 0) 1 := ⟨dr_at drL_law_1809 (i := 95) rfl, rfl⟩
theorem dL_1966 : dc code 1966 1968 (.iload 4) 2 := ⟨dr_at drL_law_1809 (i := 96) rfl, rfl⟩
theorem dL_1968 : dc code 1968 1969 (.iconst 2) 1 := ⟨dr_at drL_law_1809 (i := 97) rfl, rfl⟩
theorem dL_1969 : dc code 1969 1970 .iadd 1 := ⟨dr_at drL_law_1809 (i := 98) rfl, rfl⟩
theorem dL_1970 : dc code 1970 1971 .iaload 1 := ⟨dr_at drL_law_1809 (i := 99) rfl, rfl⟩
theorem dL_1971 : dc code 1971 1972 (.aload_n 0) 1 := ⟨dr_at drL_law_1809 (i := 100) rfl, rfl⟩
theorem dL_1972 : dc code 1972 1974 (.iload 4) 2 := ⟨dr_at drL_law_1809 (i := 101) rfl, rfl⟩
theorem dL_1974 : dc code 1974 1975 (.iconst 3) 1 := ⟨dr_at drL_law_1809 (i := 102) rfl, rfl⟩
theorem dL_1975 : dc code 1975 1976 .iadd 1 := ⟨dr_at drL_law_1809 (i := 103) rfl, rfl⟩
theorem dL_1976 : dc code 1976 1977 .iaload 1 := ⟨dr_at drL_law_1809 (i := 104) rfl, rfl⟩
theorem dL_1977 : dc code 1977 1978 (.aload_n 0) 1 := ⟨dr_at drL_law_1809 (i := 105) rfl, rfl⟩
theorem dL_1978 : dc code 1978 1980 (.iload 4) 2 := ⟨dr_at drL_law_1809 (i := 106) rfl, rfl⟩
theorem dL_1980 : dc code 1980 1981 (.iconst 4) 1 := ⟨dr_at drL_law_1809 (i := 107) rfl, rfl⟩
theorem dL_1981 : dc code 1981 1982 .iadd 1 := ⟨dr_at drL_law_1809 (i := 108) rfl, rfl⟩
theorem dL_1982 : dc code 1982 1983 .iaload 1 := ⟨dr_at drL_law_1809 (i := 109) rfl, rfl⟩
theorem dL_1983 : dc code 1983 1984 (.aload_n 0) 1 := ⟨dr_at drL_law_1809 (i := 110) rfl, rfl⟩
theorem dL_1984 : dc code 1984 1986 (.iload 4) 2 := ⟨dr_at drL_law_1809 (i := 111) rfl, rfl⟩
theorem dL_1986 : dc code 1986 1987 (.iconst 5) 1 := ⟨dr_at drL_law_1809 (i := 112) rfl, rfl⟩
theorem dL_1987 : dc code 1987 1988 .iadd 1 := ⟨dr_at drL_law_1809 (i := 113) rfl, rfl⟩
theorem dL_1988 : dc code 1988 1989 .iaload 1 := ⟨dr_at drL_law_1809 (i := 114) rfl, rfl⟩
theorem dL_1989 : dc code 1989 1990 (.aload_n 3) 1 := ⟨dr_at drL_law_1809 (i := 115) rfl, rfl⟩
theorem dL_1990 : dc code 1990 1993 (.invokestatic 237) 3 := ⟨dr_at drL_law_1809 (i := 116) rfl, rfl⟩
theorem dL_1993 : dc code 1993 1995 (.istore 5) 2 := ⟨dr_at drL_law_1809 (i := 117) rfl, rfl⟩
theorem dL_1995 : dc code 1995 1996 (.aload_n 2) 1 := ⟨dr_at drL_law_1809 (i := 118) rfl, rfl⟩
theorem dL_1996 : dc code 1996 1997 (.aload_n 0) 1 := ⟨dr_at drL_law_1809 (i := 119) rfl, rfl⟩
theorem dL_1997 : dc code 1997 1999 (.iload 4) 2 := ⟨dr_at drL_law_1809 (i := 120) rfl, rfl⟩
theorem dL_1999 : dc code 1999 2000 (.iconst 1) 1 := ⟨dr_at drL_law_1809 (i := 121) rfl, rfl⟩
theorem dL_2000 : dc code 2000 2001 .iadd 1 := ⟨dr_at drL_law_1809 (i := 122) rfl, rfl⟩
theorem dL_2001 : dc code 2001 2002 .iaload 1 := ⟨dr_at drL_law_1809 (i := 123) rfl, rfl⟩
theorem dL_2002 : dc code 2002 2003 (.aload_n 0) 1 := ⟨dr_at drL_law_1809 (i := 124) rfl, rfl⟩
theorem dL_2003 : dc code 2003 2005 (.iload 4) 2 := ⟨dr_at drL_law_1809 (i := 125) rfl, rfl⟩
theorem dL_2005 : dc code 2005 2006 (.iconst 2) 1 := ⟨dr_at drL_law_1809 (i := 126) rfl, rfl⟩
theorem dL_2006 : dc code 2006 2007 .iadd 1 := ⟨dr_at drL_law_1809 (i := 127) rfl, rfl⟩
theorem dL_2007 : dc code 2007 2008 .iaload 1 := ⟨dr_at drL_law_1809 (i := 128) rfl, rfl⟩
theorem dL_2008 : dc code 2008 2009 (.aload_n 0) 1 := ⟨dr_at drL_law_1809 (i := 129) rfl, rfl⟩
theorem dL_2009 : dc code 2009 2011 (.iload 4) 2 := ⟨dr_at drL_law_1809 (i := 130) rfl, rfl⟩
theorem dL_2011 : dc code 2011 2012 (.iconst 3) 1 := ⟨dr_at drL_law_1809 (i := 131) rfl, rfl⟩
theorem dL_2012 : dc code 2012 2013 .iadd 1 := ⟨dr_at drL_law_1809 (i := 132) rfl, rfl⟩
theorem dL_2013 : dc code 2013 2014 .iaload 1 := ⟨dr_at drL_law_1809 (i := 133) rfl, rfl⟩
theorem dL_2014 : dc code 2014 2015 (.aload_n 0) 1 := ⟨dr_at drL_law_1809 (i := 134) rfl, rfl⟩
theorem dL_2015 : dc code 2015 2017 (.iload 4) 2 := ⟨dr_at drL_law_1809 (i := 135) rfl, rfl⟩
theorem dL_2017 : dc code 2017 2018 (.iconst 4) 1 := ⟨dr_at drL_law_1809 (i := 136) rfl, rfl⟩
theorem dL_2018 : dc code 2018 2019 .iadd 1 := ⟨dr_at drL_law_1809 (i := 137) rfl, rfl⟩
theorem dL_2019 : dc code 2019 2020 .iaload 1 := ⟨dr_at drL_law_1809 (i := 138) rfl, rfl⟩
theorem dL_2020 : dc code 2020 2021 (.aload_n 0) 1 := ⟨dr_at drL_law_1809 (i := 139) rfl, rfl⟩
theorem dL_2021 : dc code 2021 2023 (.iload 4) 2 := ⟨dr_at drL_law_1809 (i := 140) rfl, rfl⟩
theorem dL_2023 : dc code 2023 2024 (.iconst 5) 1 := ⟨dr_at drL_law_1809 (i := 141) rfl, rfl⟩
theorem dL_2024 : dc code 2024 2025 .iadd 1 := ⟨dr_at drL_law_1809 (i := 142) rfl, rfl⟩
theorem dL_2025 : dc code 2025 2026 .iaload 1 := ⟨dr_at drL_law_1809 (i := 143) rfl, rfl⟩
theorem dL_2026 : dc code 2026 2029 (.invokevirtual 240) 3 := ⟨dr_at drL_law_1809 (i := 144) rfl, rfl⟩
theorem dL_2029 : dc code 2029 2031 (.istore 6) 2 := ⟨dr_at drL_law_1809 (i := 145) rfl, rfl⟩
theorem dL_2031 : dc code 2031 2032 (.aload_n 2) 1 := ⟨dr_at drL_law_1809 (i := 146) rfl, rfl⟩
theorem dL_2032 : dc code 2032 2035 (.invokevirtual 150) 3 := ⟨dr_at drL_law_1809 (i := 147) rfl, rfl⟩
theorem dL_2035 : dc code 2035 2037 (.iload 5) 2 := ⟨dr_at drL_law_1809 (i := 148) rfl, rfl⟩
theorem dL_2037 : dc code 2037 2040 (.if_icmp .eq 5) 3 := ⟨dr_at drL_law_1809 (i := 149) rfl, rfl⟩
theorem drL_law_2040 : ([(2040, (.iconst 0), 1), (2042, (.iload 5), 2), (2044, (.ifCond .ne 15), 3), (2047, (.aload_n 3), 1), (2048, (.iconst 0), 1), (2049, .laload, 1), (2050, (.iload 6), 2), (2052, .i2l, 1), (2053, .lcmp, 1), (2054, (.ifCond .eq 5), 3), (2057, (.iconst 0), 1), (2059, (.goto 723), 3), (2062, (.aload_n 1), 1), (2063, (.aload_n 0), 1), (2064, (.iload 4), 2), (2066, (.iconst 1), 1), (2067, .iadd, 1), (2068, .iaload, 1), (2069, (.aload_n 0), 1), (2070, (.iload 4), 2), (2072, (.iconst 2), 1), (2073, .iadd, 1), (2074, .iaload, 1), (2075, (.invokestatic 241), 3), (2078, (.istore 5), 2), (2080, (.aload_n 2), 1), (2081, (.aload_n 0), 1), (2082, (.iload 4), 2), (2084, (.iconst 1), 1), (2085, .iadd, 1), (2086, .iaload, 1), (2087, (.aload_n 0), 1), (2088, (.iload 4), 2), (2090, (.iconst 2), 1), (2091, .iadd, 1), (2092, .iaload, 1), (2093, (.invokevirtual 243), 3), (2096, (.aload_n 2), 1), (2097, (.invokevirtual 150), 3), (2100, (.iload 5), 2), (2102, (.if_icmp .eq 5), 3), (2105, (.iconst 0), 1), (2107, (.goto 675), 3), (2110, (.aload_n 1), 1), (2111, (.aload_n 0), 1), (2112, (.iload 4), 2), (2114, (.iconst 1), 1), (2115, .iadd, 1), (2116, .iaload, 1), (2117, (.invokestatic 244), 3), (2120, (.istore 5), 2), (2122, (.aload_n 2), 1), (2123, (.aload_n 0), 1), (2124, (.iload 4), 2), (2126, (.iconst 1), 1), (2127, .iadd, 1), (2128, .iaload, 1), (2129, (.invokevirtual 246), 3), (2132, (.aload_n 2), 1), (2133, (.invokevirtual 150), 3), (2136, (.iload 5), 2), (2138, (.if_icmp .eq 5), 3), (2141, (.iconst 0), 1), (2143, (.goto 639), 3), (2146, (.aload_n 1), 1), (2147, (.aload_n 0), 1), (2148, (.iload 4), 2), (2150, (.iconst 1), 1), (2151, .iadd, 1), (2152, .iaload, 1), (2153, (.aload_n 0), 1), (2154, (.iload 4), 2), (2156, (.iconst 2), 1), (2157, .iadd, 1), (2158, .iaload, 1), (2159, (.aload_n 3), 1), (2160, (.invokestatic 247), 3), (2163, (.istore 5), 2), (2165, (.aload_n 2), 1), (2166, (.aload_n 0), 1), (2167, (.iload 4), 2), (2169, (.iconst 1), 1), (2170, .iadd, 1), (2171, .iaload, 1), (2172, (.aload_n 0), 1), (2173, (.iload 4), 2), (2175, (.iconst 2), 1), (2176, .iadd, 1), (2177, .iaload, 1), (2178, (.invokevirtual 249), 3), (2181, (.istore 6), 2), (2183, (.aload_n 2), 1), (2184, (.invokevirtual 150), 3), (2187, (.iload 5), 2), (2189, (.if_icmp .eq 5), 3), (2192, (.iconst 0), 1), (2194, (.iload 5), 2), (2196, (.ifCond .ne 15), 3), (2199, (.aload_n 3), 1), (2200, (.iconst 0), 1), (2201, .laload, 1), (2202, (.iload 6), 2), (2204, .i2l, 1), (2205, .lcmp, 1), (2206, (.ifCond .eq 5), 3), (2209, (.iconst 0), 1), (2211, (.goto 571), 3), (2214, (.aload_n 1), 1), (2215, (.aload_n 0), 1), (2216, (.iload 4), 2), (2218, (.iconst 1), 1), (2219, .iadd, 1), (2220, .iaload, 1), (2221, (.aload_n 3), 1), (2222, (.invokestatic 250), 3), (2225, (.istore 5), 2), (2227, (.aload_n 2), 1), (2228, (.aload_n 0), 1), (2229, (.iload 4), 2), (2231, (.iconst 1), 1), (2232, .iadd, 1), (2233, .iaload, 1), (2234, (.invokevirtual 252), 3), (2237, (.istore 6), 2), (2239, (.aload_n 2), 1), (2240, (.invokevirtual 150), 3), (2243, (.iload 5), 2), (2245, (.if_icmp .eq 5), 3), (2248, (.iconst 0), 1), (2250, (.iload 5), 2), (2252, (.ifCond .ne 15), 3), (2255, (.aload_n 3), 1), (2256, (.iconst 0), 1), (2257, .laload, 1), (2258, (.iload 6), 2), (2260, .i2l, 1), (2261, .lcmp, 1), (2262, (.ifCond .eq 5), 3), (2265, (.iconst 0), 1), (2267, (.goto 515), 3), (2270, (.aload_n 1), 1), (2271, (.aload_n 0), 1), (2272, (.iload 4), 2), (2274, (.iconst 1), 1), (2275, .iadd, 1), (2276, .iaload, 1), (2277, (.aload_n 3), 1), (2278, (.invokestatic 253), 3), (2281, (.istore 5), 2), (2283, (.aload_n 2), 1)] : List (Nat × Instr × Nat)).all (fun q => decide (decode code q.1 = .ok q.2)) = true := by decide +kernel
theorem dL_2040 : dc code 2040 2041 (.iconst 0) 1 := ⟨dr_at drL_law_2040 (i := 0) rfl, rfl⟩
theorem dL_2042 : dc code 2042 2044 (.iload 5) 2 := ⟨dr_at drL_law_2040 (i := 1) rfl, rfl⟩
theorem dL_2044 : dc code 2044 2047 (.ifCond .ne 15) 3 := ⟨dr_at drL_law_2040 (i := 2) rfl, rfl⟩
theorem dL_2047 : dc code 2047 2048 (.aload_n 3) 1 := ⟨dr_at drL_law_2040 (i := 3) rfl, rfl⟩
theorem dL_2048 : dc code 2048 2049 (.iconst 0) 1 := ⟨dr_at drL_law_2040 (i := 4) rfl, rfl⟩
theorem dL_2049 : dc code 2049 2050 .laload 1 := ⟨dr_at drL_law_2040 (i := 5) rfl, rfl⟩
theorem dL_2050 : dc code 2050 2052 (.iload 6) 2 := ⟨dr_at drL_law_2040 (i := 6) rfl, rfl⟩
theorem dL_2052 : dc code 2052 2053 .i2l 1 := ⟨dr_at drL_law_2040 (i := 7) rfl, rfl⟩
theorem dL_2053 : dc code 2053 2054 .lcmp 1 := ⟨dr_at drL_law_2040 (i := 8) rfl, rfl⟩
theorem dL_2054 : dc code 2054 2057 (.ifCond .eq 5) 3 := ⟨dr_at drL_law_2040 (i := 9) rfl, rfl⟩
theorem dL_2057 : dc code 2057 2058 (.iconst 0) 1 := ⟨dr_at drL_law_2040 (i := 10) rfl, rfl⟩
theorem dL_2059 : dc code 2059 2062 (.goto 723) 3 := ⟨dr_at drL_law_2040 (i := 11) rfl, rfl⟩
theorem dL_2062 : dc code 2062 2063 (.aload_n 1) 1 := ⟨dr_at drL_law_2040 (i := 12) rfl, rfl⟩
theorem dL_2063 : dc code 2063 2064 (.aload_n 0) 1 := ⟨dr_at drL_law_2040 (i := 13) rfl, rfl⟩
theorem dL_2064 : dc code 2064 2066 (.iload 4) 2 := ⟨dr_at drL_law_2040 (i := 14) rfl, rfl⟩
theorem dL_2066 : dc code 2066 2067 (.iconst 1) 1 := ⟨dr_at drL_law_2040 (i := 15) rfl, rfl⟩
theorem dL_2067 : dc code 2067 2068 .iadd 1 := ⟨dr_at drL_law_2040 (i := 16) rfl, rfl⟩
theorem dL_2068 : dc code 2068 2069 .iaload 1 := ⟨dr_at drL_law_2040 (i := 17) rfl, rfl⟩
theorem dL_2069 : dc code 2069 2070 (.aload_n 0) 1 := ⟨dr_at drL_law_2040 (i := 18) rfl, rfl⟩
theorem dL_2070 : dc code 2070 2072 (.iload 4) 2 := ⟨dr_at drL_law_2040 (i := 19) rfl, rfl⟩
theorem dL_2072 : dc code 2072 2073 (.iconst 2) 1 := ⟨dr_at drL_law_2040 (i := 20) rfl, rfl⟩
theorem dL_2073 : dc code 2073 2074 .iadd 1 := ⟨dr_at drL_law_2040 (i := 21) rfl, rfl⟩
theorem dL_2074 : dc code 2074 2075 .iaload 1 := ⟨dr_at drL_law_2040 (i := 22) rfl, rfl⟩
theorem dL_2075 : dc code 2075 2078 (.invokestatic 241) 3 := ⟨dr_at drL_law_2040 (i := 23) rfl, rfl⟩
theorem dL_2078 : dc code 2078 2080 (.istore 5) 2 := ⟨dr_at drL_law_2040 (i := 24) rfl, rfl⟩
theorem dL_2080 : dc code 2080 2081 (.aload_n 2) 1 := ⟨dr_at drL_law_2040 (i := 25) rfl, rfl⟩
theorem dL_2081 : dc code 2081 2082 (.aload_n 0) 1 := ⟨dr_at drL_law_2040 (i := 26) rfl, rfl⟩
theorem dL_2082 : dc code 2082 2084 (.iload 4) 2 := ⟨dr_at drL_law_2040 (i := 27) rfl, rfl⟩
theorem dL_2084 : dc code 2084 2085 (.iconst 1) 1 := ⟨dr_at drL_law_2040 (i := 28) rfl, rfl⟩
theorem dL_2085 : dc code 2085 2086 .iadd 1 := ⟨dr_at drL_law_2040 (i := 29) rfl, rfl⟩
theorem dL_2086 : dc code 2086 2087 .iaload 1 := ⟨dr_at drL_law_2040 (i := 30) rfl, rfl⟩
theorem dL_2087 : dc code 2087 2088 (.aload_n 0) 1 := ⟨dr_at drL_law_2040 (i := 31) rfl, rfl⟩
theorem dL_2088 : dc code 2088 2090 (.iload 4) 2 := ⟨dr_at drL_law_2040 (i := 32) rfl, rfl⟩
theorem dL_2090 : dc code 2090 2091 (.iconst 2) 1 := ⟨dr_at drL_law_2040 (i := 33) rfl, rfl⟩
theorem dL_2091 : dc code 2091 2092 .iadd 1 := ⟨dr_at drL_law_2040 (i := 34) rfl, rfl⟩
theorem dL_2092 : dc code 2092 2093 .iaload 1 := ⟨dr_at drL_law_2040 (i := 35) rfl, rfl⟩
theorem dL_2093 : dc code 2093 2096 (.invokevirtual 243) 3 := ⟨dr_at drL_law_2040 (i := 36) rfl, rfl⟩
theorem dL_2096 : dc code 2096 2097 (.aload_n 2) 1 := ⟨dr_at drL_law_2040 (i := 37) rfl, rfl⟩
theorem dL_2097 : dc code 2097 2100 (.invokevirtual 150) 3 := ⟨dr_at drL_law_2040 (i := 38) rfl, rfl⟩
theorem dL_2100 : dc code 2100 2102 (.iload 5) 2 := ⟨dr_at drL_law_2040 (i := 39) rfl, rfl⟩
theorem dL_2102 : dc code 2102 2105 (.if_icmp .eq 5) 3 := ⟨dr_at drL_law_2040 (i := 40) rfl, rfl⟩
theorem dL_2105 : dc code 2105 2106 (.iconst 0) 1 := ⟨dr_at drL_law_2040 (i := 41) rfl, rfl⟩
theorem dL_2107 : dc code 2107 2110 (.goto 675) 3 := ⟨dr_at drL_law_2040 (i := 42) rfl, rfl⟩
theorem dL_2110 : dc code 2110 2111 (.aload_n 1) 1 := ⟨dr_at drL_law_2040 (i := 43) rfl, rfl⟩
theorem dL_2111 : dc code 2111 2112 (.aload_n 0) 1 := ⟨dr_at drL_law_2040 (i := 44) rfl, rfl⟩
theorem dL_2112 : dc code 2112 2114 (.iload 4) 2 := ⟨dr_at drL_law_2040 (i := 45) rfl, rfl⟩
theorem dL_2114 : dc code 2114 2115 (.iconst 1) 1 := ⟨dr_at drL_law_2040 (i := 46) rfl, rfl⟩
theorem dL_2115 : dc code 2115 2116 .iadd 1 := ⟨dr_at drL_law_2040 (i := 47) rfl, rfl⟩
theorem dL_2116 : dc code 2116 2117 .iaload 1 := ⟨dr_at drL_law_2040 (i := 48) rfl, rfl⟩
theorem dL_2117 : dc code 2117 2120 (.invokestatic 244) 3 := ⟨dr_at drL_law_2040 (i := 49) rfl, rfl⟩
theorem dL_2120 : dc code 2120 2122 (.istore 5) 2 := ⟨dr_at drL_law_2040 (i := 50) rfl, rfl⟩
theorem dL_2122 : dc code 2122 2123 (.aload_n 2) 1 := ⟨dr_at drL_law_2040 (i := 51) rfl, rfl⟩
theorem dL_2123 : dc code 2123 2124 (.aload_n 0) 1 := ⟨dr_at drL_law_2040 (i := 52) rfl, rfl⟩
theorem dL_2124 : dc code 2124 2126 (.iload 4) 2 := ⟨dr_at drL_law_2040 (i := 53) rfl, rfl⟩
theorem dL_2126 : dc code 2126 2127 (.iconst 1) 1 := ⟨dr_at drL_law_2040 (i := 54) rfl, rfl⟩
theorem dL_2127 : dc code 2127 2128 .iadd 1 := ⟨dr_at drL_law_2040 (i := 55) rfl, rfl⟩
theorem dL_2128 : dc code 2128 2129 .iaload 1 := ⟨dr_at drL_law_2040 (i := 56) rfl, rfl⟩
theorem dL_2129 : dc code 2129 2132 (.invokevirtual 246) 3 := ⟨dr_at drL_law_2040 (i := 57) rfl, rfl⟩
theorem dL_2132 : dc code 2132 2133 (.aload_n 2) 1 := ⟨dr_at drL_law_2040 (i := 58) rfl, rfl⟩
theorem dL_2133 : dc code 2133 2136 (.invokevirtual 150) 3 := ⟨dr_at drL_law_2040 (i := 59) rfl, rfl⟩
theorem dL_2136 : dc code 2136 2138 (.iload 5) 2 := ⟨dr_at drL_law_2040 (i := 60) rfl, rfl⟩
theorem dL_2138 : dc code 2138 2141 (.if_icmp .eq 5) 3 := ⟨dr_at drL_law_2040 (i := 61) rfl, rfl⟩
theorem dL_2141 : dc code 2141 2142 (.iconst 0) 1 := ⟨dr_at drL_law_2040 (i := 62) rfl, rfl⟩
theorem dL_2143 : dc code 2143 2146 (.goto 639) 3 := ⟨dr_at drL_law_2040 (i := 63) rfl, rfl⟩
theorem dL_2146 : dc code 2146 2147 (.aload_n 1) 1 := ⟨dr_at drL_law_2040 (i := 64) rfl, rfl⟩
theorem dL_2147 : dc code 2147 2148 (.aload_n 0) 1 := ⟨dr_at drL_law_2040 (i := 65) rfl, rfl⟩
theorem dL_2148 : dc code 2148 2150 (.iload 4) 2 := ⟨dr_at drL_law_2040 (i := 66) rfl, rfl⟩
theorem dL_2150 : dc code 2150 2151 (.iconst 1) 1 := ⟨dr_at drL_law_2040 (i := 67) rfl, rfl⟩
theorem dL_2151 : dc code 2151 2152 .iadd 1 := ⟨dr_at drL_law_2040 (i := 68) rfl, rfl⟩
theorem dL_2152 : dc code 2152 2153 .iaload 1 := ⟨dr_at drL_law_2040 (i := 69) rfl, rfl⟩
theorem dL_2153 : dc code 2153 2154 (.aload_n 0) 1 := ⟨dr_at drL_law_2040 (i := 70) rfl, rfl⟩
theorem dL_2154 : dc code 2154 2156 (.iload 4) 2 := ⟨dr_at drL_law_2040 (i := 71) rfl, rfl⟩
theorem dL_2156 : dc code 2156 2157 (.iconst 2) 1 := ⟨dr_at drL_law_2040 (i := 72) rfl, rfl⟩
theorem dL_2157 : dc code 2157 2158 .iadd 1 := ⟨dr_at drL_law_2040 (i := 73) rfl, rfl⟩
theorem dL_2158 : dc code 2158 2159 .iaload 1 := ⟨dr_at drL_law_2040 (i := 74) rfl, rfl⟩
theorem dL_2159 : dc code 2159 2160 (.aload_n 3) 1 := ⟨dr_at drL_law_2040 (i := 75) rfl, rfl⟩
theorem dL_2160 : dc code 2160 2163 (.invokestatic 247) 3 := ⟨dr_at drL_law_2040 (i := 76) rfl, rfl⟩
theorem dL_2163 : dc code 2163 2165 (.istore 5) 2 := ⟨dr_at drL_law_2040 (i := 77) rfl, rfl⟩
theorem dL_2165 : dc code 2165 2166 (.aload_n 2) 1 := ⟨dr_at drL_law_2040 (i := 78) rfl, rfl⟩
theorem dL_2166 : dc code 2166 2167 (.aload_n 0) 1 := ⟨dr_at drL_law_2040 (i := 79) rfl, rfl⟩
theorem dL_2167 : dc code 2167 2169 (.iload 4) 2 := ⟨dr_at drL_law_2040 (i := 80) rfl, rfl⟩
theorem dL_2169 : dc code 2169 2170 (.iconst 1) 1 := ⟨dr_at drL_law_2040 (i := 81) rfl, rfl⟩
theorem dL_2170 : dc code 2170 2171 .iadd 1 := ⟨dr_at drL_law_2040 (i := 82) rfl, rfl⟩
theorem dL_2171 : dc code 2171 2172 .iaload 1 := ⟨dr_at drL_law_2040 (i := 83) rfl, rfl⟩
theorem dL_2172 : dc code 2172 2173 (.aload_n 0) 1 := ⟨dr_at drL_law_2040 (i := 84) rfl, rfl⟩
theorem dL_2173 : dc code 2173 2175 (.iload 4) 2 := ⟨dr_at drL_law_2040 (i := 85) rfl, rfl⟩
theorem dL_2175 : dc code 2175 2176 (.iconst 2) 1 := ⟨dr_at drL_law_2040 (i := 86) rfl, rfl⟩
theorem dL_2176 : dc code 2176 2177 .iadd 1 := ⟨dr_at drL_law_2040 (i := 87) rfl, rfl⟩
theorem dL_2177 : dc code 2177 2178 .iaload 1 := ⟨dr_at drL_law_2040 (i := 88) rfl, rfl⟩
theorem dL_2178 : dc code 2178 2181 (.invokevirtual 249) 3 := ⟨dr_at drL_law_2040 (i := 89) rfl, rfl⟩
theorem dL_2181 : dc code 2181 2183 (.istore 6) 2 := ⟨dr_at drL_law_2040 (i := 90) rfl, rfl⟩
theorem dL_2183 : dc code 2183 2184 (.aload_n 2) 1 := ⟨dr_at drL_law_2040 (i := 91) rfl, rfl⟩
theorem dL_2184 : dc code 2184 2187 (.invokevirtual 150) 3 := ⟨dr_at drL_law_2040 (i := 92) rfl, rfl⟩
theorem dL_2187 : dc code 2187 2189 (.iload 5) 2 := ⟨dr_at drL_law_2040 (i := 93) rfl, rfl⟩
theorem dL_2189 : dc code 2189 2192 (.if_icmp .eq 5) 3 := ⟨dr_at drL_law_2040 (i := 94) rfl, rfl⟩
theorem dL_2192 : dc code 2192 2193 (.iconst 0) 1 := ⟨dr_at drL_law_2040 (i := 95) rfl, rfl⟩
theorem dL_2194 : dc code 2194 2196 (.iload 5) 2 := ⟨dr_at drL_law_2040 (i := 96) rfl, rfl⟩
theorem dL_2196 : dc code 2196 2199 (.ifCond .ne 15) 3 := ⟨dr_at drL_law_2040 (i := 97) rfl, rfl⟩
theorem dL_2199 : dc code 2199 2200 (.aload_n 3) 1 := ⟨dr_at drL_law_2040 (i := 98) rfl, rfl⟩
theorem dL_2200 : dc code 2200 2201 (.iconst 0) 1 := ⟨dr_at drL_law_2040 (i := 99) rfl, rfl⟩
theorem dL_2201 : dc code 2201 2202 .laload 1 := ⟨dr_at drL_law_2040 (i := 100) rfl, rfl⟩
theorem dL_2202 : dc code 2202 2204 (.iload 6) 2 := ⟨dr_at drL_law_2040 (i := 101) rfl, rfl⟩
theorem dL_2204 : dc code 2204 2205 .i2l 1 := ⟨dr_at drL_law_2040 (i := 102) rfl, rfl⟩
theorem dL_2205 : dc code 2205 2206 .lcmp 1 := ⟨dr_at drL_law_2040 (i := 103) rfl, rfl⟩
theorem dL_2206 : dc code 2206 2209 (.ifCond .eq 5) 3 := ⟨dr_at drL_law_2040 (i := 104) rfl, rfl⟩
theorem dL_2209 : dc code 2209 2210 (.iconst 0) 1 := ⟨dr_at drL_law_2040 (i := 105) rfl, rfl⟩
theorem dL_2211 : dc code 2211 2214 (.goto 571) 3 := ⟨dr_at drL_law_2040 (i := 106) rfl, rfl⟩
theorem dL_2214 : dc code 2214 2215 (.aload_n 1) 1 := ⟨dr_at drL_law_2040 (i := 107) rfl, rfl⟩
theorem dL_2215 : dc code 2215 2216 (.aload_n 0) 1 := ⟨dr_at drL_law_2040 (i := 108) rfl, rfl⟩
theorem dL_2216 : dc code 2216 2218 (.iload 4) 2 := ⟨dr_at drL_law_2040 (i := 109) rfl, rfl⟩
theorem dL_2218 : dc code 2218 2219 (.iconst 1) 1 := ⟨dr_at drL_law_2040 (i := 110) rfl, rfl⟩
theorem dL_2219 : dc code 2219 2220 .iadd 1 := ⟨dr_at drL_law_2040 (i := 111) rfl, rfl⟩
theorem dL_2220 : dc code 2220 2221 .iaload 1 := ⟨dr_at drL_law_2040 (i := 112) rfl, rfl⟩
theorem dL_2221 : dc code 2221 2222 (.aload_n 3) 1 := ⟨dr_at drL_law_2040 (i := 113) rfl, rfl⟩
theorem dL_2222 : dc code 2222 2225 (.invokestatic 250) 3 := ⟨dr_at drL_law_2040 (i := 114) rfl, rfl⟩
theorem dL_2225 : dc code 2225 2227 (.istore 5) 2 := ⟨dr_at drL_law_2040 (i := 115) rfl, rfl⟩
theorem dL_2227 : dc code 2227 2228 (.aload_n 2) 1 := ⟨dr_at drL_law_2040 (i := 116) rfl, rfl⟩
theorem dL_2228 : dc code 2228 2229 (.aload_n 0) 1 := ⟨dr_at drL_law_2040 (i := 117) rfl, rfl⟩
theorem dL_2229 : dc code 2229 2231 (.iload 4) 2 := ⟨dr_at drL_law_2040 (i := 118) rfl, rfl⟩
theorem dL_2231 : dc code 2231 2232 (.iconst 1) 1 := ⟨dr_at drL_law_2040 (i := 119) rfl, rfl⟩
theorem dL_2232 : dc code 2232 2233 .iadd 1 := ⟨dr_at drL_law_2040 (i := 120) rfl, rfl⟩
theorem dL_2233 : dc code 2233 2234 .iaload 1 := ⟨dr_at drL_law_2040 (i := 121) rfl, rfl⟩
theorem dL_2234 : dc code 2234 2237 (.invokevirtual 252) 3 := ⟨dr_at drL_law_2040 (i := 122) rfl, rfl⟩
theorem dL_2237 : dc code 2237 2239 (.istore 6) 2 := ⟨dr_at drL_law_2040 (i := 123) rfl, rfl⟩
theorem dL_2239 : dc code 2239 2240 (.aload_n 2) 1 := ⟨dr_at drL_law_2040 (i := 124) rfl, rfl⟩
theorem dL_2240 : dc code 2240 2243 (.invokevirtual 150) 3 := ⟨dr_at drL_law_2040 (i := 125) rfl, rfl⟩
theorem dL_2243 : dc code 2243 2245 (.iload 5) 2 := ⟨dr_at drL_law_2040 (i := 126) rfl, rfl⟩
theorem dL_2245 : dc code 2245 2248 (.if_icmp .eq 5) 3 := ⟨dr_at drL_law_2040 (i := 127) rfl, rfl⟩
theorem dL_2248 : dc code 2248 2249 (.iconst 0) 1 := ⟨dr_at drL_law_2040 (i := 128) rfl, rfl⟩
theorem dL_2250 : dc code 2250 2252 (.iload 5) 2 := ⟨dr_at drL_law_2040 (i := 129) rfl, rfl⟩
theorem dL_2252 : dc code 2252 2255 (.ifCond .ne 15) 3 := ⟨dr_at drL_law_2040 (i := 130) rfl, rfl⟩
theorem dL_2255 : dc code 2255 2256 (.aload_n 3) 1 := ⟨dr_at drL_law_2040 (i := 131) rfl, rfl⟩
theorem dL_2256 : dc code 2256 2257 (.iconst 0) 1 := ⟨dr_at drL_law_2040 (i := 132) rfl, rfl⟩
theorem dL_2257 : dc code 2257 2258 .laload 1 := ⟨dr_at drL_law_2040 (i := 133) rfl, rfl⟩
theorem dL_2258 : dc code 2258 2260 (.iload 6) 2 := ⟨dr_at drL_law_2040 (i := 134) rfl, rfl⟩
theorem dL_2260 : dc code 2260 2261 .i2l 1 := ⟨dr_at drL_law_2040 (i := 135) rfl, rfl⟩
theorem dL_2261 : dc code 2261 2262 .lcmp 1 := ⟨dr_at drL_law_2040 (i := 136) rfl, rfl⟩
theorem dL_2262 : dc code 2262 2265 (.ifCond .eq 5) 3 := ⟨dr_at drL_law_2040 (i := 137) rfl, rfl⟩
theorem dL_2265 : dc code 2265 2266 (.iconst 0) 1 := ⟨dr_at drL_law_2040 (i := 138) rfl, rfl⟩
theorem dL_2267 : dc code 2267 2270 (.goto 515) 3 := ⟨dr_at drL_law_2040 (i := 139) rfl, rfl⟩
theorem dL_2270 : dc code 2270 2271 (.aload_n 1) 1 := ⟨dr_at drL_law_2040 (i := 140) rfl, rfl⟩
theorem dL_2271 : dc code 2271 2272 (.aload_n 0) 1 := ⟨dr_at drL_law_2040 (i := 141) rfl, rfl⟩
theorem dL_2272 : dc code 2272 2274 (.iload 4) 2 := ⟨dr_at drL_law_2040 (i := 142) rfl, rfl⟩
theorem dL_2274 : dc code 2274 2275 (.iconst 1) 1 := ⟨dr_at drL_law_2040 (i := 143) rfl, rfl⟩
theorem dL_2275 : dc code 2275 2276 .iadd 1 := ⟨dr_at drL_law_2040 (i := 144) rfl, rfl⟩
theorem dL_2276 : dc code 2276 2277 .iaload 1 := ⟨dr_at drL_law_2040 (i := 145) rfl, rfl⟩
theorem dL_2277 : dc code 2277 2278 (.aload_n 3) 1 := ⟨dr_at drL_law_2040 (i := 146) rfl, rfl⟩
theorem dL_2278 : dc code 2278 2281 (.invokestatic 253) 3 := ⟨dr_at drL_law_2040 (i := 147) rfl, rfl⟩
theorem dL_2281 : dc code 2281 2283 (.istore 5) 2 := ⟨dr_at drL_law_2040 (i := 148) rfl, rfl⟩
theorem dL_2283 : dc code 2283 2284 (.aload_n 2) 1 := ⟨dr_at drL_law_2040 (i := 149) rfl, rfl⟩
theorem drL_law_2284 : ([(2284, (.aload_n 0), 1), (2285, (.iload 4), 2), (2287, (.iconst 1), 1), (2288, .iadd, 1), (2289, .iaload, 1), (2290, (.invokevirtual 255), 3), (2293, (.istore 6), 2), (2295, (.aload_n 2), 1), (2296, (.invokevirtual 150), 3), (2299, (.iload 5), 2), (2301, (.if_icmp .eq 5), 3), (2304, (.iconst 0), 1), (2306, (.iload 5), 2), (2308, (.ifCond .ne 15), 3), (2311, (.aload_n 3), 1), (2312, (.iconst 0), 1), (2313, .laload, 1), (2314, (.iload 6), 2), (2316, .i2l, 1), (2317, .lcmp, 1), (2318, (.ifCond .eq 5), 3), (2321, (.iconst 0), 1), (2323, (.goto 459), 3), (2326, (.aload_n 1), 1), (2327, (.aload_n 0), 1), (2328, (.iload 4), 2), (2330, (.iconst 1), 1), (2331, .iadd, 1), (2332, .iaload, 1), (2333, (.aload_n 3), 1), (2334, (.invokestatic 256), 3), (2337, (.istore 5), 2), (2339, (.aload_n 2), 1), (2340, (.aload_n 0), 1), (2341, (.iload 4), 2), (2343, (.iconst 1), 1), (2344, .iadd, 1), (2345, .iaload, 1), (2346, (.invokevirtual 258), 3), (2349, (.istore 6), 2), (2351, (.aload_n 2), 1), (2352, (.invokevirtual 150), 3), (2355, (.iload 5), 2), (2357, (.if_icmp .eq 5), 3), (2360, (.iconst 0), 1), (2362, (.iload 5), 2), (2364, (.ifCond .ne 22), 3), (2367, (.aload_n 3), 1), (2368, (.iconst 0), 1), (2369, .laload, 1), (2370, (.iload 6), 2), (2372, (.ifCond .eq 7), 3), (2375, (.lconst 1), 1), (2376, (.goto 4), 3), (2379, (.lconst 0), 1), (2380, .lcmp, 1), (2381, (.ifCond .eq 5), 3), (2384, (.iconst 0), 1), (2386, (.goto 396), 3), (2389, (.aload_n 1), 1), (2390, (.aload_n 0), 1), (2391, (.iload 4), 2), (2393, (.iconst 1), 1), (2394, .iadd, 1), (2395, .iaload, 1), (2396, (.aload_n 0), 1), (2397, (.iload 4), 2), (2399, (.iconst 2), 1), (2400, .iadd, 1), (2401, .iaload, 1), (2402, (.aload_n 3), 1), (2403, (.invokestatic 259), 3), (2406, (.istore 5), 2), (2408, (.aload_n 2), 1), (2409, (.aload_n 0), 1), (2410, (.iload 4), 2), (2412, (.iconst 1), 1), (2413, .iadd, 1), (2414, .iaload, 1), (2415, (.aload_n 0), 1), (2416, (.iload 4), 2), (2418, (.iconst 2), 1), (2419, .iadd, 1), (2420, .iaload, 1), (2421, (.invokevirtual 261), 3), (2424, (.istore 6), 2), (2426, (.aload_n 2), 1), (2427, (.invokevirtual 150), 3), (2430, (.iload 5), 2), (2432, (.if_icmp .eq 5), 3), (2435, (.iconst 0), 1), (2437, (.iload 5), 2), (2439, (.ifCond .ne 15), 3), (2442, (.aload_n 3), 1), (2443, (.iconst 0), 1), (2444, .laload, 1), (2445, (.iload 6), 2), (2447, .i2l, 1), (2448, .lcmp, 1), (2449, (.ifCond .eq 5), 3), (2452, (.iconst 0), 1), (2454, (.goto 328), 3), (2457, (.aload_n 1), 1), (2458, (.aload_n 0), 1), (2459, (.iload 4), 2), (2461, (.iconst 1), 1), (2462, .iadd, 1), (2463, .iaload, 1), (2464, (.aload_n 0), 1), (2465, (.iload 4), 2), (2467, (.iconst 2), 1), (2468, .iadd, 1), (2469, .iaload, 1), (2470, (.aload_n 3), 1), (2471, (.invokestatic 262), 3), (2474, (.istore 5), 2), (2476, (.aload_n 2), 1), (2477, (.aload_n 0), 1), (2478, (.iload 4), 2), (2480, (.iconst 1), 1), (2481, .iadd, 1), (2482, .iaload, 1), (2483, (.aload_n 0), 1), (2484, (.iload 4), 2), (2486, (.iconst 2), 1), (2487, .iadd, 1), (2488, .iaload, 1), (2489, (.invokevirtual 264), 3), (2492, (.istore 6), 2), (2494, (.aload_n 2), 1), (2495, (.invokevirtual 150), 3), (2498, (.iload 5), 2), (2500, (.if_icmp .eq 5), 3), (2503, (.iconst 0), 1), (2505, (.iload 5), 2), (2507, (.ifCond .ne 15), 3), (2510, (.aload_n 3), 1), (2511, (.iconst 0), 1), (2512, .laload, 1), (2513, (.iload 6), 2), (2515, .i2l, 1), (2516, .lcmp, 1), (2517, (.ifCond .eq 5), 3), (2520, (.iconst 0), 1), (2522, (.goto 260), 3), (2525, (.aload_n 1), 1), (2526, (.aload_n 0), 1), (2527, (.iload 4), 2), (2529, (.iconst 1), 1), (2530, .iadd, 1)] : List (Nat × Instr × Nat)).all (fun q => decide (decode code q.1 = .ok q.2)) = true := by decide +kernel
theorem dL_2284 : dc code 2284 2285 (.aload_n 0) 1 := ⟨dr_at drL_law_2284 (i := 0) rfl, rfl⟩
theorem dL_2285 : dc code 2285 2287 (.iload 4) 2 := ⟨dr_at drL_law_2284 (i := 1) rfl, rfl⟩
theorem dL_2287 : dc code 2287 2288 (.iconst 1) 1 := ⟨dr_at drL_law_2284 (i := 2) rfl, rfl⟩
theorem dL_2288 : dc code 2288 2289 .iadd 1 := ⟨dr_at drL_law_2284 (i := 3) rfl, rfl⟩
theorem dL_2289 : dc code 2289 2290 .iaload 1 := ⟨dr_at drL_law_2284 (i := 4) rfl, rfl⟩
theorem dL_2290 : dc code 2290 2293 (.invokevirtual 255) 3 := ⟨dr_at drL_law_2284 (i := 5) rfl, rfl⟩
theorem dL_2293 : dc code 2293 2295 (.istore 6) 2 := ⟨dr_at drL_law_2284 (i := 6) rfl, rfl⟩
theorem dL_2295 : dc code 2295 2296 (.aload_n 2) 1 := ⟨dr_at drL_law_2284 (i := 7) rfl, rfl⟩
theorem dL_2296 : dc code 2296 2299 (.invokevirtual 150) 3 := ⟨dr_at drL_law_2284 (i := 8) rfl, rfl⟩
theorem dL_2299 : dc code 2299 2301 (.iload 5) 2 := ⟨dr_at drL_law_2284 (i := 9) rfl, rfl⟩
theorem dL_2301 : dc code 2301 2304 (.if_icmp .eq 5) 3 := ⟨dr_at drL_law_2284 (i := 10) rfl, rfl⟩
theorem dL_2304 : dc code 2304 2305 (.iconst 0) 1 := ⟨dr_at drL_law_2284 (i := 11) rfl, rfl⟩
theorem dL_2306 : dc code 2306 2308 (.iload 5) 2 := ⟨dr_at drL_law_2284 (i := 12) rfl, rfl⟩
theorem dL_2308 : dc code 2308 2311 (.ifCond .ne 15) 3 := ⟨dr_at drL_law_2284 (i := 13) rfl, rfl⟩
theorem dL_2311 : dc code 2311 2312 (.aload_n 3) 1 := ⟨dr_at drL_law_2284 (i := 14) rfl, rfl⟩
theorem dL_2312 : dc code 2312 2313 (.iconst 0) 1 := ⟨dr_at drL_law_2284 (i := 15) rfl, rfl⟩
theorem dL_2313 : dc code 2313 2314 .laload 1 := ⟨dr_at drL_law_2284 (i := 16) rfl, rfl⟩
theorem dL_2314 : dc code 2314 2316 (.iload 6) 2 := ⟨dr_at drL_law_2284 (i := 17) rfl, rfl⟩
theorem dL_2316 : dc code 2316 2317 .i2l 1 := ⟨dr_at drL_law_2284 (i := 18) rfl, rfl⟩
theorem dL_2317 : dc code 2317 2318 .lcmp 1 := ⟨dr_at drL_law_2284 (i := 19) rfl, rfl⟩
theorem dL_2318 : dc code 2318 2321 (.ifCond .eq 5) 3 := ⟨dr_at drL_law_2284 (i := 20) rfl, rfl⟩
theorem dL_2321 : dc code 2321 2322 (.iconst 0) 1 := ⟨dr_at drL_law_2284 (i := 21) rfl, rfl⟩
theorem dL_2323 : dc code 2323 2326 (.goto 459) 3 := ⟨dr_at drL_law_2284 (i := 22) rfl, rfl⟩
theorem dL_2326 : dc code 2326 2327 (.aload_n 1) 1 := ⟨dr_at drL_law_2284 (i := 23) rfl, rfl⟩
theorem dL_2327 : dc code 2327 2328 (.aload_n 0) 1 := ⟨dr_at drL_law_2284 (i := 24) rfl, rfl⟩
theorem dL_2328 : dc code 2328 2330 (.iload 4) 2 := ⟨dr_at drL_law_2284 (i := 25) rfl, rfl⟩
theorem dL_2330 : dc code 2330 2331 (.iconst 1) 1 := ⟨dr_at drL_law_2284 (i := 26) rfl, rfl⟩
theorem dL_2331 : dc code 2331 2332 .iadd 1 := ⟨dr_at drL_law_2284 (i := 27) rfl, rfl⟩
theorem dL_2332 : dc code 2332 2333 .iaload 1 := ⟨dr_at drL_law_2284 (i := 28) rfl, rfl⟩
theorem dL_2333 : dc code 2333 2334 (.aload_n 3) 1 := ⟨dr_at drL_law_2284 (i := 29) rfl, rfl⟩
theorem dL_2334 : dc code 2334 2337 (.invokestatic 256) 3 := ⟨dr_at drL_law_2284 (i := 30) rfl, rfl⟩
theorem dL_2337 : dc code 2337 2339 (.istore 5) 2 := ⟨dr_at drL_law_2284 (i := 31) rfl, rfl⟩
theorem dL_2339 : dc code 2339 2340 (.aload_n 2) 1 := ⟨dr_at drL_law_2284 (i := 32) rfl, rfl⟩
theorem dL_2340 : dc code 2340 2341 (.aload_n 0) 1 := ⟨dr_at drL_law_2284 (i := 33) rfl, rfl⟩
theorem dL_2341 : dc code 2341 2343 (.iload 4) 2 := ⟨dr_at drL_law_2284 (i := 34) rfl, rfl⟩
theorem dL_2343 : dc code 2343 2344 (.iconst 1) 1 := ⟨dr_at drL_law_2284 (i := 35) rfl, rfl⟩
theorem dL_2344 : dc code 2344 2345 .iadd 1 := ⟨dr_at drL_law_2284 (i := 36) rfl, rfl⟩
theorem dL_2345 : dc code 2345 2346 .iaload 1 := ⟨dr_at drL_law_2284 (i := 37) rfl, rfl⟩
theorem dL_2346 : dc code 2346 2349 (.invokevirtual 258) 3 := ⟨dr_at drL_law_2284 (i := 38) rfl, rfl⟩
theorem dL_2349 : dc code 2349 2351 (.istore 6) 2 := ⟨dr_at drL_law_2284 (i := 39) rfl, rfl⟩
theorem dL_2351 : dc code 2351 2352 (.aload_n 2) 1 := ⟨dr_at drL_law_2284 (i := 40) rfl, rfl⟩
theorem dL_2352 : dc code 2352 2355 (.invokevirtual 150) 3 := ⟨dr_at drL_law_2284 (i := 41) rfl, rfl⟩
theorem dL_2355 : dc code 2355 2357 (.iload 5) 2 := ⟨dr_at drL_law_2284 (i := 42) rfl, rfl⟩
theorem dL_2357 : dc code 2357 2360 (.if_icmp .eq 5) 3 := ⟨dr_at drL_law_2284 (i := 43) rfl, rfl⟩
theorem dL_2360 : dc code 2360 2361 (.iconst 0) 1 := ⟨dr_at drL_law_2284 (i := 44) rfl, rfl⟩
theorem dL_2362 : dc code 2362 2364 (.iload 5) 2 := ⟨dr_at drL_law_2284 (i := 45) rfl, rfl⟩
theorem dL_2364 : dc code 2364 2367 (.ifCond .ne 22) 3 := ⟨dr_at drL_law_2284 (i := 46) rfl, rfl⟩
theorem dL_2367 : dc code 2367 2368 (.aload_n 3) 1 := ⟨dr_at drL_law_2284 (i := 47) rfl, rfl⟩
theorem dL_2368 : dc code 2368 2369 (.iconst 0) 1 := ⟨dr_at drL_law_2284 (i := 48) rfl, rfl⟩
theorem dL_2369 : dc code 2369 2370 .laload 1 := ⟨dr_at drL_law_2284 (i := 49) rfl, rfl⟩
theorem dL_2370 : dc code 2370 2372 (.iload 6) 2 := ⟨dr_at drL_law_2284 (i := 50) rfl, rfl⟩
theorem dL_2372 : dc code 2372 2375 (.ifCond .eq 7) 3 := ⟨dr_at drL_law_2284 (i := 51) rfl, rfl⟩
theorem dL_2375 : dc code 2375 2376 (.lconst 1) 1 := ⟨dr_at drL_law_2284 (i := 52) rfl, rfl⟩
theorem dL_2376 : dc code 2376 2379 (.goto 4) 3 := ⟨dr_at drL_law_2284 (i := 53) rfl, rfl⟩
theorem dL_2379 : dc code 2379 2380 (.lconst 0) 1 := ⟨dr_at drL_law_2284 (i := 54) rfl, rfl⟩
theorem dL_2380 : dc code 2380 2381 .lcmp 1 := ⟨dr_at drL_law_2284 (i := 55) rfl, rfl⟩
theorem dL_2381 : dc code 2381 2384 (.ifCond .eq 5) 3 := ⟨dr_at drL_law_2284 (i := 56) rfl, rfl⟩
theorem dL_2384 : dc code 2384 2385 (.iconst 0) 1 := ⟨dr_at drL_law_2284 (i := 57) rfl, rfl⟩
theorem dL_2386 : dc code 2386 2389 (.goto 396) 3 := ⟨dr_at drL_law_2284 (i := 58) rfl, rfl⟩
theorem dL_2389 : dc code 2389 2390 (.aload_n 1) 1 := ⟨dr_at drL_law_2284 (i := 59) rfl, rfl⟩
theorem dL_2390 : dc code 2390 2391 (.aload_n 0) 1 := ⟨dr_at drL_law_2284 (i := 60) rfl, rfl⟩
theorem dL_2391 : dc code 2391 2393 (.iload 4) 2 := ⟨dr_at drL_law_2284 (i := 61) rfl, rfl⟩
theorem dL_2393 : dc code 2393 2394 (.iconst 1) 1 := ⟨dr_at drL_law_2284 (i := 62) rfl, rfl⟩
theorem dL_2394 : dc code 2394 2395 .iadd 1 := ⟨dr_at drL_law_2284 (i := 63) rfl, rfl⟩
theorem dL_2395 : dc code 2395 2396 .iaload 1 := ⟨dr_at drL_law_2284 (i := 64) rfl, rfl⟩
theorem dL_2396 : dc code 2396 2397 (.aload_n 0) 1 := ⟨dr_at drL_law_2284 (i := 65) rfl, rfl⟩
theorem dL_2397 : dc code 2397 2399 (.iload 4) 2 := ⟨dr_at drL_law_2284 (i := 66) rfl, rfl⟩
theorem dL_2399 : dc code 2399 2400 (.iconst 2) 1 := ⟨dr_at drL_law_2284 (i := 67) rfl, rfl⟩
theorem dL_2400 : dc code 2400 2401 .iadd 1 := ⟨dr_at drL_law_2284 (i := 68) rfl, rfl⟩
theorem dL_2401 : dc code 2401 2402 .iaload 1 := ⟨dr_at drL_law_2284 (i := 69) rfl, rfl⟩
theorem dL_2402 : dc code 2402 2403 (.aload_n 3) 1 := ⟨dr_at drL_law_2284 (i := 70) rfl, rfl⟩
theorem dL_2403 : dc code 2403 2406 (.invokestatic 259) 3 := ⟨dr_at drL_law_2284 (i := 71) rfl, rfl⟩
theorem dL_2406 : dc code 2406 2408 (.istore 5) 2 := ⟨dr_at drL_law_2284 (i := 72) rfl, rfl⟩
theorem dL_2408 : dc code 2408 2409 (.aload_n 2) 1 := ⟨dr_at drL_law_2284 (i := 73) rfl, rfl⟩
theorem dL_2409 : dc code 2409 2410 (.aload_n 0) 1 := ⟨dr_at drL_law_2284 (i := 74) rfl, rfl⟩
theorem dL_2410 : dc code 2410 2412 (.iload 4) 2 := ⟨dr_at drL_law_2284 (i := 75) rfl, rfl⟩
theorem dL_2412 : dc code 2412 2413 (.iconst 1) 1 := ⟨dr_at drL_law_2284 (i := 76) rfl, rfl⟩
theorem dL_2413 : dc code 2413 2414 .iadd 1 := ⟨dr_at drL_law_2284 (i := 77) rfl, rfl⟩
theorem dL_2414 : dc code 2414 2415 .iaload 1 := ⟨dr_at drL_law_2284 (i := 78) rfl, rfl⟩
theorem dL_2415 : dc code 2415 2416 (.aload_n 0) 1 := ⟨dr_at drL_law_2284 (i := 79) rfl, rfl⟩
theorem dL_2416 : dc code 2416 2418 (.iload 4) 2 := ⟨dr_at drL_law_2284 (i := 80) rfl, rfl⟩
theorem dL_2418 : dc code 2418 2419 (.iconst 2) 1 := ⟨dr_at drL_law_2284 (i := 81) rfl, rfl⟩
theorem dL_2419 : dc code 2419 2420 .iadd 1 := ⟨dr_at drL_law_2284 (i := 82) rfl, rfl⟩
theorem dL_2420 : dc code 2420 2421 .iaload 1 := ⟨dr_at drL_law_2284 (i := 83) rfl, rfl⟩
theorem dL_2421 : dc code 2421 2424 (.invokevirtual 261) 3 := ⟨dr_at drL_law_2284 (i := 84) rfl, rfl⟩
theorem dL_2424 : dc code 2424 2426 (.istore 6) 2 := ⟨dr_at drL_law_2284 (i := 85) rfl, rfl⟩
theorem dL_2426 : dc code 2426 2427 (.aload_n 2) 1 := ⟨dr_at drL_law_2284 (i := 86) rfl, rfl⟩
theorem dL_2427 : dc code 2427 2430 (.invokevirtual 150) 3 := ⟨dr_at drL_law_2284 (i := 87) rfl, rfl⟩
theorem dL_2430 : dc code 2430 2432 (.iload 5) 2 := ⟨dr_at drL_law_2284 (i := 88) rfl, rfl⟩
theorem dL_2432 : dc code 2432 2435 (.if_icmp .eq 5) 3 := ⟨dr_at drL_law_2284 (i := 89) rfl, rfl⟩
theorem dL_2435 : dc code 2435 2436 (.iconst 0) 1 := ⟨dr_at drL_law_2284 (i := 90) rfl, rfl⟩
theorem dL_2437 : dc code 2437 2439 (.iload 5) 2 := ⟨dr_at drL_law_2284 (i := 91) rfl, rfl⟩
theorem dL_2439 : dc code 2439 2442 (.ifCond .ne 15) 3 := ⟨dr_at drL_law_2284 (i := 92) rfl, rfl⟩
theorem dL_2442 : dc code 2442 2443 (.aload_n 3) 1 := ⟨dr_at drL_law_2284 (i := 93) rfl, rfl⟩
theorem dL_2443 : dc code 2443 2444 (.iconst 0) 1 := ⟨dr_at drL_law_2284 (i := 94) rfl, rfl⟩
theorem dL_2444 : dc code 2444 2445 .laload 1 := ⟨dr_at drL_law_2284 (i := 95) rfl, rfl⟩
theorem dL_2445 : dc code 2445 2447 (.iload 6) 2 := ⟨dr_at drL_law_2284 (i := 96) rfl, rfl⟩
theorem dL_2447 : dc code 2447 2448 .i2l 1 := ⟨dr_at drL_law_2284 (i := 97) rfl, rfl⟩
theorem dL_2448 : dc code 2448 2449 .lcmp 1 := ⟨dr_at drL_law_2284 (i := 98) rfl, rfl⟩
theorem dL_2449 : dc code 2449 2452 (.ifCond .eq 5) 3 := ⟨dr_at drL_law_2284 (i := 99) rfl, rfl⟩
theorem dL_2452 : dc code 2452 2453 (.iconst 0) 1 := ⟨dr_at drL_law_2284 (i := 100) rfl, rfl⟩
theorem dL_2454 : dc code 2454 2457 (.goto 328) 3 := ⟨dr_at drL_law_2284 (i := 101) rfl, rfl⟩
theorem dL_2457 : dc code 2457 2458 (.aload_n 1) 1 := ⟨dr_at drL_law_2284 (i := 102) rfl, rfl⟩
theorem dL_2458 : dc code 2458 2459 (.aload_n 0) 1 := ⟨dr_at drL_law_2284 (i := 103) rfl, rfl⟩
theorem dL_2459 : dc code 2459 2461 (.iload 4) 2 := ⟨dr_at drL_law_2284 (i := 104) rfl, rfl⟩
theorem dL_2461 : dc code 2461 2462 (.iconst 1) 1 := ⟨dr_at drL_law_2284 (i := 105) rfl, rfl⟩
theorem dL_2462 : dc code 2462 2463 .iadd 1 := ⟨dr_at drL_law_2284 (i := 106) rfl, rfl⟩
theorem dL_2463 : dc code 2463 2464 .iaload 1 := ⟨dr_at drL_law_2284 (i := 107) rfl, rfl⟩
theorem dL_2464 : dc code 2464 2465 (.aload_n 0) 1 := ⟨dr_at drL_law_2284 (i := 108) rfl, rfl⟩
theorem dL_2465 : dc code 2465 2467 (.iload 4) 2 := ⟨dr_at drL_law_2284 (i := 109) rfl, rfl⟩
theorem dL_2467 : dc code 2467 2468 (.iconst 2) 1 := ⟨dr_at drL_law_2284 (i := 110) rfl, rfl⟩
theorem dL_2468 : dc code 2468 2469 .iadd 1 := ⟨dr_at drL_law_2284 (i := 111) rfl, rfl⟩
theorem dL_2469 : dc code 2469 2470 .iaload 1 := ⟨dr_at drL_law_2284 (i := 112) rfl, rfl⟩
theorem dL_2470 : dc code 2470 2471 (.aload_n 3) 1 := ⟨dr_at drL_law_2284 (i := 113) rfl, rfl⟩
theorem dL_2471 : dc code 2471 2474 (.invokestatic 262) 3 := ⟨dr_at drL_law_2284 (i := 114) rfl, rfl⟩
theorem dL_2474 : dc code 2474 2476 (.istore 5) 2 := ⟨dr_at drL_law_2284 (i := 115) rfl, rfl⟩
theorem dL_2476 : dc code 2476 2477 (.aload_n 2) 1 := ⟨dr_at drL_law_2284 (i := 116) rfl, rfl⟩
theorem dL_2477 : dc code 2477 2478 (.aload_n 0) 1 := ⟨dr_at drL_law_2284 (i := 117) rfl, rfl⟩
theorem dL_2478 : dc code 2478 2480 (.iload 4) 2 := ⟨dr_at drL_law_2284 (i := 118) rfl, rfl⟩
theorem dL_2480 : dc code 2480 2481 (.iconst 1) 1 := ⟨dr_at drL_law_2284 (i := 119) rfl, rfl⟩
theorem dL_2481 : dc code 2481 2482 .iadd 1 := ⟨dr_at drL_law_2284 (i := 120) rfl, rfl⟩
theorem dL_2482 : dc code 2482 2483 .iaload 1 := ⟨dr_at drL_law_2284 (i := 121) rfl, rfl⟩
theorem dL_2483 : dc code 2483 2484 (.aload_n 0) 1 := ⟨dr_at drL_law_2284 (i := 122) rfl, rfl⟩
theorem dL_2484 : dc code 2484 2486 (.iload 4) 2 := ⟨dr_at drL_law_2284 (i := 123) rfl, rfl⟩
theorem dL_2486 : dc code 2486 2487 (.iconst 2) 1 := ⟨dr_at drL_law_2284 (i := 124) rfl, rfl⟩
theorem dL_2487 : dc code 2487 2488 .iadd 1 := ⟨dr_at drL_law_2284 (i := 125) rfl, rfl⟩
theorem dL_2488 : dc code 2488 2489 .iaload 1 := ⟨dr_at drL_law_2284 (i := 126) rfl, rfl⟩
theorem dL_2489 : dc code 2489 2492 (.invokevirtual 264) 3 := ⟨dr_at drL_law_2284 (i := 127) rfl, rfl⟩
theorem dL_2492 : dc code 2492 2494 (.istore 6) 2 := ⟨dr_at drL_law_2284 (i := 128) rfl, rfl⟩
theorem dL_2494 : dc code 2494 2495 (.aload_n 2) 1 := ⟨dr_at drL_law_2284 (i := 129) rfl, rfl⟩
theorem dL_2495 : dc code 2495 2498 (.invokevirtual 150) 3 := ⟨dr_at drL_law_2284 (i := 130) rfl, rfl⟩
theorem dL_2498 : dc code 2498 2500 (.iload 5) 2 := ⟨dr_at drL_law_2284 (i := 131) rfl, rfl⟩
theorem dL_2500 : dc code 2500 2503 (.if_icmp .eq 5) 3 := ⟨dr_at drL_law_2284 (i := 132) rfl, rfl⟩
theorem dL_2503 : dc code 2503 2504 (.iconst 0) 1 := ⟨dr_at drL_law_2284 (i := 133) rfl, rfl⟩
theorem dL_2505 : dc code 2505 2507 (.iload 5) 2 := ⟨dr_at drL_law_2284 (i := 134) rfl, rfl⟩
theorem dL_2507 : dc code 2507 2510 (.ifCond .ne 15) 3 := ⟨dr_at drL_law_2284 (i := 135) rfl, rfl⟩
theorem dL_2510 : dc code 2510 2511 (.aload_n 3) 1 := ⟨dr_at drL_law_2284 (i := 136) rfl, rfl⟩
theorem dL_2511 : dc code 2511 2512 (.iconst 0) 1 := ⟨dr_at drL_law_2284 (i := 137) rfl, rfl⟩
theorem dL_2512 : dc code 2512 2513 .laload 1 := ⟨dr_at drL_law_2284 (i := 138) rfl, rfl⟩
theorem dL_2513 : dc code 2513 2515 (.iload 6) 2 := ⟨dr_at drL_law_2284 (i := 139) rfl, rfl⟩
theorem dL_2515 : dc code 2515 2516 .i2l 1 := ⟨dr_at drL_law_2284 (i := 140) rfl, rfl⟩
theorem dL_2516 : dc code 2516 2517 .lcmp 1 := ⟨dr_at drL_law_2284 (i := 141) rfl, rfl⟩
theorem dL_2517 : dc code 2517 2520 (.ifCond .eq 5) 3 := ⟨dr_at drL_law_2284 (i := 142) rfl, rfl⟩
theorem dL_2520 : dc code 2520 2521 (.iconst 0) 1 := ⟨dr_at drL_law_2284 (i := 143) rfl, rfl⟩
theorem dL_2522 : dc code 2522 2525 (.goto 260) 3 := ⟨dr_at drL_law_2284 (i := 144) rfl, rfl⟩
theorem dL_2525 : dc code 2525 2526 (.aload_n 1) 1 := ⟨dr_at drL_law_2284 (i := 145) rfl, rfl⟩
theorem dL_2526 : dc code 2526 2527 (.aload_n 0) 1 := ⟨dr_at drL_law_2284 (i := 146) rfl, rfl⟩
theorem dL_2527 : dc code 2527 2529 (.iload 4) 2 := ⟨dr_at drL_law_2284 (i := 147) rfl, rfl⟩
theorem dL_2529 : dc code 2529 2530 (.iconst 1) 1 := ⟨dr_at drL_law_2284 (i := 148) rfl, rfl⟩
theorem dL_2530 : dc code 2530 2531 .iadd 1 := ⟨dr_at drL_law_2284 (i := 149) rfl, rfl⟩
theorem drL_law_2531 : ([(2531, .iaload, 1), (2532, (.aload_n 0), 1), (2533, (.iload 4), 2), (2535, (.iconst 2), 1), (2536, .iadd, 1), (2537, .iaload, 1), (2538, (.aload_n 3), 1), (2539, (.invokestatic 265), 3), (2542, (.istore 5), 2), (2544, (.aload_n 2), 1), (2545, (.aload_n 0), 1), (2546, (.iload 4), 2), (2548, (.iconst 1), 1), (2549, .iadd, 1), (2550, .iaload, 1), (2551, (.aload_n 0), 1), (2552, (.iload 4), 2), (2554, (.iconst 2), 1), (2555, .iadd, 1), (2556, .iaload, 1), (2557, (.invokevirtual 267), 3), (2560, (.istore 6), 2), (2562, (.aload_n 2), 1), (2563, (.invokevirtual 150), 3), (2566, (.iload 5), 2), (2568, (.if_icmp .eq 5), 3), (2571, (.iconst 0), 1), (2573, (.iload 5), 2), (2575, (.ifCond .ne 15), 3), (2578, (.aload_n 3), 1), (2579, (.iconst 0), 1), (2580, .laload, 1), (2581, (.iload 6), 2), (2583, .i2l, 1), (2584, .lcmp, 1), (2585, (.ifCond .eq 5), 3), (2588, (.iconst 0), 1), (2590, (.goto 192), 3), (2593, (.aload_n 1), 1), (2594, (.aload_n 0), 1), (2595, (.iload 4), 2), (2597, (.iconst 1), 1), (2598, .iadd, 1), (2599, .iaload, 1), (2600, (.aload_n 0), 1), (2601, (.iload 4), 2), (2603, (.iconst 2), 1), (2604, .iadd, 1), (2605, .iaload, 1), (2606, (.ifCond .eq 7), 3), (2609, (.iconst 1), 1), (2610, (.goto 4), 3), (2613, (.iconst 0), 1), (2614, (.aload_n 3), 1), (2615, (.invokestatic 268), 3), (2618, (.istore 5), 2), (2620, (.aload_n 2), 1), (2621, (.aload_n 0), 1), (2622, (.iload 4), 2), (2624, (.iconst 1), 1), (2625, .iadd, 1), (2626, .iaload, 1), (2627, (.aload_n 0), 1), (2628, (.iload 4), 2), (2630, (.iconst 2), 1), (2631, .iadd, 1), (2632, .iaload, 1), (2633, (.ifCond .eq 7), 3), (2636, (.iconst 1), 1), (2637, (.goto 4), 3), (2640, (.iconst 0), 1), (2641, (.invokevirtual 270), 3), (2644, (.istore 6), 2), (2646, (.aload_n 2), 1), (2647, (.invokevirtual 150), 3), (2650, (.iload 5), 2), (2652, (.if_icmp .eq 5), 3), (2655, (.iconst 0), 1), (2657, (.iload 5), 2), (2659, (.ifCond .ne 15), 3), (2662, (.aload_n 3), 1), (2663, (.iconst 0), 1), (2664, .laload, 1), (2665, (.iload 6), 2), (2667, .i2l, 1), (2668, .lcmp, 1), (2669, (.ifCond .eq 5), 3), (2672, (.iconst 0), 1), (2674, (.goto 108), 3), (2677, (.aload_n 1), 1), (2678, (.aload_n 0), 1), (2679, (.iload 4), 2), (2681, (.iconst 1), 1), (2682, .iadd, 1), (2683, .iaload, 1), (2684, (.aload_n 3), 1), (2685, (.invokestatic 271), 3), (2688, (.istore 5), 2), (2690, (.aload_n 2), 1), (2691, (.aload_n 0), 1), (2692, (.iload 4), 2), (2694, (.iconst 1), 1), (2695, .iadd, 1), (2696, .iaload, 1), (2697, (.invokevirtual 273), 3), (2700, (.istore 6), 2), (2702, (.aload_n 2), 1), (2703, (.invokevirtual 150), 3), (2706, (.iload 5), 2), (2708, (.if_icmp .eq 5), 3), (2711, (.iconst 0), 1), (2713, (.iload 5), 2), (2715, (.ifCond .ne 15), 3), (2718, (.aload_n 3), 1), (2719, (.iconst 0), 1), (2720, .laload, 1), (2721, (.iload 6), 2), (2723, .i2l, 1), (2724, .lcmp, 1), (2725, (.ifCond .eq 5), 3), (2728, (.iconst 0), 1), (2730, (.goto 52), 3), (2733, (.aload_n 1), 1), (2734, (.invokevirtual 274), 3), (2737, (.aload_n 2), 1), (2738, (.invokevirtual 277), 3), (2741, (.goto 41), 3), (2744, (.aload_n 1), 1), (2745, (.invokevirtual 278), 3), (2748, (.aload_n 2), 1), (2749, (.invokevirtual 282), 3), (2752, (.if_icmp .eq 30), 3), (2755, (.iconst 0), 1), (2757, (.aload_n 1), 1), (2758, (.aload_n 0), 1), (2759, (.iload 4), 2), (2761, (.iconst 1), 1), (2762, .iadd, 1), (2763, .iaload, 1), (2764, (.invokevirtual 283), 3), (2767, (.aload_n 2), 1), (2768, (.aload_n 0), 1), (2769, (.iload 4), 2), (2771, (.iconst 1), 1), (2772, .iadd, 1), (2773, .iaload, 1), (2774, (.invokevirtual 286), 3), (2777, (.if_icmp .eq 5), 3), (2780, (.iconst 0), 1), (2782, (.iinc 4 7), 3)] : List (Nat × Instr × Nat)).all (fun q => decide (decode code q.1 = .ok q.2)) = true := by decide +kernel
theorem dL_2531 : dc code 2531 2532 .iaload 1 := ⟨dr_at drL_law_2531 (i := 0) rfl, rfl⟩
theorem dL_2532 : dc code 2532 2533 (.aload_n 0) 1 := ⟨dr_at drL_law_2531 (i := 1) rfl, rfl⟩
theorem dL_2533 : dc code 2533 2535 (.iload 4) 2 := ⟨dr_at drL_law_2531 (i := 2) rfl, rfl⟩
theorem dL_2535 : dc code 2535 2536 (.iconst 2) 1 := ⟨dr_at drL_law_2531 (i := 3) rfl, rfl⟩
theorem dL_2536 : dc code 2536 2537 .iadd 1 := ⟨dr_at drL_law_2531 (i := 4) rfl, rfl⟩
theorem dL_2537 : dc code 2537 2538 .iaload 1 := ⟨dr_at drL_law_2531 (i := 5) rfl, rfl⟩
theorem dL_2538 : dc code 2538 2539 (.aload_n 3) 1 := ⟨dr_at drL_law_2531 (i := 6) rfl, rfl⟩
theorem dL_2539 : dc code 2539 2542 (.invokestatic 265) 3 := ⟨dr_at drL_law_2531 (i := 7) rfl, rfl⟩
theorem dL_2542 : dc code 2542 2544 (.istore 5) 2 := ⟨dr_at drL_law_2531 (i := 8) rfl, rfl⟩
theorem dL_2544 : dc code 2544 2545 (.aload_n 2) 1 := ⟨dr_at drL_law_2531 (i := 9) rfl, rfl⟩
theorem dL_2545 : dc code 2545 2546 (.aload_n 0) 1 := ⟨dr_at drL_law_2531 (i := 10) rfl, rfl⟩
theorem dL_2546 : dc code 2546 2548 (.iload 4) 2 := ⟨dr_at drL_law_2531 (i := 11) rfl, rfl⟩
theorem dL_2548 : dc code 2548 2549 (.iconst 1) 1 := ⟨dr_at drL_law_2531 (i := 12) rfl, rfl⟩
theorem dL_2549 : dc code 2549 2550 .iadd 1 := ⟨dr_at drL_law_2531 (i := 13) rfl, rfl⟩
theorem dL_2550 : dc code 2550 2551 .iaload 1 := ⟨dr_at drL_law_2531 (i := 14) rfl, rfl⟩
theorem dL_2551 : dc code 2551 2552 (.aload_n 0) 1 := ⟨dr_at drL_law_2531 (i := 15) rfl, rfl⟩
theorem dL_2552 : dc code 2552 2554 (.iload 4) 2 := ⟨dr_at drL_law_2531 (i := 16) rfl, rfl⟩
theorem dL_2554 : dc code 2554 2555 (.iconst 2) 1 := ⟨dr_at drL_law_2531 (i := 17) rfl, rfl⟩
theorem dL_2555 : dc code 2555 2556 .iadd 1 := ⟨dr_at drL_law_2531 (i := 18) rfl, rfl⟩
theorem dL_2556 : dc code 2556 2557 .iaload 1 := ⟨dr_at drL_law_2531 (i := 19) rfl, rfl⟩
theorem dL_2557 : dc code 2557 2560 (.invokevirtual 267) 3 := ⟨dr_at drL_law_2531 (i := 20) rfl, rfl⟩
theorem dL_2560 : dc code 2560 2562 (.istore 6) 2 := ⟨dr_at drL_law_2531 (i := 21) rfl, rfl⟩
theorem dL_2562 : dc code 2562 2563 (.aload_n 2) 1 := ⟨dr_at drL_law_2531 (i := 22) rfl, rfl⟩
theorem dL_2563 : dc code 2563 2566 (.invokevirtual 150) 3 := ⟨dr_at drL_law_2531 (i := 23) rfl, rfl⟩
theorem dL_2566 : dc code 2566 2568 (.iload 5) 2 := ⟨dr_at drL_law_2531 (i := 24) rfl, rfl⟩
theorem dL_2568 : dc code 2568 2571 (.if_icmp .eq 5) 3 := ⟨dr_at drL_law_2531 (i := 25) rfl, rfl⟩
theorem dL_2571 : dc code 2571 2572 (.iconst 0) 1 := ⟨dr_at drL_law_2531 (i := 26) rfl, rfl⟩
theorem dL_2573 : dc code 2573 2575 (.iload 5) 2 := ⟨dr_at drL_law_2531 (i := 27) rfl, rfl⟩
theorem dL_2575 : dc code 2575 2578 (.ifCond .ne 15) 3 := ⟨dr_at drL_law_2531 (i := 28) rfl, rfl⟩
theorem dL_2578 : dc code 2578 2579 (.aload_n 3) 1 := ⟨dr_at drL_law_2531 (i := 29) rfl, rfl⟩
theorem dL_2579 : dc code 2579 2580 (.iconst 0) 1 := ⟨dr_at drL_law_2531 (i := 30) rfl, rfl⟩
theorem dL_2580 : dc code 2580 2581 .laload 1 := ⟨dr_at drL_law_2531 (i := 31) rfl, rfl⟩
theorem dL_2581 : dc code 2581 2583 (.iload 6) 2 := ⟨dr_at drL_law_2531 (i := 32) rfl, rfl⟩
theorem dL_2583 : dc code 2583 2584 .i2l 1 := ⟨dr_at drL_law_2531 (i := 33) rfl, rfl⟩
theorem dL_2584 : dc code 2584 2585 .lcmp 1 := ⟨dr_at drL_law_2531 (i := 34) rfl, rfl⟩
theorem dL_2585 : dc code 2585 2588 (.ifCond .eq 5) 3 := ⟨dr_at drL_law_2531 (i := 35) rfl, rfl⟩
theorem dL_2588 : dc code 2588 2589 (.iconst 0) 1 := ⟨dr_at drL_law_2531 (i := 36) rfl, rfl⟩
theorem dL_2590 : dc code 2590 2593 (.goto 192) 3 := ⟨dr_at drL_law_2531 (i := 37) rfl, rfl⟩
theorem dL_2593 : dc code 2593 2594 (.aload_n 1) 1 := ⟨dr_at drL_law_2531 (i := 38) rfl, rfl⟩
theorem dL_2594 : dc code 2594 2595 (.aload_n 0) 1 := ⟨dr_at drL_law_2531 (i := 39) rfl, rfl⟩
theorem dL_2595 : dc code 2595 2597 (.iload 4) 2 := ⟨dr_at drL_law_2531 (i := 40) rfl, rfl⟩
theorem dL_2597 : dc code 2597 2598 (.iconst 1) 1 := ⟨dr_at drL_law_2531 (i := 41) rfl, rfl⟩
theorem dL_2598 : dc code 2598 2599 .iadd 1 := ⟨dr_at drL_law_2531 (i := 42) rfl, rfl⟩
theorem dL_2599 : dc code 2599 2600 .iaload 1 := ⟨dr_at drL_law_2531 (i := 43) rfl, rfl⟩
theorem dL_2600 : dc code 2600 2601 (.aload_n 0) 1 := ⟨dr_at drL_law_2531 (i := 44) rfl, rfl⟩
theorem dL_2601 : dc code 2601 2603 (.iload 4) 2 := ⟨dr_at drL_law_2531 (i := 45) rfl, rfl⟩
theorem dL_2603 : dc code 2603 2604 (.iconst 2) 1 := ⟨dr_at drL_law_2531 (i := 46) rfl, rfl⟩
theorem dL_2604 : dc code 2604 2605 .iadd 1 := ⟨dr_at drL_law_2531 (i := 47) rfl, rfl⟩
theorem dL_2605 : dc code 2605 2606 .iaload 1 := ⟨dr_at drL_law_2531 (i := 48) rfl, rfl⟩
theorem dL_2606 : dc code 2606 2609 (.ifCond .eq 7) 3 := ⟨dr_at drL_law_2531 (i := 49) rfl, rfl⟩
theorem dL_2609 : dc code 2609 2610 (.iconst 1) 1 := ⟨dr_at drL_law_2531 (i := 50) rfl, rfl⟩
theorem dL_2610 : dc code 2610 2613 (.goto 4) 3 := ⟨dr_at drL_law_2531 (i := 51) rfl, rfl⟩
theorem dL_2613 : dc code 2613 2614 (.iconst 0) 1 := ⟨dr_at drL_law_2531 (i := 52) rfl, rfl⟩
theorem dL_2614 : dc code 2614 2615 (.aload_n 3) 1 := ⟨dr_at drL_law_2531 (i := 53) rfl, rfl⟩
theorem dL_2615 : dc code 2615 2618 (.invokestatic 268) 3 := ⟨dr_at drL_law_2531 (i := 54) rfl, rfl⟩
theorem dL_2618 : dc code 2618 2620 (.istore 5) 2 := ⟨dr_at drL_law_2531 (i := 55) rfl, rfl⟩
theorem dL_2620 : dc code 2620 2621 (.aload_n 2) 1 := ⟨dr_at drL_law_2531 (i := 56) rfl, rfl⟩
theorem dL_2621 : dc code 2621 2622 (.aload_n 0) 1 := ⟨dr_at drL_law_2531 (i := 57) rfl, rfl⟩
theorem dL_2622 : dc code 2622 2624 (.iload 4) 2 := ⟨dr_at drL_law_2531 (i := 58) rfl, rfl⟩
theorem dL_2624 : dc code 2624 2625 (.iconst 1) 1 := ⟨dr_at drL_law_2531 (i := 59) rfl, rfl⟩
theorem dL_2625 : dc code 2625 2626 .iadd 1 := ⟨dr_at drL_law_2531 (i := 60) rfl, rfl⟩
theorem dL_2626 : dc code 2626 2627 .iaload 1 := ⟨dr_at drL_law_2531 (i := 61) rfl, rfl⟩
theorem dL_2627 : dc code 2627 2628 (.aload_n 0) 1 := ⟨dr_at drL_law_2531 (i := 62) rfl, rfl⟩
theorem dL_2628 : dc code 2628 2630 (.iload 4) 2 := ⟨dr_at drL_law_2531 (i := 63) rfl, rfl⟩
theorem dL_2630 : dc code 2630 2631 (.iconst 2) 1 := ⟨dr_at drL_law_2531 (i := 64) rfl, rfl⟩
theorem dL_2631 : dc code 2631 2632 .iadd 1 := ⟨dr_at drL_law_2531 (i := 65) rfl, rfl⟩
theorem dL_2632 : dc code 2632 2633 .iaload 1 := ⟨dr_at drL_law_2531 (i := 66) rfl, rfl⟩
theorem dL_2633 : dc code 2633 2636 (.ifCond .eq 7) 3 := ⟨dr_at drL_law_2531 (i := 67) rfl, rfl⟩
theorem dL_2636 : dc code 2636 2637 (.iconst 1) 1 := ⟨dr_at drL_law_2531 (i := 68) rfl, rfl⟩
theorem dL_2637 : dc code 2637 2640 (.goto 4) 3 := ⟨dr_at drL_law_2531 (i := 69) rfl, rfl⟩
theorem dL_2640 : dc code 2640 2641 (.iconst 0) 1 := ⟨dr_at drL_law_2531 (i := 70) rfl, rfl⟩
theorem dL_2641 : dc code 2641 2644 (.invokevirtual 270) 3 := ⟨dr_at drL_law_2531 (i := 71) rfl, rfl⟩
theorem dL_2644 : dc code 2644 2646 (.istore 6) 2 := ⟨dr_at drL_law_2531 (i := 72) rfl, rfl⟩
theorem dL_2646 : dc code 2646 2647 (.aload_n 2) 1 := ⟨dr_at drL_law_2531 (i := 73) rfl, rfl⟩
theorem dL_2647 : dc code 2647 2650 (.invokevirtual 150) 3 := ⟨dr_at drL_law_2531 (i := 74) rfl, rfl⟩
theorem dL_2650 : dc code 2650 2652 (.iload 5) 2 := ⟨dr_at drL_law_2531 (i := 75) rfl, rfl⟩
theorem dL_2652 : dc code 2652 2655 (.if_icmp .eq 5) 3 := ⟨dr_at drL_law_2531 (i := 76) rfl, rfl⟩
theorem dL_2655 : dc code 2655 2656 (.iconst 0) 1 := ⟨dr_at drL_law_2531 (i := 77) rfl, rfl⟩
theorem dL_2657 : dc code 2657 2659 (.iload 5) 2 := ⟨dr_at drL_law_2531 (i := 78) rfl, rfl⟩
theorem dL_2659 : dc code 2659 2662 (.ifCond .ne 15) 3 := ⟨dr_at drL_law_2531 (i := 79) rfl, rfl⟩
theorem dL_2662 : dc code 2662 2663 (.aload_n 3) 1 := ⟨dr_at drL_law_2531 (i := 80) rfl, rfl⟩
theorem dL_2663 : dc code 2663 2664 (.iconst 0) 1 := ⟨dr_at drL_law_2531 (i := 81) rfl, rfl⟩
theorem dL_2664 : dc code 2664 2665 .laload 1 := ⟨dr_at drL_law_2531 (i := 82) rfl, rfl⟩
theorem dL_2665 : dc code 2665 2667 (.iload 6) 2 := ⟨dr_at drL_law_2531 (i := 83) rfl, rfl⟩
theorem dL_2667 : dc code 2667 2668 .i2l 1 := ⟨dr_at drL_law_2531 (i := 84) rfl, rfl⟩
theorem dL_2668 : dc code 2668 2669 .lcmp 1 := ⟨dr_at drL_law_2531 (i := 85) rfl, rfl⟩
theorem dL_2669 : dc code 2669 2672 (.ifCond .eq 5) 3 := ⟨dr_at drL_law_2531 (i := 86) rfl, rfl⟩
theorem dL_2672 : dc code 2672 2673 (.iconst 0) 1 := ⟨dr_at drL_law_2531 (i := 87) rfl, rfl⟩
theorem dL_2674 : dc code 2674 2677 (.goto 108) 3 := ⟨dr_at drL_law_2531 (i := 88) rfl, rfl⟩
theorem dL_2677 : dc code 2677 2678 (.aload_n 1) 1 := ⟨dr_at drL_law_2531 (i := 89) rfl, rfl⟩
theorem dL_2678 : dc code 2678 2679 (.aload_n 0) 1 := ⟨dr_at drL_law_2531 (i := 90) rfl, rfl⟩
theorem dL_2679 : dc code 2679 2681 (.iload 4) 2 := ⟨dr_at drL_law_2531 (i := 91) rfl, rfl⟩
theorem dL_2681 : dc code 2681 2682 (.iconst 1) 1 := ⟨dr_at drL_law_2531 (i := 92) rfl, rfl⟩
theorem dL_2682 : dc code 2682 2683 .iadd 1 := ⟨dr_at drL_law_2531 (i := 93) rfl, rfl⟩
theorem dL_2683 : dc code 2683 2684 .iaload 1 := ⟨dr_at drL_law_2531 (i := 94) rfl, rfl⟩
theorem dL_2684 : dc code 2684 2685 (.aload_n 3) 1 := ⟨dr_at drL_law_2531 (i := 95) rfl, rfl⟩
theorem dL_2685 : dc code 2685 2688 (.invokestatic 271) 3 := ⟨dr_at drL_law_2531 (i := 96) rfl, rfl⟩
theorem dL_2688 : dc code 2688 2690 (.istore 5) 2 := ⟨dr_at drL_law_2531 (i := 97) rfl, rfl⟩
theorem dL_2690 : dc code 2690 2691 (.aload_n 2) 1 := ⟨dr_at drL_law_2531 (i := 98) rfl, rfl⟩
theorem dL_2691 : dc code 2691 2692 (.aload_n 0) 1 := ⟨dr_at drL_law_2531 (i := 99) rfl, rfl⟩
theorem dL_2692 : dc code 2692 2694 (.iload 4) 2 := ⟨dr_at drL_law_2531 (i := 100) rfl, rfl⟩
theorem dL_2694 : dc code 2694 2695 (.iconst 1) 1 := ⟨dr_at drL_law_2531 (i := 101) rfl, rfl⟩
theorem dL_2695 : dc code 2695 2696 .iadd 1 := ⟨dr_at drL_law_2531 (i := 102) rfl, rfl⟩
theorem dL_2696 : dc code 2696 2697 .iaload 1 := ⟨dr_at drL_law_2531 (i := 103) rfl, rfl⟩
theorem dL_2697 : dc code 2697 2700 (.invokevirtual 273) 3 := ⟨dr_at drL_law_2531 (i := 104) rfl, rfl⟩
theorem dL_2700 : dc code 2700 2702 (.istore 6) 2 := ⟨dr_at drL_law_2531 (i := 105) rfl, rfl⟩
theorem dL_2702 : dc code 2702 2703 (.aload_n 2) 1 := ⟨dr_at drL_law_2531 (i := 106) rfl, rfl⟩
theorem dL_2703 : dc code 2703 2706 (.invokevirtual 150) 3 := ⟨dr_at drL_law_2531 (i := 107) rfl, rfl⟩
theorem dL_2706 : dc code 2706 2708 (.iload 5) 2 := ⟨dr_at drL_law_2531 (i := 108) rfl, rfl⟩
theorem dL_2708 : dc code 2708 2711 (.if_icmp .eq 5) 3 := ⟨dr_at drL_law_2531 (i := 109) rfl, rfl⟩
theorem dL_2711 : dc code 2711 2712 (.iconst 0) 1 := ⟨dr_at drL_law_2531 (i := 110) rfl, rfl⟩
theorem dL_2713 : dc code 2713 2715 (.iload 5) 2 := ⟨dr_at drL_law_2531 (i := 111) rfl, rfl⟩
theorem dL_2715 : dc code 2715 2718 (.ifCond .ne 15) 3 := ⟨dr_at drL_law_2531 (i := 112) rfl, rfl⟩
theorem dL_2718 : dc code 2718 2719 (.aload_n 3) 1 := ⟨dr_at drL_law_2531 (i := 113) rfl, rfl⟩
theorem dL_2719 : dc code 2719 2720 (.iconst 0) 1 := ⟨dr_at drL_law_2531 (i := 114) rfl, rfl⟩
theorem dL_2720 : dc code 2720 2721 .laload 1 := ⟨dr_at drL_law_2531 (i := 115) rfl, rfl⟩
theorem dL_2721 : dc code 2721 2723 (.iload 6) 2 := ⟨dr_at drL_law_2531 (i := 116) rfl, rfl⟩
theorem dL_2723 : dc code 2723 2724 .i2l 1 := ⟨dr_at drL_law_2531 (i := 117) rfl, rfl⟩
theorem dL_2724 : dc code 2724 2725 .lcmp 1 := ⟨dr_at drL_law_2531 (i := 118) rfl, rfl⟩
theorem dL_2725 : dc code 2725 2728 (.ifCond .eq 5) 3 := ⟨dr_at drL_law_2531 (i := 119) rfl, rfl⟩
theorem dL_2728 : dc code 2728 2729 (.iconst 0) 1 := ⟨dr_at drL_law_2531 (i := 120) rfl, rfl⟩
theorem dL_2730 : dc code 2730 2733 (.goto 52) 3 := ⟨dr_at drL_law_2531 (i := 121) rfl, rfl⟩
theorem dL_2733 : dc code 2733 2734 (.aload_n 1) 1 := ⟨dr_at drL_law_2531 (i := 122) rfl, rfl⟩
theorem dL_2734 : dc code 2734 2737 (.invokevirtual 274) 3 := ⟨dr_at drL_law_2531 (i := 123) rfl, rfl⟩
theorem dL_2737 : dc code 2737 2738 (.aload_n 2) 1 := ⟨dr_at drL_law_2531 (i := 124) rfl, rfl⟩
theorem dL_2738 : dc code 2738 2741 (.invokevirtual 277) 3 := ⟨dr_at drL_law_2531 (i := 125) rfl, rfl⟩
theorem dL_2741 : dc code 2741 2744 (.goto 41) 3 := ⟨dr_at drL_law_2531 (i := 126) rfl, rfl⟩
theorem dL_2744 : dc code 2744 2745 (.aload_n 1) 1 := ⟨dr_at drL_law_2531 (i := 127) rfl, rfl⟩
theorem dL_2745 : dc code 2745 2748 (.invokevirtual 278) 3 := ⟨dr_at drL_law_2531 (i := 128) rfl, rfl⟩
theorem dL_2748 : dc code 2748 2749 (.aload_n 2) 1 := ⟨dr_at drL_law_2531 (i := 129) rfl, rfl⟩
theorem dL_2749 : dc code 2749 2752 (.invokevirtual 282) 3 := ⟨dr_at drL_law_2531 (i := 130) rfl, rfl⟩
theorem dL_2752 : dc code 2752 2755 (.if_icmp .eq 30) 3 := ⟨dr_at drL_law_2531 (i := 131) rfl, rfl⟩
theorem dL_2755 : dc code 2755 2756 (.iconst 0) 1 := ⟨dr_at drL_law_2531 (i := 132) rfl, rfl⟩
theorem dL_2757 : dc code 2757 2758 (.aload_n 1) 1 := ⟨dr_at drL_law_2531 (i := 133) rfl, rfl⟩
theorem dL_2758 : dc code 2758 2759 (.aload_n 0) 1 := ⟨dr_at drL_law_2531 (i := 134) rfl, rfl⟩
theorem dL_2759 : dc code 2759 2761 (.iload 4) 2 := ⟨dr_at drL_law_2531 (i := 135) rfl, rfl⟩
theorem dL_2761 : dc code 2761 2762 (.iconst 1) 1 := ⟨dr_at drL_law_2531 (i := 136) rfl, rfl⟩
theorem dL_2762 : dc code 2762 2763 .iadd 1 := ⟨dr_at drL_law_2531 (i := 137) rfl, rfl⟩
theorem dL_2763 : dc code 2763 2764 .iaload 1 := ⟨dr_at drL_law_2531 (i := 138) rfl, rfl⟩
theorem dL_2764 : dc code 2764 2767 (.invokevirtual 283) 3 := ⟨dr_at drL_law_2531 (i := 139) rfl, rfl⟩
theorem dL_2767 : dc code 2767 2768 (.aload_n 2) 1 := ⟨dr_at drL_law_2531 (i := 140) rfl, rfl⟩
theorem dL_2768 : dc code 2768 2769 (.aload_n 0) 1 := ⟨dr_at drL_law_2531 (i := 141) rfl, rfl⟩
theorem dL_2769 : dc code 2769 2771 (.iload 4) 2 := ⟨dr_at drL_law_2531 (i := 142) rfl, rfl⟩
theorem dL_2771 : dc code 2771 2772 (.iconst 1) 1 := ⟨dr_at drL_law_2531 (i := 143) rfl, rfl⟩
theorem dL_2772 : dc code 2772 2773 .iadd 1 := ⟨dr_at drL_law_2531 (i := 144) rfl, rfl⟩
theorem dL_2773 : dc code 2773 2774 .iaload 1 := ⟨dr_at drL_law_2531 (i := 145) rfl, rfl⟩
theorem dL_2774 : dc code 2774 2777 (.invokevirtual 286) 3 := ⟨dr_at drL_law_2531 (i := 146) rfl, rfl⟩
theorem dL_2777 : dc code 2777 2780 (.if_icmp .eq 5) 3 := ⟨dr_at drL_law_2531 (i := 147) rfl, rfl⟩
theorem dL_2780 : dc code 2780 2781 (.iconst 0) 1 := ⟨dr_at drL_law_2531 (i := 148) rfl, rfl⟩
theorem dL_2782 : dc code 2782 2785 (.iinc 4 7) 3 := ⟨dr_at drL_law_2531 (i := 149) rfl, rfl⟩
theorem drL_law_2785 : ([(2785, (.goto (-2762)), 3), (2788, (.iconst 1), 1), (2789, .ireturn, 1)] : List (Nat × Instr × Nat)).all (fun q => decide (decode code q.1 = .ok q.2)) = true := by decide +kernel
theorem dL_2785 : dc code 2785 2788 (.goto (-2762)) 3 := ⟨dr_at drL_law_2785 (i := 0) rfl, rfl⟩
theorem dL_2788 : dc code 2788 2789 (.iconst 1) 1 := ⟨dr_at drL_law_2785 (i := 1) rfl, rfl⟩
theorem dL_2789 : dc code 2789 2790 .ireturn 1 := ⟨dr_at drL_law_2785 (i := 2) rfl, rfl⟩
def F_LAWc_220 (xs : Nat → Int32) (L : Nat) (x4 : Int32) (M : Mem) : Option Mem :=
  if inb (x4 + 1) L then if inb (x4 + 2) L then if inb (x4 + 3) L then if inb (x4 + 4) L then if inb (x4 + 5) L then (F_KW_feed (xs (x4 + 1).toNatClampNeg) (xs (x4 + 2).toNatClampNeg) (xs (x4 + 3).toNatClampNeg) (xs (x4 + 4).toNatClampNeg) (xs (x4 + 5).toNatClampNeg) M).bind fun r1 => if inb (x4 + 1) L then if inb (x4 + 2) L then if inb (x4 + 3) L then if inb (x4 + 4) L then if inb (x4 + 5) L then (F_MO_feed (xs (x4 + 1).toNatClampNeg) (xs (x4 + 2).toNatClampNeg) (xs (x4 + 3).toNatClampNeg) (xs (x4 + 4).toNatClampNeg) (xs (x4 + 5).toNatClampNeg) r1.2).bind fun r2 => if r1.1 = r2.1 then some r2.2 else none else none else none else none else none else none else none else none else none else none else none
set_option maxRecDepth 100000 in
set_option maxHeartbeats 8000000 in
theorem K_LAWc_220 {p : Program} {l : Launch} {e : Env} {s : State} {m : MethodId} {args : Array Value} {below : List Frame} {meth : Method} {c : Code} {g : GB} {Q : State → Prop} {b L : Nat} {xs : Nat → Int32} (K : KF p l s m args meth c g code 8 "KeptWellLaw") (htr : l.stackTraces = false) (hX : va_X b L xs s s.heap) (hbl : b < s.heap.size) (hbA : ¬ AS g s.heap.size b) (C S : Nat) (hC : C + 8 ≤ 601024) (hS : S + 48 ≤ 7293034) (x4 : Int32) (M : Mem) (PHI : Mem → Prop) (hnext : ∀ M, PHI M → GG p l e room_1 s m args below meth c g 8 Q (C + 8) (S + 48) 2782 [(0, .ref b), (1, .ref (g.2.1 0)), (2, .ref (g.2.1 94)), (3, .ref (g.2.1 121)), (4, .int x4)] [] M) (h : wpO (F_LAWc_220 xs L x4 M) PHI) : GG p l e room_1 s m args below meth c g 8 Q C S 220 [(0, .ref b), (1, .ref (g.2.1 0)), (2, .ref (g.2.1 94)), (3, .ref (g.2.1 121)), (4, .int x4)] [] M := by
  unfold F_LAWc_220 at h
  refine G_aload_n rfl 1 rfl K dL_220 ?_
  refine G_aload_n rfl 0 rfl K dL_221 ?_
  refine G_iload 4 rfl K dL_222 ?_
  refine G_iconst (v := 1) rfl K dL_224 ?_
  refine G_iadd K dL_225 ?_
  obtain ⟨hin, h⟩ := wpO_g h
  refine G_sld K hX hbl hbA dL_226 hin ?_
  refine G_aload_n rfl 0 rfl K dL_227 ?_
  refine G_iload 4 rfl K dL_228 ?_
  refine G_iconst (v := 2) rfl K dL_230 ?_
  refine G_iadd K dL_231 ?_
  obtain ⟨hin, h⟩ := wpO_g h
  refine G_sld K hX hbl hbA dL_232 hin ?_
  refine G_aload_n rfl 0 rfl K dL_233 ?_
  refine G_iload 4 rfl K dL_234 ?_
  refine G_iconst (v := 3) rfl K dL_236 ?_
  refine G_iadd K dL_237 ?_
  obtain ⟨hin, h⟩ := wpO_g h
  refine G_sld K hX hbl hbA dL_238 hin ?_
  refine G_aload_n rfl 0 rfl K dL_239 ?_
  refine G_iload 4 rfl K dL_240 ?_
  refine G_iconst (v := 4) rfl K dL_242 ?_
  refine G_iadd K dL_243 ?_
  obtain ⟨hin, h⟩ := wpO_g h
  refine G_sld K hX hbl hbA dL_244 hin ?_
  refine G_aload_n rfl 0 rfl K dL_245 ?_
  refine G_iload 4 rfl K dL_246 ?_
  refine G_iconst (v := 5) rfl K dL_248 ?_
  refine G_iadd K dL_249 ?_
  obtain ⟨hin, h⟩ := wpO_g h
  refine G_sld K hX hbl hbA dL_250 hin ?_
  obtain ⟨r1, e1, h⟩ := wpO_bind h
  refine G_callVi (ci := 11) [.int (xs (x4 + 1).toNatClampNeg), .int (xs (x4 + 2).toNatClampNeg), .int (xs (x4 + 3).toNatClampNeg), .int (xs (x4 + 4).toNatClampNeg), .int (xs (x4 + 5).toNatClampNeg)] [] K dL_251 wv_439 yd_X11_feed (Nat.le_of_ble_eq_true rfl) (sh_0 _ _) rfl (by decide) ⟨by show C + 0 + 0 ≤ 601024; omega, by show S + 0 + 0 ≤ 7293034; omega⟩ rfl rfl (Nat.le_of_ble_eq_true rfl) (K_KW_feed l g htr (xs (x4 + 1).toNatClampNeg) (xs (x4 + 2).toNatClampNeg) (xs (x4 + 3).toNatClampNeg) (xs (x4 + 4).toNatClampNeg) (xs (x4 + 5).toNatClampNeg) M _ _ e1) ?_
  refine G_aload_n rfl 2 rfl K dL_254 ?_
  refine G_aload_n rfl 0 rfl K dL_255 ?_
  refine G_iload 4 rfl K dL_256 ?_
  refine G_iconst (v := 1) rfl K dL_258 ?_
  refine G_iadd K dL_259 ?_
  obtain ⟨hin, h⟩ := wpO_g h
  refine G_sld K hX hbl hbA dL_260 hin ?_
  refine G_aload_n rfl 0 rfl K dL_261 ?_
  refine G_iload 4 rfl K dL_262 ?_
  refine G_iconst (v := 2) rfl K dL_264 ?_
  refine G_iadd K dL_265 ?_
  obtain ⟨hin, h⟩ := wpO_g h
  refine G_sld K hX hbl hbA dL_266 hin ?_
  refine G_aload_n rfl 0 rfl K dL_267 ?_
  refine G_iload 4 rfl K dL_268 ?_
  refine G_iconst (v := 3) rfl K dL_270 ?_
  refine G_iadd K dL_271 ?_
  obtain ⟨hin, h⟩ := wpO_g h
  refine G_sld K hX hbl hbA dL_272 hin ?_
  refine G_aload_n rfl 0 rfl K dL_273 ?_
  refine G_iload 4 rfl K dL_274 ?_
  refine G_iconst (v := 4) rfl K dL_276 ?_
  refine G_iadd K dL_277 ?_
  obtain ⟨hin, h⟩ := wpO_g h
  refine G_sld K hX hbl hbA dL_278 hin ?_
  refine G_aload_n rfl 0 rfl K dL_279 ?_
  refine G_iload 4 rfl K dL_280 ?_
  refine G_iconst (v := 5) rfl K dL_282 ?_
  refine G_iadd K dL_283 ?_
  obtain ⟨hin, h⟩ := wpO_g h
  refine G_sld K hX hbl hbA dL_284 hin ?_
  obtain ⟨r2, e2, h⟩ := wpO_bind h
  refine G_callVi (ci := 12) [.int (xs (x4 + 1).toNatClampNeg), .int (xs (x4 + 2).toNatClampNeg), .int (xs (x4 + 3).toNatClampNeg), .int (xs (x4 + 4).toNatClampNeg), .int (xs (x4 + 5).toNatClampNeg)] [.int r1.1] K dL_285 wv_1635 yd_X12_feed (Nat.le_of_ble_eq_true rfl) (sh_94 _ _) rfl (by decide) ⟨by show C + 0 + 0 ≤ 601024; omega, by show S + 0 + 0 ≤ 7293034; omega⟩ rfl rfl (Nat.le_of_ble_eq_true rfl) (K_MO_feed l g htr (xs (x4 + 1).toNatClampNeg) (xs (x4 + 2).toNatClampNeg) (xs (x4 + 3).toNatClampNeg) (xs (x4 + 4).toNatClampNeg) (xs (x4 + 5).toNatClampNeg) r1.2 _ _ e2) ?_
  refine G_icmp_eq (tgt := 2782) K dL_288 (by decide) (fun hc => ?_) (fun hc => ?_)
  · have h := wpO_t h hc
    exact G_wide (k := C + 8) (n := S + 48) (by show C + 0 ≤ C + 8; omega) (by show S + 0 ≤ S + 48; omega) (hnext r2.2 (wpO_some h))
  · have h := wpO_f h hc
    refine G_iconst (v := 0) rfl K dL_291 ?_
    exact wpO_none h
def F_LAWc_293 (xs : Nat → Int32) (L : Nat) (x4 : Int32) (M : Mem) : Option Mem :=
  if inb (x4 + 1) L then (F_KW_end (xs (x4 + 1).toNatClampNeg) M).bind fun r1 => if inb (x4 + 1) L then (F_MO_end (xs (x4 + 1).toNatClampNeg) r1.2).bind fun r2 => if ((b2i r1.1)) = ((b2i r2.1)) then some r2.2 else none else none else none
set_option maxRecDepth 100000 in
set_option maxHeartbeats 8000000 in
theorem K_LAWc_293 {p : Program} {l : Launch} {e : Env} {s : State} {m : MethodId} {args : Array Value} {below : List Frame} {meth : Method} {c : Code} {g : GB} {Q : State → Prop} {b L : Nat} {xs : Nat → Int32} (K : KF p l s m args meth c g code 8 "KeptWellLaw") (htr : l.stackTraces = false) (hX : va_X b L xs s s.heap) (hbl : b < s.heap.size) (hbA : ¬ AS g s.heap.size b) (C S : Nat) (hC : C + 8 ≤ 601024) (hS : S + 48 ≤ 7293034) (x4 : Int32) (M : Mem) (PHI : Mem → Prop) (hnext : ∀ M, PHI M → GG p l e room_1 s m args below meth c g 8 Q (C + 8) (S + 48) 2782 [(0, .ref b), (1, .ref (g.2.1 0)), (2, .ref (g.2.1 94)), (3, .ref (g.2.1 121)), (4, .int x4)] [] M) (h : wpO (F_LAWc_293 xs L x4 M) PHI) : GG p l e room_1 s m args below meth c g 8 Q C S 293 [(0, .ref b), (1, .ref (g.2.1 0)), (2, .ref (g.2.1 94)), (3, .ref (g.2.1 121)), (4, .int x4)] [] M := by
  unfold F_LAWc_293 at h
  refine G_aload_n rfl 1 rfl K dL_293 ?_
  refine G_aload_n rfl 0 rfl K dL_294 ?_
  refine G_iload 4 rfl K dL_295 ?_
  refine G_iconst (v := 1) rfl K dL_297 ?_
  refine G_iadd K dL_298 ?_
  obtain ⟨hin, h⟩ := wpO_g h
  refine G_sld K hX hbl hbA dL_299 hin ?_
  obtain ⟨r1, e1, h⟩ := wpO_bind h
  refine G_callVi (ci := 11) [.int (xs (x4 + 1).toNatClampNeg)] [] K dL_300 wv_455 yd_X11_end (Nat.le_of_ble_eq_true rfl) (sh_0 _ _) rfl (by decide) ⟨by show C + 0 + 0 ≤ 601024; omega, by show S + 0 + 0 ≤ 7293034; omega⟩ rfl rfl (Nat.le_of_ble_eq_true rfl) (K_KW_end l g htr (xs (x4 + 1).toNatClampNeg) M _ _ e1) ?_
  refine G_aload_n rfl 2 rfl K dL_303 ?_
  refine G_aload_n rfl 0 rfl K dL_304 ?_
  refine G_iload 4 rfl K dL_305 ?_
  refine G_iconst (v := 1) rfl K dL_307 ?_
  refine G_iadd K dL_308 ?_
  obtain ⟨hin, h⟩ := wpO_g h
  refine G_sld K hX hbl hbA dL_309 hin ?_
  obtain ⟨r2, e2, h⟩ := wpO_bind h
  refine G_callVi (ci := 12) [.int (xs (x4 + 1).toNatClampNeg)] [.int ((b2i r1.1))] K dL_310 wv_1639 yd_X12_end (Nat.le_of_ble_eq_true rfl) (sh_94 _ _) rfl (by decide) ⟨by show C + 0 + 0 ≤ 601024; omega, by show S + 0 + 0 ≤ 7293034; omega⟩ rfl rfl (Nat.le_of_ble_eq_true rfl) (K_MO_end l g htr (xs (x4 + 1).toNatClampNeg) r1.2 _ _ e2) ?_
  refine G_icmp_eq (tgt := 2782) K dL_313 (by decide) (fun hc => ?_) (fun hc => ?_)
  · have h := wpO_t h hc
    exact G_wide (k := C + 8) (n := S + 48) (by show C + 0 ≤ C + 8; omega) (by show S + 0 ≤ S + 48; omega) (hnext r2.2 (wpO_some h))
  · have h := wpO_f h hc
    refine G_iconst (v := 0) rfl K dL_316 ?_
    exact wpO_none h
def F_LAWc_318 (xs : Nat → Int32) (L : Nat) (x4 : Int32) (M : Mem) : Option Mem :=
  if inb (x4 + 1) L then (F_LAW_acts (xs (x4 + 1).toNatClampNeg) M).bind fun r1 => if inb (x4 + 1) L then (F_MO_acts (xs (x4 + 1).toNatClampNeg) r1.2).bind fun r2 => (F_MO_thrown r2).bind fun r3 => if r3 = r1.1 then some r2 else none else none else none
set_option maxRecDepth 100000 in
set_option maxHeartbeats 8000000 in
theorem K_LAWc_318 {p : Program} {l : Launch} {e : Env} {s : State} {m : MethodId} {args : Array Value} {below : List Frame} {meth : Method} {c : Code} {g : GB} {Q : State → Prop} {b L : Nat} {xs : Nat → Int32} (K : KF p l s m args meth c g code 8 "KeptWellLaw") (htr : l.stackTraces = false) (hX : va_X b L xs s s.heap) (hbl : b < s.heap.size) (hbA : ¬ AS g s.heap.size b) (C S : Nat) (hC : C + 8 ≤ 601024) (hS : S + 48 ≤ 7293034) (x4 : Int32) (M : Mem) (PHI : Mem → Prop) (hnext : ∀ M, PHI M → GG p l e room_1 s m args below meth c g 8 Q (C + 8) (S + 48) 2782 [(0, .ref b), (1, .ref (g.2.1 0)), (2, .ref (g.2.1 94)), (3, .ref (g.2.1 121)), (4, .int x4)] [] M) (h : wpO (F_LAWc_318 xs L x4 M) PHI) : GG p l e room_1 s m args below meth c g 8 Q C S 318 [(0, .ref b), (1, .ref (g.2.1 0)), (2, .ref (g.2.1 94)), (3, .ref (g.2.1 121)), (4, .int x4)] [] M := by
  unfold F_LAWc_318 at h
  refine G_aload_n rfl 1 rfl K dL_318 ?_
  refine G_aload_n rfl 0 rfl K dL_319 ?_
  refine G_iload 4 rfl K dL_320 ?_
  refine G_iconst (v := 1) rfl K dL_322 ?_
  refine G_iadd K dL_323 ?_
  obtain ⟨hin, h⟩ := wpO_g h
  refine G_sld K hX hbl hbA dL_324 hin ?_
  obtain ⟨r1, e1, h⟩ := wpO_bind h
  refine G_callH [.ref (g.2.1 0), .int (xs (x4 + 1).toNatClampNeg)] [] K dL_325 wv_646 yd_L_acts (by decide) ⟨by show C + 0 + 1 ≤ 601024; omega, by show S + 0 + 6 ≤ 7293034; omega⟩ rfl rfl (Nat.le_of_ble_eq_true rfl) (K_LAW_acts l g htr (xs (x4 + 1).toNatClampNeg) M _ _ e1) ?_
  refine G_istore K dL_328 (Nat.le_of_ble_eq_true rfl) rfl ?_
  refine G_aload_n rfl 3 rfl K dL_330 ?_
  refine G_aload_n rfl 1 rfl K dL_331 ?_
  refine G_iload 5 rfl K dL_332 ?_
  refine G_iconst (v := 1) rfl K dL_334 ?_
  refine G_iadd K dL_335 ?_
  obtain ⟨hin, h⟩ := wpO_g h
  refine G_sld K hX hbl hbA dL_336 hin ?_
  obtain ⟨r2, e2, h⟩ := wpO_bind h
  refine G_callVv (ci := 12) [.int (xs (x4 + 1).toNatClampNeg)] [] K dL_337 wv_1608 yd_X12_acts (Nat.le_of_ble_eq_true rfl) (sh_94 _ _) rfl (by decide) ⟨by show C + 1 + 0 ≤ 601024; omega, by show S + 6 + 0 ≤ 7293034; omega⟩ rfl rfl (Nat.le_of_ble_eq_true rfl) (K_MO_acts l g htr (xs (x4 + 1).toNatClampNeg) r1.2 _ e2) ?_
  refine G_aload_n rfl 3 rfl K dL_340 ?_
  obtain ⟨r3, e3, h⟩ := wpO_bind h
  refine G_callVi (ci := 12) [] [] K dL_341 wv_1465 yd_X12_thrown (Nat.le_of_ble_eq_true rfl) (sh_94 _ _) rfl (by decide) ⟨by show C + 1 + 0 ≤ 601024; omega, by show S + 6 + 0 ≤ 7293034; omega⟩ rfl rfl (Nat.le_of_ble_eq_true rfl) (K_MO_thrown l g htr  r2 _ e3) ?_
  refine G_iload 0 rfl K dL_344 ?_
  refine G_icmp_eq (tgt := 351) K dL_346 (by decide) (fun hc => ?_) (fun hc => ?_)
  · have h := wpO_t h hc
    refine G_goto (tgt := 2782) K dL_351 (by decide) ?_
    exact G_wide (k := C + 8) (n := S + 48) (by show C + 1 ≤ C + 8; omega) (by show S + 6 ≤ S + 48; omega) (G_lv (lv' := [(0, .ref b), (1, .ref (g.2.1 0)), (2, .ref (g.2.1 94)), (3, .ref (g.2.1 121)), (4, .int x4)]) [1, 2, 3, 4, 5] rfl (hnext r2 (wpO_some h)))
  · have h := wpO_f h hc
    refine G_iconst (v := 0) rfl K dL_349 ?_
    exact wpO_none h
def F_LAWc_354 (xs : Nat → Int32) (L : Nat) (x4 : Int32) (M : Mem) : Option Mem :=
  if inb (x4 + 1) L then if inb (x4 + 2) L then if inb (x4 + 3) L then if inb (x4 + 4) L then (F_LAW_bring (xs (x4 + 1).toNatClampNeg) (xs (x4 + 2).toNatClampNeg) (xs (x4 + 3).toNatClampNeg) (xs (x4 + 4).toNatClampNeg) M).bind fun r1 => if inb (x4 + 1) L then if inb (x4 + 2) L then if inb (x4 + 3) L then if inb (x4 + 4) L then (F_MO_bring (xs (x4 + 1).toNatClampNeg) (xs (x4 + 2).toNatClampNeg) (xs (x4 + 3).toNatClampNeg) (xs (x4 + 4).toNatClampNeg) r1.2).bind fun r2 => (F_MO_thrown r2).bind fun r3 => if r3 = r1.1 then some r2 else none else none else none else none else none else none else none else none else none
set_option maxRecDepth 100000 in
set_option maxHeartbeats 8000000 in
theorem K_LAWc_354 {p : Program} {l : Launch} {e : Env} {s : State} {m : MethodId} {args : Array Value} {below : List Frame} {meth : Method} {c : Code} {g : GB} {Q : State → Prop} {b L : Nat} {xs : Nat → Int32} (K : KF p l s m args meth c g code 8 "KeptWellLaw") (htr : l.stackTraces = false) (hX : va_X b L xs s s.heap) (hbl : b < s.heap.size) (hbA : ¬ AS g s.heap.size b) (C S : Nat) (hC : C + 8 ≤ 601024) (hS : S + 48 ≤ 7293034) (x4 : Int32) (M : Mem) (PHI : Mem → Prop) (hnext : ∀ M, PHI M → GG p l e room_1 s m args below meth c g 8 Q (C + 8) (S + 48) 2782 [(0, .ref b), (1, .ref (g.2.1 0)), (2, .ref (g.2.1 94)), (3, .ref (g.2.1 121)), (4, .int x4)] [] M) (h : wpO (F_LAWc_354 xs L x4 M) PHI) : GG p l e room_1 s m args below meth c g 8 Q C S 354 [(0, .ref b), (1, .ref (g.2.1 0)), (2, .ref (g.2.1 94)), (3, .ref (g.2.1 121)), (4, .int x4)] [] M := by
  unfold F_LAWc_354 at h
  refine G_aload_n rfl 1 rfl K dL_354 ?_
  refine G_aload_n rfl 0 rfl K dL_355 ?_
  refine G_iload 4 rfl K dL_356 ?_
  refine G_iconst (v := 1) rfl K dL_358 ?_
  refine G_iadd K dL_359 ?_
  obtain ⟨hin, h⟩ := wpO_g h
  refine G_sld K hX hbl hbA dL_360 hin ?_
  refine G_aload_n rfl 0 rfl K dL_361 ?_
  refine G_iload 4 rfl K dL_362 ?_
  refine G_iconst (v := 2) rfl K dL_364 ?_
  refine G_iadd K dL_365 ?_
  obtain ⟨hin, h⟩ := wpO_g h
  refine G_sld K hX hbl hbA dL_366 hin ?_
  refine G_aload_n rfl 0 rfl K dL_367 ?_
  refine G_iload 4 rfl K dL_368 ?_
  refine G_iconst (v := 3) rfl K dL_370 ?_
  refine G_iadd K dL_371 ?_
  obtain ⟨hin, h⟩ := wpO_g h
  refine G_sld K hX hbl hbA dL_372 hin ?_
  refine G_aload_n rfl 0 rfl K dL_373 ?_
  refine G_iload 4 rfl K dL_374 ?_
  refine G_iconst (v := 4) rfl K dL_376 ?_
  refine G_iadd K dL_377 ?_
  obtain ⟨hin, h⟩ := wpO_g h
  refine G_sld K hX hbl hbA dL_378 hin ?_
  obtain ⟨r1, e1, h⟩ := wpO_bind h
  refine G_callH [.ref (g.2.1 0), .int (xs (x4 + 1).toNatClampNeg), .int (xs (x4 + 2).toNatClampNeg), .int (xs (x4 + 3).toNatClampNeg), .int (xs (x4 + 4).toNatClampNeg)] [] K dL_379 wv_723 yd_L_bring (by decide) ⟨by show C + 0 + 4 ≤ 601024; omega, by show S + 0 + 24 ≤ 7293034; omega⟩ rfl rfl (Nat.le_of_ble_eq_true rfl) (K_LAW_bring l g htr (xs (x4 + 1).toNatClampNeg) (xs (x4 + 2).toNatClampNeg) (xs (x4 + 3).toNatClampNeg) (xs (x4 + 4).toNatClampNeg) M _ _ e1) ?_
  refine G_istore K dL_382 (Nat.le_of_ble_eq_true rfl) rfl ?_
  refine G_aload_n rfl 3 rfl K dL_384 ?_
  refine G_aload_n rfl 1 rfl K dL_385 ?_
  refine G_iload 5 rfl K dL_386 ?_
  refine G_iconst (v := 1) rfl K dL_388 ?_
  refine G_iadd K dL_389 ?_
  obtain ⟨hin, h⟩ := wpO_g h
  refine G_sld K hX hbl hbA dL_390 hin ?_
  refine G_aload_n rfl 1 rfl K dL_391 ?_
  refine G_iload 5 rfl K dL_392 ?_
  refine G_iconst (v := 2) rfl K dL_394 ?_
  refine G_iadd K dL_395 ?_
  obtain ⟨hin, h⟩ := wpO_g h
  refine G_sld K hX hbl hbA dL_396 hin ?_
  refine G_aload_n rfl 1 rfl K dL_397 ?_
  refine G_iload 5 rfl K dL_398 ?_
  refine G_iconst (v := 3) rfl K dL_400 ?_
  refine G_iadd K dL_401 ?_
  obtain ⟨hin, h⟩ := wpO_g h
  refine G_sld K hX hbl hbA dL_402 hin ?_
  refine G_aload_n rfl 1 rfl K dL_403 ?_
  refine G_iload 5 rfl K dL_404 ?_
  refine G_iconst (v := 4) rfl K dL_406 ?_
  refine G_iadd K dL_407 ?_
  obtain ⟨hin, h⟩ := wpO_g h
  refine G_sld K hX hbl hbA dL_408 hin ?_
  obtain ⟨r2, e2, h⟩ := wpO_bind h
  refine G_callVv (ci := 12) [.int (xs (x4 + 1).toNatClampNeg), .int (xs (x4 + 2).toNatClampNeg), .int (xs (x4 + 3).toNatClampNeg), .int (xs (x4 + 4).toNatClampNeg)] [] K dL_409 wv_1619 yd_X12_bring (Nat.le_of_ble_eq_true rfl) (sh_94 _ _) rfl (by decide) ⟨by show C + 4 + 0 ≤ 601024; omega, by show S + 24 + 0 ≤ 7293034; omega⟩ rfl rfl (Nat.le_of_ble_eq_true rfl) (K_MO_bring l g htr (xs (x4 + 1).toNatClampNeg) (xs (x4 + 2).toNatClampNeg) (xs (x4 + 3).toNatClampNeg) (xs (x4 + 4).toNatClampNeg) r1.2 _ e2) ?_
  refine G_aload_n rfl 3 rfl K dL_412 ?_
  obtain ⟨r3, e3, h⟩ := wpO_bind h
  refine G_callVi (ci := 12) [] [] K dL_413 wv_1465 yd_X12_thrown (Nat.le_of_ble_eq_true rfl) (sh_94 _ _) rfl (by decide) ⟨by show C + 4 + 0 ≤ 601024; omega, by show S + 24 + 0 ≤ 7293034; omega⟩ rfl rfl (Nat.le_of_ble_eq_true rfl) (K_MO_thrown l g htr  r2 _ e3) ?_
  refine G_iload 0 rfl K dL_416 ?_
  refine G_icmp_eq (tgt := 423) K dL_418 (by decide) (fun hc => ?_) (fun hc => ?_)
  · have h := wpO_t h hc
    refine G_goto (tgt := 2782) K dL_423 (by decide) ?_
    exact G_wide (k := C + 8) (n := S + 48) (by show C + 4 ≤ C + 8; omega) (by show S + 24 ≤ S + 48; omega) (G_lv (lv' := [(0, .ref b), (1, .ref (g.2.1 0)), (2, .ref (g.2.1 94)), (3, .ref (g.2.1 121)), (4, .int x4)]) [1, 2, 3, 4, 5] rfl (hnext r2 (wpO_some h)))
  · have h := wpO_f h hc
    refine G_iconst (v := 0) rfl K dL_421 ?_
    exact wpO_none h
def F_LAWc_426 (xs : Nat → Int32) (L : Nat) (x4 : Int32) (M : Mem) : Option Mem :=
  if inb (x4 + 1) L then if inb (x4 + 2) L then (F_LAW_tomorrow (xs (x4 + 1).toNatClampNeg) (xs (x4 + 2).toNatClampNeg) M).bind fun r1 => if inb (x4 + 1) L then if inb (x4 + 2) L then (F_MO_tomorrow (xs (x4 + 1).toNatClampNeg) (xs (x4 + 2).toNatClampNeg) r1.2).bind fun r2 => (F_MO_thrown r2).bind fun r3 => if r3 = r1.1 then some r2 else none else none else none else none else none
set_option maxRecDepth 100000 in
set_option maxHeartbeats 8000000 in
theorem K_LAWc_426 {p : Program} {l : Launch} {e : Env} {s : State} {m : MethodId} {args : Array Value} {below : List Frame} {meth : Method} {c : Code} {g : GB} {Q : State → Prop} {b L : Nat} {xs : Nat → Int32} (K : KF p l s m args meth c g code 8 "KeptWellLaw") (htr : l.stackTraces = false) (hX : va_X b L xs s s.heap) (hbl : b < s.heap.size) (hbA : ¬ AS g s.heap.size b) (C S : Nat) (hC : C + 8 ≤ 601024) (hS : S + 48 ≤ 7293034) (x4 : Int32) (M : Mem) (PHI : Mem → Prop) (hnext : ∀ M, PHI M → GG p l e room_1 s m args below meth c g 8 Q (C + 8) (S + 48) 2782 [(0, .ref b), (1, .ref (g.2.1 0)), (2, .ref (g.2.1 94)), (3, .ref (g.2.1 121)), (4, .int x4)] [] M) (h : wpO (F_LAWc_426 xs L x4 M) PHI) : GG p l e room_1 s m args below meth c g 8 Q C S 426 [(0, .ref b), (1, .ref (g.2.1 0)), (2, .ref (g.2.1 94)), (3, .ref (g.2.1 121)), (4, .int x4)] [] M := by
  unfold F_LAWc_426 at h
  refine G_aload_n rfl 1 rfl K dL_426 ?_
  refine G_aload_n rfl 0 rfl K dL_427 ?_
  refine G_iload 4 rfl K dL_428 ?_
  refine G_iconst (v := 1) rfl K dL_430 ?_
  refine G_iadd K dL_431 ?_
  obtain ⟨hin, h⟩ := wpO_g h
  refine G_sld K hX hbl hbA dL_432 hin ?_
  refine G_aload_n rfl 0 rfl K dL_433 ?_
  refine G_iload 4 rfl K dL_434 ?_
  refine G_iconst (v := 2) rfl K dL_436 ?_
  refine G_iadd K dL_437 ?_
  obtain ⟨hin, h⟩ := wpO_g h
  refine G_sld K hX hbl hbA dL_438 hin ?_
  obtain ⟨r1, e1, h⟩ := wpO_bind h
  refine G_callH [.ref (g.2.1 0), .int (xs (x4 + 1).toNatClampNeg), .int (xs (x4 + 2).toNatClampNeg)] [] K dL_439 wv_755 yd_L_tomorrow (by decide) ⟨by show C + 0 + 2 ≤ 601024; omega, by show S + 0 + 12 ≤ 7293034; omega⟩ rfl rfl (Nat.le_of_ble_eq_true rfl) (K_LAW_tomorrow l g htr (xs (x4 + 1).toNatClampNeg) (xs (x4 + 2).toNatClampNeg) M _ _ e1) ?_
  refine G_istore K dL_442 (Nat.le_of_ble_eq_true rfl) rfl ?_
  refine G_aload_n rfl 3 rfl K dL_444 ?_
  refine G_aload_n rfl 1 rfl K dL_445 ?_
  refine G_iload 5 rfl K dL_446 ?_
  refine G_iconst (v := 1) rfl K dL_448 ?_
  refine G_iadd K dL_449 ?_
  obtain ⟨hin, h⟩ := wpO_g h
  refine G_sld K hX hbl hbA dL_450 hin ?_
  refine G_aload_n rfl 1 rfl K dL_451 ?_
  refine G_iload 5 rfl K dL_452 ?_
  refine G_iconst (v := 2) rfl K dL_454 ?_
  refine G_iadd K dL_455 ?_
  obtain ⟨hin, h⟩ := wpO_g h
  refine G_sld K hX hbl hbA dL_456 hin ?_
  obtain ⟨r2, e2, h⟩ := wpO_bind h
  refine G_callVv (ci := 12) [.int (xs (x4 + 1).toNatClampNeg), .int (xs (x4 + 2).toNatClampNeg)] [] K dL_457 wv_1631 yd_X12_tomorrow (Nat.le_of_ble_eq_true rfl) (sh_94 _ _) rfl (by decide) ⟨by show C + 2 + 0 ≤ 601024; omega, by show S + 12 + 0 ≤ 7293034; omega⟩ rfl rfl (Nat.le_of_ble_eq_true rfl) (K_MO_tomorrow l g htr (xs (x4 + 1).toNatClampNeg) (xs (x4 + 2).toNatClampNeg) r1.2 _ e2) ?_
  refine G_aload_n rfl 3 rfl K dL_460 ?_
  obtain ⟨r3, e3, h⟩ := wpO_bind h
  refine G_callVi (ci := 12) [] [] K dL_461 wv_1465 yd_X12_thrown (Nat.le_of_ble_eq_true rfl) (sh_94 _ _) rfl (by decide) ⟨by show C + 2 + 0 ≤ 601024; omega, by show S + 12 + 0 ≤ 7293034; omega⟩ rfl rfl (Nat.le_of_ble_eq_true rfl) (K_MO_thrown l g htr  r2 _ e3) ?_
  refine G_iload 0 rfl K dL_464 ?_
  refine G_icmp_eq (tgt := 471) K dL_466 (by decide) (fun hc => ?_) (fun hc => ?_)
  · have h := wpO_t h hc
    refine G_goto (tgt := 2782) K dL_471 (by decide) ?_
    exact G_wide (k := C + 8) (n := S + 48) (by show C + 2 ≤ C + 8; omega) (by show S + 12 ≤ S + 48; omega) (G_lv (lv' := [(0, .ref b), (1, .ref (g.2.1 0)), (2, .ref (g.2.1 94)), (3, .ref (g.2.1 121)), (4, .int x4)]) [1, 2, 3, 4, 5] rfl (hnext r2 (wpO_some h)))
  · have h := wpO_f h hc
    refine G_iconst (v := 0) rfl K dL_469 ?_
    exact wpO_none h
def F_LAWc_474 (xs : Nat → Int32) (L : Nat) (x4 : Int32) (M : Mem) : Option Mem :=
  (F_LAW_way M).bind fun r1 => (F_MO_way r1.2).bind fun r2 => (F_MO_thrown r2.2).bind fun r3 => if r3 = r1.1 then if r1.1 = 0 then if inb ((0 : Int32)) 1 then if (r2.2.2 121 ((0 : Int32)).toNatClampNeg) = r2.1.toInt64 then some r2.2 else none else none else some r2.2 else none
set_option maxRecDepth 100000 in
set_option maxHeartbeats 8000000 in
theorem K_LAWc_474 {p : Program} {l : Launch} {e : Env} {s : State} {m : MethodId} {args : Array Value} {below : List Frame} {meth : Method} {c : Code} {g : GB} {Q : State → Prop} {b L : Nat} {xs : Nat → Int32} (K : KF p l s m args meth c g code 8 "KeptWellLaw") (htr : l.stackTraces = false) (hX : va_X b L xs s s.heap) (hbl : b < s.heap.size) (hbA : ¬ AS g s.heap.size b) (C S : Nat) (hC : C + 8 ≤ 601024) (hS : S + 48 ≤ 7293034) (x4 : Int32) (M : Mem) (PHI : Mem → Prop) (hnext : ∀ M, PHI M → GG p l e room_1 s m args below meth c g 8 Q (C + 8) (S + 48) 2782 [(0, .ref b), (1, .ref (g.2.1 0)), (2, .ref (g.2.1 94)), (3, .ref (g.2.1 121)), (4, .int x4)] [] M) (h : wpO (F_LAWc_474 xs L x4 M) PHI) : GG p l e room_1 s m args below meth c g 8 Q C S 474 [(0, .ref b), (1, .ref (g.2.1 0)), (2, .ref (g.2.1 94)), (3, .ref (g.2.1 121)), (4, .int x4)] [] M := by
  unfold F_LAWc_474 at h
  refine G_aload_n rfl 1 rfl K dL_474 ?_
  refine G_aload_n rfl 3 rfl K dL_475 ?_
  obtain ⟨r1, e1, h⟩ := wpO_bind h
  refine G_callH [.ref (g.2.1 0), .ref (g.2.1 121)] [] K dL_476 wv_762 yd_L_way (by decide) ⟨by show C + 0 + 1 ≤ 601024; omega, by show S + 0 + 6 ≤ 7293034; omega⟩ rfl rfl (Nat.le_of_ble_eq_true rfl) (K_LAW_way l g htr  M _ _ e1) ?_
  refine G_istore K dL_479 (Nat.le_of_ble_eq_true rfl) rfl ?_
  refine G_aload_n rfl 3 rfl K dL_481 ?_
  obtain ⟨r2, e2, h⟩ := wpO_bind h
  refine G_callVi (ci := 12) [] [] K dL_482 wv_1647 yd_X12_way (Nat.le_of_ble_eq_true rfl) (sh_94 _ _) rfl (by decide) ⟨by show C + 1 + 0 ≤ 601024; omega, by show S + 6 + 0 ≤ 7293034; omega⟩ rfl rfl (Nat.le_of_ble_eq_true rfl) (K_MO_way l g htr  r1.2 _ _ e2) ?_
  refine G_istore K dL_485 (Nat.le_of_ble_eq_true rfl) rfl ?_
  refine G_aload_n rfl 4 rfl K dL_487 ?_
  obtain ⟨r3, e3, h⟩ := wpO_bind h
  refine G_callVi (ci := 12) [] [] K dL_488 wv_1465 yd_X12_thrown (Nat.le_of_ble_eq_true rfl) (sh_94 _ _) rfl (by decide) ⟨by show C + 1 + 0 ≤ 601024; omega, by show S + 6 + 0 ≤ 7293034; omega⟩ rfl rfl (Nat.le_of_ble_eq_true rfl) (K_MO_thrown l g htr  r2.2 _ e3) ?_
  refine G_iload 1 rfl K dL_491 ?_
  refine G_icmp_eq (tgt := 498) K dL_493 (by decide) (fun hc => ?_) (fun hc => ?_)
  · have h := wpO_t h hc
    refine G_iload 1 rfl K dL_498 ?_
    refine G_if_ne (tgt := 515) K dL_500 (by decide) (fun hc => ?_) (fun hc => ?_)
    · have h := wpO_f h hc
      refine G_goto (tgt := 2782) K dL_515 (by decide) ?_
      exact G_wide (k := C + 8) (n := S + 48) (by show C + 1 ≤ C + 8; omega) (by show S + 6 ≤ S + 48; omega) (G_lv (lv' := [(0, .ref b), (1, .ref (g.2.1 0)), (2, .ref (g.2.1 94)), (3, .ref (g.2.1 121)), (4, .int x4)]) [2, 3, 4, 5, 6] rfl (hnext r2.2 (wpO_some h)))
    · have h := wpO_t h hc
      refine G_aload_n rfl 5 rfl K dL_503 ?_
      refine G_iconst (v := 0) rfl K dL_504 ?_
      obtain ⟨hin, h⟩ := wpO_g h
      refine G_lald K dL_505 (Nat.le_of_ble_eq_true rfl) (sh_121 _ _) hin ?_
      refine G_iload 0 rfl K dL_506 ?_
      refine G_i2l K dL_508 ?_
      refine G_lcmp_eq (tgt := 515) K dL_509 dL_510 (by decide) (fun hc => ?_) (fun hc => ?_)
      · have h := wpO_t h hc
        refine G_goto (tgt := 2782) K dL_515 (by decide) ?_
        exact G_wide (k := C + 8) (n := S + 48) (by show C + 1 ≤ C + 8; omega) (by show S + 6 ≤ S + 48; omega) (G_lv (lv' := [(0, .ref b), (1, .ref (g.2.1 0)), (2, .ref (g.2.1 94)), (3, .ref (g.2.1 121)), (4, .int x4)]) [2, 3, 4, 5, 6] rfl (hnext r2.2 (wpO_some h)))
      · have h := wpO_f h hc
        refine G_iconst (v := 0) rfl K dL_513 ?_
        exact wpO_none h
  · have h := wpO_f h hc
    refine G_iconst (v := 0) rfl K dL_496 ?_
    exact wpO_none h
def F_LAWc_518 (xs : Nat → Int32) (L : Nat) (x4 : Int32) (M : Mem) : Option Mem :=
  (F_KW_fault M).bind fun r1 => (F_MO_fault M).bind fun r2 => if r1 = r2.1 then some r2.2 else none
set_option maxRecDepth 100000 in
set_option maxHeartbeats 8000000 in
theorem K_LAWc_518 {p : Program} {l : Launch} {e : Env} {s : State} {m : MethodId} {args : Array Value} {below : List Frame} {meth : Method} {c : Code} {g : GB} {Q : State → Prop} {b L : Nat} {xs : Nat → Int32} (K : KF p l s m args meth c g code 8 "KeptWellLaw") (htr : l.stackTraces = false) (hX : va_X b L xs s s.heap) (hbl : b < s.heap.size) (hbA : ¬ AS g s.heap.size b) (C S : Nat) (hC : C + 8 ≤ 601024) (hS : S + 48 ≤ 7293034) (x4 : Int32) (M : Mem) (PHI : Mem → Prop) (hnext : ∀ M, PHI M → GG p l e room_1 s m args below meth c g 8 Q (C + 8) (S + 48) 2782 [(0, .ref b), (1, .ref (g.2.1 0)), (2, .ref (g.2.1 94)), (3, .ref (g.2.1 121)), (4, .int x4)] [] M) (h : wpO (F_LAWc_518 xs L x4 M) PHI) : GG p l e room_1 s m args below meth c g 8 Q C S 518 [(0, .ref b), (1, .ref (g.2.1 0)), (2, .ref (g.2.1 94)), (3, .ref (g.2.1 121)), (4, .int x4)] [] M := by
  unfold F_LAWc_518 at h
  refine G_aload_n rfl 1 rfl K dL_518 ?_
  obtain ⟨r1, e1, h⟩ := wpO_bind h
  refine G_callVi (ci := 11) [] [] K dL_519 wv_459 yd_X11_fault (Nat.le_of_ble_eq_true rfl) (sh_0 _ _) rfl (by decide) ⟨by show C + 0 + 0 ≤ 601024; omega, by show S + 0 + 0 ≤ 7293034; omega⟩ rfl rfl (Nat.le_of_ble_eq_true rfl) (K_KW_fault l g htr  M _ e1) ?_
  refine G_aload_n rfl 2 rfl K dL_522 ?_
  obtain ⟨r2, e2, h⟩ := wpO_bind h
  refine G_callVi (ci := 12) [] [.int r1] K dL_523 wv_1643 yd_X12_fault (Nat.le_of_ble_eq_true rfl) (sh_94 _ _) rfl (by decide) ⟨by show C + 0 + 0 ≤ 601024; omega, by show S + 0 + 0 ≤ 7293034; omega⟩ rfl rfl (Nat.le_of_ble_eq_true rfl) (K_MO_fault l g htr  M _ _ e2) ?_
  refine G_icmp_eq (tgt := 2782) K dL_526 (by decide) (fun hc => ?_) (fun hc => ?_)
  · have h := wpO_t h hc
    exact G_wide (k := C + 8) (n := S + 48) (by show C + 0 ≤ C + 8; omega) (by show S + 0 ≤ S + 48; omega) (hnext r2.2 (wpO_some h))
  · have h := wpO_f h hc
    refine G_iconst (v := 0) rfl K dL_529 ?_
    exact wpO_none h
def F_LAWc_531 (xs : Nat → Int32) (L : Nat) (x4 : Int32) (M : Mem) : Option Mem :=
  if inb (x4 + 1) L then if inb (x4 + 2) L then if inb (x4 + 3) L then (F_LAW_mood (xs (x4 + 1).toNatClampNeg) (xs (x4 + 2).toNatClampNeg) (xs (x4 + 3).toNatClampNeg) M).bind fun r1 => if inb (x4 + 1) L then if inb (x4 + 2) L then if inb (x4 + 3) L then (F_MO_mood (xs (x4 + 1).toNatClampNeg) (xs (x4 + 2).toNatClampNeg) (xs (x4 + 3).toNatClampNeg) r1.2).bind fun r2 => (F_MO_thrown r2.2).bind fun r3 => if r3 = r1.1 then if r1.1 = 0 then if inb ((0 : Int32)) 1 then if (r2.2.2 121 ((0 : Int32)).toNatClampNeg) = r2.1.toInt64 then some r2.2 else none else none else some r2.2 else none else none else none else none else none else none else none
set_option maxRecDepth 100000 in
set_option maxHeartbeats 8000000 in
theorem K_LAWc_531 {p : Program} {l : Launch} {e : Env} {s : State} {m : MethodId} {args : Array Value} {below : List Frame} {meth : Method} {c : Code} {g : GB} {Q : State → Prop} {b L : Nat} {xs : Nat → Int32} (K : KF p l s m args meth c g code 8 "KeptWellLaw") (htr : l.stackTraces = false) (hX : va_X b L xs s s.heap) (hbl : b < s.heap.size) (hbA : ¬ AS g s.heap.size b) (C S : Nat) (hC : C + 8 ≤ 601024) (hS : S + 48 ≤ 7293034) (x4 : Int32) (M : Mem) (PHI : Mem → Prop) (hnext : ∀ M, PHI M → GG p l e room_1 s m args below meth c g 8 Q (C + 8) (S + 48) 2782 [(0, .ref b), (1, .ref (g.2.1 0)), (2, .ref (g.2.1 94)), (3, .ref (g.2.1 121)), (4, .int x4)] [] M) (h : wpO (F_LAWc_531 xs L x4 M) PHI) : GG p l e room_1 s m args below meth c g 8 Q C S 531 [(0, .ref b), (1, .ref (g.2.1 0)), (2, .ref (g.2.1 94)), (3, .ref (g.2.1 121)), (4, .int x4)] [] M := by
  unfold F_LAWc_531 at h
  refine G_aload_n rfl 1 rfl K dL_531 ?_
  refine G_aload_n rfl 0 rfl K dL_532 ?_
  refine G_iload 4 rfl K dL_533 ?_
  refine G_iconst (v := 1) rfl K dL_535 ?_
  refine G_iadd K dL_536 ?_
  obtain ⟨hin, h⟩ := wpO_g h
  refine G_sld K hX hbl hbA dL_537 hin ?_
  refine G_aload_n rfl 0 rfl K dL_538 ?_
  refine G_iload 4 rfl K dL_539 ?_
  refine G_iconst (v := 2) rfl K dL_541 ?_
  refine G_iadd K dL_542 ?_
  obtain ⟨hin, h⟩ := wpO_g h
  refine G_sld K hX hbl hbA dL_543 hin ?_
  refine G_aload_n rfl 0 rfl K dL_544 ?_
  refine G_iload 4 rfl K dL_545 ?_
  refine G_iconst (v := 3) rfl K dL_547 ?_
  refine G_iadd K dL_548 ?_
  obtain ⟨hin, h⟩ := wpO_g h
  refine G_sld K hX hbl hbA dL_549 hin ?_
  refine G_aload_n rfl 3 rfl K dL_550 ?_
  obtain ⟨r1, e1, h⟩ := wpO_bind h
  refine G_callH [.ref (g.2.1 0), .int (xs (x4 + 1).toNatClampNeg), .int (xs (x4 + 2).toNatClampNeg), .int (xs (x4 + 3).toNatClampNeg), .ref (g.2.1 121)] [] K dL_551 wv_890 yd_L_mood (by decide) ⟨by show C + 0 + 3 ≤ 601024; omega, by show S + 0 + 18 ≤ 7293034; omega⟩ rfl rfl (Nat.le_of_ble_eq_true rfl) (K_LAW_mood l g htr (xs (x4 + 1).toNatClampNeg) (xs (x4 + 2).toNatClampNeg) (xs (x4 + 3).toNatClampNeg) M _ _ e1) ?_
  refine G_istore K dL_554 (Nat.le_of_ble_eq_true rfl) rfl ?_
  refine G_aload_n rfl 3 rfl K dL_556 ?_
  refine G_aload_n rfl 1 rfl K dL_557 ?_
  refine G_iload 5 rfl K dL_558 ?_
  refine G_iconst (v := 1) rfl K dL_560 ?_
  refine G_iadd K dL_561 ?_
  obtain ⟨hin, h⟩ := wpO_g h
  refine G_sld K hX hbl hbA dL_562 hin ?_
  refine G_aload_n rfl 1 rfl K dL_563 ?_
  refine G_iload 5 rfl K dL_564 ?_
  refine G_iconst (v := 2) rfl K dL_566 ?_
  refine G_iadd K dL_567 ?_
  obtain ⟨hin, h⟩ := wpO_g h
  refine G_sld K hX hbl hbA dL_568 hin ?_
  refine G_aload_n rfl 1 rfl K dL_569 ?_
  refine G_iload 5 rfl K dL_570 ?_
  refine G_iconst (v := 3) rfl K dL_572 ?_
  refine G_iadd K dL_573 ?_
  obtain ⟨hin, h⟩ := wpO_g h
  refine G_sld K hX hbl hbA dL_574 hin ?_
  obtain ⟨r2, e2, h⟩ := wpO_bind h
  refine G_callVi (ci := 12) [.int (xs (x4 + 1).toNatClampNeg), .int (xs (x4 + 2).toNatClampNeg), .int (xs (x4 + 3).toNatClampNeg)] [] K dL_575 wv_1700 yd_X12_mood (Nat.le_of_ble_eq_true rfl) (sh_94 _ _) rfl (by decide) ⟨by show C + 3 + 0 ≤ 601024; omega, by show S + 18 + 0 ≤ 7293034; omega⟩ rfl rfl (Nat.le_of_ble_eq_true rfl) (K_MO_mood l g htr (xs (x4 + 1).toNatClampNeg) (xs (x4 + 2).toNatClampNeg) (xs (x4 + 3).toNatClampNeg) r1.2 _ _ e2) ?_
  refine G_istore K dL_578 (Nat.le_of_ble_eq_true rfl) rfl ?_
  refine G_aload_n rfl 4 rfl K dL_580 ?_
  obtain ⟨r3, e3, h⟩ := wpO_bind h
  refine G_callVi (ci := 12) [] [] K dL_581 wv_1465 yd_X12_thrown (Nat.le_of_ble_eq_true rfl) (sh_94 _ _) rfl (by decide) ⟨by show C + 3 + 0 ≤ 601024; omega, by show S + 18 + 0 ≤ 7293034; omega⟩ rfl rfl (Nat.le_of_ble_eq_true rfl) (K_MO_thrown l g htr  r2.2 _ e3) ?_
  refine G_iload 1 rfl K dL_584 ?_
  refine G_icmp_eq (tgt := 591) K dL_586 (by decide) (fun hc => ?_) (fun hc => ?_)
  · have h := wpO_t h hc
    refine G_iload 1 rfl K dL_591 ?_
    refine G_if_ne (tgt := 608) K dL_593 (by decide) (fun hc => ?_) (fun hc => ?_)
    · have h := wpO_f h hc
      refine G_goto (tgt := 2782) K dL_608 (by decide) ?_
      exact G_wide (k := C + 8) (n := S + 48) (by show C + 3 ≤ C + 8; omega) (by show S + 18 ≤ S + 48; omega) (G_lv (lv' := [(0, .ref b), (1, .ref (g.2.1 0)), (2, .ref (g.2.1 94)), (3, .ref (g.2.1 121)), (4, .int x4)]) [2, 3, 4, 5, 6] rfl (hnext r2.2 (wpO_some h)))
    · have h := wpO_t h hc
      refine G_aload_n rfl 5 rfl K dL_596 ?_
      refine G_iconst (v := 0) rfl K dL_597 ?_
      obtain ⟨hin, h⟩ := wpO_g h
      refine G_lald K dL_598 (Nat.le_of_ble_eq_true rfl) (sh_121 _ _) hin ?_
      refine G_iload 0 rfl K dL_599 ?_
      refine G_i2l K dL_601 ?_
      refine G_lcmp_eq (tgt := 608) K dL_602 dL_603 (by decide) (fun hc => ?_) (fun hc => ?_)
      · have h := wpO_t h hc
        refine G_goto (tgt := 2782) K dL_608 (by decide) ?_
        exact G_wide (k := C + 8) (n := S + 48) (by show C + 3 ≤ C + 8; omega) (by show S + 18 ≤ S + 48; omega) (G_lv (lv' := [(0, .ref b), (1, .ref (g.2.1 0)), (2, .ref (g.2.1 94)), (3, .ref (g.2.1 121)), (4, .int x4)]) [2, 3, 4, 5, 6] rfl (hnext r2.2 (wpO_some h)))
      · have h := wpO_f h hc
        refine G_iconst (v := 0) rfl K dL_606 ?_
        exact wpO_none h
  · have h := wpO_f h hc
    refine G_iconst (v := 0) rfl K dL_589 ?_
    exact wpO_none h
def F_LAWc_611_j709 (xs : Nat → Int32) (L : Nat) (x4 : Int32) (x5 : Int32) (s1 : Int32) (s2 : Int32) (s3 : Int32) (s4 : Int32) (s5 : Int32) (s6 : Bool) (M : Mem) : Option (Mem) :=
  (F_MO_worth s1 s2 s3 s4 s5 ((b2i s6)) M).bind fun r2 => (F_MO_thrown r2.2).bind fun r3 => if r3 = x5 then if x5 = 0 then if inb ((0 : Int32)) 1 then if (r2.2.2 121 ((0 : Int32)).toNatClampNeg) = r2.1 then some r2.2 else none else none else some r2.2 else none
def F_LAWc_611_j657 (xs : Nat → Int32) (L : Nat) (x4 : Int32) (s1 : Int32) (s2 : Int32) (s3 : Int32) (s4 : Int32) (s5 : Int32) (s6 : Bool) (M : Mem) : Option (Mem) :=
  (F_LAW_worth s1 s2 s3 s4 s5 ((b2i s6)) M).bind fun r1 => if inb (x4 + 1) L then if inb (x4 + 2) L then if inb (x4 + 3) L then if inb (x4 + 4) L then if inb (x4 + 5) L then if inb (x4 + 6) L then if (xs (x4 + 6).toNatClampNeg) = 0 then F_LAWc_611_j709 xs L x4 r1.1 (xs (x4 + 1).toNatClampNeg) (xs (x4 + 2).toNatClampNeg) (xs (x4 + 3).toNatClampNeg) (xs (x4 + 4).toNatClampNeg) (xs (x4 + 5).toNatClampNeg) false r1.2 else F_LAWc_611_j709 xs L x4 r1.1 (xs (x4 + 1).toNatClampNeg) (xs (x4 + 2).toNatClampNeg) (xs (x4 + 3).toNatClampNeg) (xs (x4 + 4).toNatClampNeg) (xs (x4 + 5).toNatClampNeg) true r1.2 else none else none else none else none else none else none
def F_LAWc_611 (xs : Nat → Int32) (L : Nat) (x4 : Int32) (M : Mem) : Option Mem :=
  if inb (x4 + 1) L then if inb (x4 + 2) L then if inb (x4 + 3) L then if inb (x4 + 4) L then if inb (x4 + 5) L then if inb (x4 + 6) L then if (xs (x4 + 6).toNatClampNeg) = 0 then F_LAWc_611_j657 xs L x4 (xs (x4 + 1).toNatClampNeg) (xs (x4 + 2).toNatClampNeg) (xs (x4 + 3).toNatClampNeg) (xs (x4 + 4).toNatClampNeg) (xs (x4 + 5).toNatClampNeg) false M else F_LAWc_611_j657 xs L x4 (xs (x4 + 1).toNatClampNeg) (xs (x4 + 2).toNatClampNeg) (xs (x4 + 3).toNatClampNeg) (xs (x4 + 4).toNatClampNeg) (xs (x4 + 5).toNatClampNeg) true M else none else none else none else none else none else none
set_option maxRecDepth 100000 in
set_option maxHeartbeats 8000000 in
theorem K_LAWc_611 {p : Program} {l : Launch} {e : Env} {s : State} {m : MethodId} {args : Array Value} {below : List Frame} {meth : Method} {c : Code} {g : GB} {Q : State → Prop} {b L : Nat} {xs : Nat → Int32} (K : KF p l s m args meth c g code 8 "KeptWellLaw") (htr : l.stackTraces = false) (hX : va_X b L xs s s.heap) (hbl : b < s.heap.size) (hbA : ¬ AS g s.heap.size b) (C S : Nat) (hC : C + 8 ≤ 601024) (hS : S + 48 ≤ 7293034) (x4 : Int32) (M : Mem) (PHI : Mem → Prop) (hnext : ∀ M, PHI M → GG p l e room_1 s m args below meth c g 8 Q (C + 8) (S + 48) 2782 [(0, .ref b), (1, .ref (g.2.1 0)), (2, .ref (g.2.1 94)), (3, .ref (g.2.1 121)), (4, .int x4)] [] M) (h : wpO (F_LAWc_611 xs L x4 M) PHI) : GG p l e room_1 s m args below meth c g 8 Q C S 611 [(0, .ref b), (1, .ref (g.2.1 0)), (2, .ref (g.2.1 94)), (3, .ref (g.2.1 121)), (4, .int x4)] [] M := by
  have J709 : ∀ (x5 : Int32) (s1 : Int32) (s2 : Int32) (s3 : Int32) (s4 : Int32) (s5 : Int32) (s6 : Bool) (M : Mem), wpO (F_LAWc_611_j709 xs L x4 x5 s1 s2 s3 s4 s5 s6 M) PHI → GG p l e room_1 s m args below meth c g 8 Q (C + 7) (S + 42) 709 [(0, .ref b), (1, .ref (g.2.1 0)), (2, .ref (g.2.1 94)), (3, .ref (g.2.1 121)), (4, .int x4), (5, .int x5)] [.int ((b2i s6)), .int s5, .int s4, .int s3, .int s2, .int s1, .ref (g.2.1 94)] M := by
    intro x5 s1 s2 s3 s4 s5 s6 M h
    unfold F_LAWc_611_j709 at h
    obtain ⟨r2, e2, h⟩ := wpO_bind h
    refine G_callVl (ci := 12) [.int s1, .int s2, .int s3, .int s4, .int s5, .int ((b2i s6))] [] K dL_709 wv_1728 yd_X12_worth (Nat.le_of_ble_eq_true rfl) (sh_94 _ _) rfl (by decide) ⟨by show C + 7 + 0 ≤ 601024; omega, by show S + 42 + 0 ≤ 7293034; omega⟩ rfl rfl (Nat.le_of_ble_eq_true rfl) (K_MO_worth l g htr s1 s2 s3 s4 s5 ((b2i s6)) M _ _ e2) ?_
    refine G_lstore K dL_712 (Nat.le_of_ble_eq_true rfl) rfl ?_
    refine G_aload_n rfl 3 rfl K dL_714 ?_
    obtain ⟨r3, e3, h⟩ := wpO_bind h
    refine G_callVi (ci := 12) [] [] K dL_715 wv_1465 yd_X12_thrown (Nat.le_of_ble_eq_true rfl) (sh_94 _ _) rfl (by decide) ⟨by show C + 7 + 0 ≤ 601024; omega, by show S + 42 + 0 ≤ 7293034; omega⟩ rfl rfl (Nat.le_of_ble_eq_true rfl) (K_MO_thrown l g htr  r2.2 _ e3) ?_
    refine G_iload 6 rfl K dL_718 ?_
    refine G_icmp_eq (tgt := 725) K dL_720 (by decide) (fun hc => ?_) (fun hc => ?_)
    · have h := wpO_t h hc
      refine G_iload 6 rfl K dL_725 ?_
      refine G_if_ne (tgt := 741) K dL_727 (by decide) (fun hc => ?_) (fun hc => ?_)
      · have h := wpO_f h hc
        refine G_goto (tgt := 2782) K dL_741 (by decide) ?_
        exact G_wide (k := C + 8) (n := S + 48) (by show C + 7 ≤ C + 8; omega) (by show S + 42 ≤ S + 48; omega) (G_lv (lv' := [(0, .ref b), (1, .ref (g.2.1 0)), (2, .ref (g.2.1 94)), (3, .ref (g.2.1 121)), (4, .int x4)]) [1, 2, 3, 4, 5] rfl (hnext r2.2 (wpO_some h)))
      · have h := wpO_t h hc
        refine G_aload_n rfl 4 rfl K dL_730 ?_
        refine G_iconst (v := 0) rfl K dL_731 ?_
        obtain ⟨hin, h⟩ := wpO_g h
        refine G_lald K dL_732 (Nat.le_of_ble_eq_true rfl) (sh_121 _ _) hin ?_
        refine G_lload 0 rfl K dL_733 ?_
        refine G_lcmp_eq (tgt := 741) K dL_735 dL_736 (by decide) (fun hc => ?_) (fun hc => ?_)
        · have h := wpO_t h hc
          refine G_goto (tgt := 2782) K dL_741 (by decide) ?_
          exact G_wide (k := C + 8) (n := S + 48) (by show C + 7 ≤ C + 8; omega) (by show S + 42 ≤ S + 48; omega) (G_lv (lv' := [(0, .ref b), (1, .ref (g.2.1 0)), (2, .ref (g.2.1 94)), (3, .ref (g.2.1 121)), (4, .int x4)]) [1, 2, 3, 4, 5] rfl (hnext r2.2 (wpO_some h)))
        · have h := wpO_f h hc
          refine G_iconst (v := 0) rfl K dL_739 ?_
          exact wpO_none h
    · have h := wpO_f h hc
      refine G_iconst (v := 0) rfl K dL_723 ?_
      exact wpO_none h
  have J657 : ∀ (s1 : Int32) (s2 : Int32) (s3 : Int32) (s4 : Int32) (s5 : Int32) (s6 : Bool) (M : Mem), wpO (F_LAWc_611_j657 xs L x4 s1 s2 s3 s4 s5 s6 M) PHI → GG p l e room_1 s m args below meth c g 8 Q (C + 0) (S + 0) 657 [(0, .ref b), (1, .ref (g.2.1 0)), (2, .ref (g.2.1 94)), (3, .ref (g.2.1 121)), (4, .int x4)] [.int ((b2i s6)), .int s5, .int s4, .int s3, .int s2, .int s1, .ref (g.2.1 0)] M := by
    intro s1 s2 s3 s4 s5 s6 M h
    unfold F_LAWc_611_j657 at h
    refine G_aload_n rfl 3 rfl K dL_657 ?_
    obtain ⟨r1, e1, h⟩ := wpO_bind h
    refine G_callH [.ref (g.2.1 0), .int s1, .int s2, .int s3, .int s4, .int s5, .int ((b2i s6)), .ref (g.2.1 121)] [] K dL_658 wv_929 yd_L_worth (by decide) ⟨by show C + 0 + 7 ≤ 601024; omega, by show S + 0 + 42 ≤ 7293034; omega⟩ rfl rfl (Nat.le_of_ble_eq_true rfl) (K_LAW_worth l g htr s1 s2 s3 s4 s5 ((b2i s6)) M _ _ e1) ?_
    refine G_istore K dL_661 (Nat.le_of_ble_eq_true rfl) rfl ?_
    refine G_aload_n rfl 3 rfl K dL_663 ?_
    refine G_aload_n rfl 1 rfl K dL_664 ?_
    refine G_iload 5 rfl K dL_665 ?_
    refine G_iconst (v := 1) rfl K dL_667 ?_
    refine G_iadd K dL_668 ?_
    obtain ⟨hin, h⟩ := wpO_g h
    refine G_sld K hX hbl hbA dL_669 hin ?_
    refine G_aload_n rfl 1 rfl K dL_670 ?_
    refine G_iload 5 rfl K dL_671 ?_
    refine G_iconst (v := 2) rfl K dL_673 ?_
    refine G_iadd K dL_674 ?_
    obtain ⟨hin, h⟩ := wpO_g h
    refine G_sld K hX hbl hbA dL_675 hin ?_
    refine G_aload_n rfl 1 rfl K dL_676 ?_
    refine G_iload 5 rfl K dL_677 ?_
    refine G_iconst (v := 3) rfl K dL_679 ?_
    refine G_iadd K dL_680 ?_
    obtain ⟨hin, h⟩ := wpO_g h
    refine G_sld K hX hbl hbA dL_681 hin ?_
    refine G_aload_n rfl 1 rfl K dL_682 ?_
    refine G_iload 5 rfl K dL_683 ?_
    refine G_iconst (v := 4) rfl K dL_685 ?_
    refine G_iadd K dL_686 ?_
    obtain ⟨hin, h⟩ := wpO_g h
    refine G_sld K hX hbl hbA dL_687 hin ?_
    refine G_aload_n rfl 1 rfl K dL_688 ?_
    refine G_iload 5 rfl K dL_689 ?_
    refine G_iconst (v := 5) rfl K dL_691 ?_
    refine G_iadd K dL_692 ?_
    obtain ⟨hin, h⟩ := wpO_g h
    refine G_sld K hX hbl hbA dL_693 hin ?_
    refine G_aload_n rfl 1 rfl K dL_694 ?_
    refine G_iload 5 rfl K dL_695 ?_
    refine G_bipush (v := 6) rfl K dL_697 ?_
    refine G_iadd K dL_699 ?_
    obtain ⟨hin, h⟩ := wpO_g h
    refine G_sld K hX hbl hbA dL_700 hin ?_
    refine G_if_eq (tgt := 708) K dL_701 (by decide) (fun hc => ?_) (fun hc => ?_)
    · have h := wpO_t h hc
      refine G_iconst (v := 0) rfl K dL_708 ?_
      exact G_lv (lv' := [(0, .ref b), (1, .ref (g.2.1 0)), (2, .ref (g.2.1 94)), (3, .ref (g.2.1 121)), (4, .int x4), (5, .int r1.1)]) [1, 2, 3, 4, 5, 0] rfl (J709 r1.1 (xs (x4 + 1).toNatClampNeg) (xs (x4 + 2).toNatClampNeg) (xs (x4 + 3).toNatClampNeg) (xs (x4 + 4).toNatClampNeg) (xs (x4 + 5).toNatClampNeg) false r1.2 h)
    · have h := wpO_f h hc
      refine G_iconst (v := 1) rfl K dL_704 ?_
      refine G_goto (tgt := 709) K dL_705 (by decide) ?_
      exact G_lv (lv' := [(0, .ref b), (1, .ref (g.2.1 0)), (2, .ref (g.2.1 94)), (3, .ref (g.2.1 121)), (4, .int x4), (5, .int r1.1)]) [1, 2, 3, 4, 5, 0] rfl (J709 r1.1 (xs (x4 + 1).toNatClampNeg) (xs (x4 + 2).toNatClampNeg) (xs (x4 + 3).toNatClampNeg) (xs (x4 + 4).toNatClampNeg) (xs (x4 + 5).toNatClampNeg) true r1.2 h)
  unfold F_LAWc_611 at h
  refine G_aload_n rfl 1 rfl K dL_611 ?_
  refine G_aload_n rfl 0 rfl K dL_612 ?_
  refine G_iload 4 rfl K dL_613 ?_
  refine G_iconst (v := 1) rfl K dL_615 ?_
  refine G_iadd K dL_616 ?_
  obtain ⟨hin, h⟩ := wpO_g h
  refine G_sld K hX hbl hbA dL_617 hin ?_
  refine G_aload_n rfl 0 rfl K dL_618 ?_
  refine G_iload 4 rfl K dL_619 ?_
  refine G_iconst (v := 2) rfl K dL_621 ?_
  refine G_iadd K dL_622 ?_
  obtain ⟨hin, h⟩ := wpO_g h
  refine G_sld K hX hbl hbA dL_623 hin ?_
  refine G_aload_n rfl 0 rfl K dL_624 ?_
  refine G_iload 4 rfl K dL_625 ?_
  refine G_iconst (v := 3) rfl K dL_627 ?_
  refine G_iadd K dL_628 ?_
  obtain ⟨hin, h⟩ := wpO_g h
  refine G_sld K hX hbl hbA dL_629 hin ?_
  refine G_aload_n rfl 0 rfl K dL_630 ?_
  refine G_iload 4 rfl K dL_631 ?_
  refine G_iconst (v := 4) rfl K dL_633 ?_
  refine G_iadd K dL_634 ?_
  obtain ⟨hin, h⟩ := wpO_g h
  refine G_sld K hX hbl hbA dL_635 hin ?_
  refine G_aload_n rfl 0 rfl K dL_636 ?_
  refine G_iload 4 rfl K dL_637 ?_
  refine G_iconst (v := 5) rfl K dL_639 ?_
  refine G_iadd K dL_640 ?_
  obtain ⟨hin, h⟩ := wpO_g h
  refine G_sld K hX hbl hbA dL_641 hin ?_
  refine G_aload_n rfl 0 rfl K dL_642 ?_
  refine G_iload 4 rfl K dL_643 ?_
  refine G_bipush (v := 6) rfl K dL_645 ?_
  refine G_iadd K dL_647 ?_
  obtain ⟨hin, h⟩ := wpO_g h
  refine G_sld K hX hbl hbA dL_648 hin ?_
  refine G_if_eq (tgt := 656) K dL_649 (by decide) (fun hc => ?_) (fun hc => ?_)
  · have h := wpO_t h hc
    refine G_iconst (v := 0) rfl K dL_656 ?_
    exact J657 (xs (x4 + 1).toNatClampNeg) (xs (x4 + 2).toNatClampNeg) (xs (x4 + 3).toNatClampNeg) (xs (x4 + 4).toNatClampNeg) (xs (x4 + 5).toNatClampNeg) false M h
  · have h := wpO_f h hc
    refine G_iconst (v := 1) rfl K dL_652 ?_
    refine G_goto (tgt := 657) K dL_653 (by decide) ?_
    exact J657 (xs (x4 + 1).toNatClampNeg) (xs (x4 + 2).toNatClampNeg) (xs (x4 + 3).toNatClampNeg) (xs (x4 + 4).toNatClampNeg) (xs (x4 + 5).toNatClampNeg) true M h
def F_LAWc_744_j810 (xs : Nat → Int32) (L : Nat) (x4 : Int32) (s0 : Int64) (s1 : Int64) (M : Mem) : Option (Mem) :=
  if s0 = s1 then some M else none
def F_LAWc_744 (xs : Nat → Int32) (L : Nat) (x4 : Int32) (M : Mem) : Option Mem :=
  if inb (x4 + 1) L then if inb (x4 + 2) L then (F_LAW_hold (xs (x4 + 1).toNatClampNeg) (xs (x4 + 2).toNatClampNeg) M).bind fun r1 => if inb (x4 + 1) L then if inb (x4 + 2) L then (F_MO_hold (xs (x4 + 1).toNatClampNeg) (xs (x4 + 2).toNatClampNeg) r1.2).bind fun r2 => (F_MO_thrown r2.2).bind fun r3 => if r3 = r1.1 then if r1.1 = 0 then if inb ((0 : Int32)) 1 then if r2.1 = true then F_LAWc_744_j810 xs L x4 (r2.2.2 121 ((0 : Int32)).toNatClampNeg) 1 r2.2 else F_LAWc_744_j810 xs L x4 (r2.2.2 121 ((0 : Int32)).toNatClampNeg) 0 r2.2 else none else some r2.2 else none else none else none else none else none
set_option maxRecDepth 100000 in
set_option maxHeartbeats 8000000 in
theorem K_LAWc_744 {p : Program} {l : Launch} {e : Env} {s : State} {m : MethodId} {args : Array Value} {below : List Frame} {meth : Method} {c : Code} {g : GB} {Q : State → Prop} {b L : Nat} {xs : Nat → Int32} (K : KF p l s m args meth c g code 8 "KeptWellLaw") (htr : l.stackTraces = false) (hX : va_X b L xs s s.heap) (hbl : b < s.heap.size) (hbA : ¬ AS g s.heap.size b) (C S : Nat) (hC : C + 8 ≤ 601024) (hS : S + 48 ≤ 7293034) (x4 : Int32) (M : Mem) (PHI : Mem → Prop) (hnext : ∀ M, PHI M → GG p l e room_1 s m args below meth c g 8 Q (C + 8) (S + 48) 2782 [(0, .ref b), (1, .ref (g.2.1 0)), (2, .ref (g.2.1 94)), (3, .ref (g.2.1 121)), (4, .int x4)] [] M) (h : wpO (F_LAWc_744 xs L x4 M) PHI) : GG p l e room_1 s m args below meth c g 8 Q C S 744 [(0, .ref b), (1, .ref (g.2.1 0)), (2, .ref (g.2.1 94)), (3, .ref (g.2.1 121)), (4, .int x4)] [] M := by
  have J810 : ∀ (s0 : Int64) (s1 : Int64) (M : Mem), wpO (F_LAWc_744_j810 xs L x4 s0 s1 M) PHI → GG p l e room_1 s m args below meth c g 8 Q (C + 4) (S + 24) 810 [(0, .ref b), (1, .ref (g.2.1 0)), (2, .ref (g.2.1 94)), (3, .ref (g.2.1 121)), (4, .int x4)] [.long s1, .long s0] M := by
    intro s0 s1 M h
    unfold F_LAWc_744_j810 at h
    refine G_lcmp_eq (tgt := 816) K dL_810 dL_811 (by decide) (fun hc => ?_) (fun hc => ?_)
    · have h := wpO_t h hc
      refine G_goto (tgt := 2782) K dL_816 (by decide) ?_
      exact G_wide (k := C + 8) (n := S + 48) (by show C + 4 ≤ C + 8; omega) (by show S + 24 ≤ S + 48; omega) (hnext M (wpO_some h))
    · have h := wpO_f h hc
      refine G_iconst (v := 0) rfl K dL_814 ?_
      exact wpO_none h
  unfold F_LAWc_744 at h
  refine G_aload_n rfl 1 rfl K dL_744 ?_
  refine G_aload_n rfl 0 rfl K dL_745 ?_
  refine G_iload 4 rfl K dL_746 ?_
  refine G_iconst (v := 1) rfl K dL_748 ?_
  refine G_iadd K dL_749 ?_
  obtain ⟨hin, h⟩ := wpO_g h
  refine G_sld K hX hbl hbA dL_750 hin ?_
  refine G_aload_n rfl 0 rfl K dL_751 ?_
  refine G_iload 4 rfl K dL_752 ?_
  refine G_iconst (v := 2) rfl K dL_754 ?_
  refine G_iadd K dL_755 ?_
  obtain ⟨hin, h⟩ := wpO_g h
  refine G_sld K hX hbl hbA dL_756 hin ?_
  refine G_aload_n rfl 3 rfl K dL_757 ?_
  obtain ⟨r1, e1, h⟩ := wpO_bind h
  refine G_callH [.ref (g.2.1 0), .int (xs (x4 + 1).toNatClampNeg), .int (xs (x4 + 2).toNatClampNeg), .ref (g.2.1 121)] [] K dL_758 wv_983 yd_L_hold (by decide) ⟨by show C + 0 + 4 ≤ 601024; omega, by show S + 0 + 24 ≤ 7293034; omega⟩ rfl rfl (Nat.le_of_ble_eq_true rfl) (K_LAW_hold l g htr (xs (x4 + 1).toNatClampNeg) (xs (x4 + 2).toNatClampNeg) M _ _ e1) ?_
  refine G_istore K dL_761 (Nat.le_of_ble_eq_true rfl) rfl ?_
  refine G_aload_n rfl 3 rfl K dL_763 ?_
  refine G_aload_n rfl 1 rfl K dL_764 ?_
  refine G_iload 5 rfl K dL_765 ?_
  refine G_iconst (v := 1) rfl K dL_767 ?_
  refine G_iadd K dL_768 ?_
  obtain ⟨hin, h⟩ := wpO_g h
  refine G_sld K hX hbl hbA dL_769 hin ?_
  refine G_aload_n rfl 1 rfl K dL_770 ?_
  refine G_iload 5 rfl K dL_771 ?_
  refine G_iconst (v := 2) rfl K dL_773 ?_
  refine G_iadd K dL_774 ?_
  obtain ⟨hin, h⟩ := wpO_g h
  refine G_sld K hX hbl hbA dL_775 hin ?_
  obtain ⟨r2, e2, h⟩ := wpO_bind h
  refine G_callVi (ci := 12) [.int (xs (x4 + 1).toNatClampNeg), .int (xs (x4 + 2).toNatClampNeg)] [] K dL_776 wv_1776 yd_X12_hold (Nat.le_of_ble_eq_true rfl) (sh_94 _ _) rfl (by decide) ⟨by show C + 4 + 0 ≤ 601024; omega, by show S + 24 + 0 ≤ 7293034; omega⟩ rfl rfl (Nat.le_of_ble_eq_true rfl) (K_MO_hold l g htr (xs (x4 + 1).toNatClampNeg) (xs (x4 + 2).toNatClampNeg) r1.2 _ _ e2) ?_
  refine G_istore K dL_779 (Nat.le_of_ble_eq_true rfl) rfl ?_
  refine G_aload_n rfl 4 rfl K dL_781 ?_
  obtain ⟨r3, e3, h⟩ := wpO_bind h
  refine G_callVi (ci := 12) [] [] K dL_782 wv_1465 yd_X12_thrown (Nat.le_of_ble_eq_true rfl) (sh_94 _ _) rfl (by decide) ⟨by show C + 4 + 0 ≤ 601024; omega, by show S + 24 + 0 ≤ 7293034; omega⟩ rfl rfl (Nat.le_of_ble_eq_true rfl) (K_MO_thrown l g htr  r2.2 _ e3) ?_
  refine G_iload 1 rfl K dL_785 ?_
  refine G_icmp_eq (tgt := 792) K dL_787 (by decide) (fun hc => ?_) (fun hc => ?_)
  · have h := wpO_t h hc
    refine G_iload 1 rfl K dL_792 ?_
    refine G_if_ne (tgt := 816) K dL_794 (by decide) (fun hc => ?_) (fun hc => ?_)
    · have h := wpO_f h hc
      refine G_goto (tgt := 2782) K dL_816 (by decide) ?_
      exact G_wide (k := C + 8) (n := S + 48) (by show C + 4 ≤ C + 8; omega) (by show S + 24 ≤ S + 48; omega) (G_lv (lv' := [(0, .ref b), (1, .ref (g.2.1 0)), (2, .ref (g.2.1 94)), (3, .ref (g.2.1 121)), (4, .int x4)]) [2, 3, 4, 5, 6] rfl (hnext r2.2 (wpO_some h)))
    · have h := wpO_t h hc
      refine G_aload_n rfl 5 rfl K dL_797 ?_
      refine G_iconst (v := 0) rfl K dL_798 ?_
      obtain ⟨hin, h⟩ := wpO_g h
      refine G_lald K dL_799 (Nat.le_of_ble_eq_true rfl) (sh_121 _ _) hin ?_
      refine G_iload 0 rfl K dL_800 ?_
      refine G_ifb_eq (tgt := 809) K dL_802 (by decide) (fun hc => ?_) (fun hc => ?_)
      · have h := wpO_bf h hc
        refine G_lconst (v := 0) rfl K dL_809 ?_
        exact G_lv (lv' := [(0, .ref b), (1, .ref (g.2.1 0)), (2, .ref (g.2.1 94)), (3, .ref (g.2.1 121)), (4, .int x4)]) [2, 3, 4, 5, 6] rfl (J810 (r2.2.2 121 ((0 : Int32)).toNatClampNeg) 0 r2.2 h)
      · have h := wpO_t h hc
        refine G_lconst (v := 1) rfl K dL_805 ?_
        refine G_goto (tgt := 810) K dL_806 (by decide) ?_
        exact G_lv (lv' := [(0, .ref b), (1, .ref (g.2.1 0)), (2, .ref (g.2.1 94)), (3, .ref (g.2.1 121)), (4, .int x4)]) [2, 3, 4, 5, 6] rfl (J810 (r2.2.2 121 ((0 : Int32)).toNatClampNeg) 1 r2.2 h)
  · have h := wpO_f h hc
    refine G_iconst (v := 0) rfl K dL_790 ?_
    exact wpO_none h
def F_LAWc_819 (xs : Nat → Int32) (L : Nat) (x4 : Int32) (M : Mem) : Option Mem :=
  if inb (x4 + 1) L then if inb (x4 + 2) L then (F_LAW_first (xs (x4 + 1).toNatClampNeg) (xs (x4 + 2).toNatClampNeg) M).bind fun r1 => if inb (x4 + 1) L then if inb (x4 + 2) L then (F_MO_first (xs (x4 + 1).toNatClampNeg) (xs (x4 + 2).toNatClampNeg) r1.2).bind fun r2 => (F_MO_thrown r2.2).bind fun r3 => if r3 = r1.1 then if r1.1 = 0 then if inb ((0 : Int32)) 1 then if (r2.2.2 121 ((0 : Int32)).toNatClampNeg) = r2.1.toInt64 then some r2.2 else none else none else some r2.2 else none else none else none else none else none
set_option maxRecDepth 100000 in
set_option maxHeartbeats 8000000 in
theorem K_LAWc_819 {p : Program} {l : Launch} {e : Env} {s : State} {m : MethodId} {args : Array Value} {below : List Frame} {meth : Method} {c : Code} {g : GB} {Q : State → Prop} {b L : Nat} {xs : Nat → Int32} (K : KF p l s m args meth c g code 8 "KeptWellLaw") (htr : l.stackTraces = false) (hX : va_X b L xs s s.heap) (hbl : b < s.heap.size) (hbA : ¬ AS g s.heap.size b) (C S : Nat) (hC : C + 8 ≤ 601024) (hS : S + 48 ≤ 7293034) (x4 : Int32) (M : Mem) (PHI : Mem → Prop) (hnext : ∀ M, PHI M → GG p l e room_1 s m args below meth c g 8 Q (C + 8) (S + 48) 2782 [(0, .ref b), (1, .ref (g.2.1 0)), (2, .ref (g.2.1 94)), (3, .ref (g.2.1 121)), (4, .int x4)] [] M) (h : wpO (F_LAWc_819 xs L x4 M) PHI) : GG p l e room_1 s m args below meth c g 8 Q C S 819 [(0, .ref b), (1, .ref (g.2.1 0)), (2, .ref (g.2.1 94)), (3, .ref (g.2.1 121)), (4, .int x4)] [] M := by
  unfold F_LAWc_819 at h
  refine G_aload_n rfl 1 rfl K dL_819 ?_
  refine G_aload_n rfl 0 rfl K dL_820 ?_
  refine G_iload 4 rfl K dL_821 ?_
  refine G_iconst (v := 1) rfl K dL_823 ?_
  refine G_iadd K dL_824 ?_
  obtain ⟨hin, h⟩ := wpO_g h
  refine G_sld K hX hbl hbA dL_825 hin ?_
  refine G_aload_n rfl 0 rfl K dL_826 ?_
  refine G_iload 4 rfl K dL_827 ?_
  refine G_iconst (v := 2) rfl K dL_829 ?_
  refine G_iadd K dL_830 ?_
  obtain ⟨hin, h⟩ := wpO_g h
  refine G_sld K hX hbl hbA dL_831 hin ?_
  refine G_aload_n rfl 3 rfl K dL_832 ?_
  obtain ⟨r1, e1, h⟩ := wpO_bind h
  refine G_callH [.ref (g.2.1 0), .int (xs (x4 + 1).toNatClampNeg), .int (xs (x4 + 2).toNatClampNeg), .ref (g.2.1 121)] [] K dL_833 wv_995 yd_L_first (by decide) ⟨by show C + 0 + 4 ≤ 601024; omega, by show S + 0 + 24 ≤ 7293034; omega⟩ rfl rfl (Nat.le_of_ble_eq_true rfl) (K_LAW_first l g htr (xs (x4 + 1).toNatClampNeg) (xs (x4 + 2).toNatClampNeg) M _ _ e1) ?_
  refine G_istore K dL_836 (Nat.le_of_ble_eq_true rfl) rfl ?_
  refine G_aload_n rfl 3 rfl K dL_838 ?_
  refine G_aload_n rfl 1 rfl K dL_839 ?_
  refine G_iload 5 rfl K dL_840 ?_
  refine G_iconst (v := 1) rfl K dL_842 ?_
  refine G_iadd K dL_843 ?_
  obtain ⟨hin, h⟩ := wpO_g h
  refine G_sld K hX hbl hbA dL_844 hin ?_
  refine G_aload_n rfl 1 rfl K dL_845 ?_
  refine G_iload 5 rfl K dL_846 ?_
  refine G_iconst (v := 2) rfl K dL_848 ?_
  refine G_iadd K dL_849 ?_
  obtain ⟨hin, h⟩ := wpO_g h
  refine G_sld K hX hbl hbA dL_850 hin ?_
  obtain ⟨r2, e2, h⟩ := wpO_bind h
  refine G_callVi (ci := 12) [.int (xs (x4 + 1).toNatClampNeg), .int (xs (x4 + 2).toNatClampNeg)] [] K dL_851 wv_1792 yd_X12_first (Nat.le_of_ble_eq_true rfl) (sh_94 _ _) rfl (by decide) ⟨by show C + 4 + 0 ≤ 601024; omega, by show S + 24 + 0 ≤ 7293034; omega⟩ rfl rfl (Nat.le_of_ble_eq_true rfl) (K_MO_first l g htr (xs (x4 + 1).toNatClampNeg) (xs (x4 + 2).toNatClampNeg) r1.2 _ _ e2) ?_
  refine G_istore K dL_854 (Nat.le_of_ble_eq_true rfl) rfl ?_
  refine G_aload_n rfl 4 rfl K dL_856 ?_
  obtain ⟨r3, e3, h⟩ := wpO_bind h
  refine G_callVi (ci := 12) [] [] K dL_857 wv_1465 yd_X12_thrown (Nat.le_of_ble_eq_true rfl) (sh_94 _ _) rfl (by decide) ⟨by show C + 4 + 0 ≤ 601024; omega, by show S + 24 + 0 ≤ 7293034; omega⟩ rfl rfl (Nat.le_of_ble_eq_true rfl) (K_MO_thrown l g htr  r2.2 _ e3) ?_
  refine G_iload 1 rfl K dL_860 ?_
  refine G_icmp_eq (tgt := 867) K dL_862 (by decide) (fun hc => ?_) (fun hc => ?_)
  · have h := wpO_t h hc
    refine G_iload 1 rfl K dL_867 ?_
    refine G_if_ne (tgt := 884) K dL_869 (by decide) (fun hc => ?_) (fun hc => ?_)
    · have h := wpO_f h hc
      refine G_goto (tgt := 2782) K dL_884 (by decide) ?_
      exact G_wide (k := C + 8) (n := S + 48) (by show C + 4 ≤ C + 8; omega) (by show S + 24 ≤ S + 48; omega) (G_lv (lv' := [(0, .ref b), (1, .ref (g.2.1 0)), (2, .ref (g.2.1 94)), (3, .ref (g.2.1 121)), (4, .int x4)]) [2, 3, 4, 5, 6] rfl (hnext r2.2 (wpO_some h)))
    · have h := wpO_t h hc
      refine G_aload_n rfl 5 rfl K dL_872 ?_
      refine G_iconst (v := 0) rfl K dL_873 ?_
      obtain ⟨hin, h⟩ := wpO_g h
      refine G_lald K dL_874 (Nat.le_of_ble_eq_true rfl) (sh_121 _ _) hin ?_
      refine G_iload 0 rfl K dL_875 ?_
      refine G_i2l K dL_877 ?_
      refine G_lcmp_eq (tgt := 884) K dL_878 dL_879 (by decide) (fun hc => ?_) (fun hc => ?_)
      · have h := wpO_t h hc
        refine G_goto (tgt := 2782) K dL_884 (by decide) ?_
        exact G_wide (k := C + 8) (n := S + 48) (by show C + 4 ≤ C + 8; omega) (by show S + 24 ≤ S + 48; omega) (G_lv (lv' := [(0, .ref b), (1, .ref (g.2.1 0)), (2, .ref (g.2.1 94)), (3, .ref (g.2.1 121)), (4, .int x4)]) [2, 3, 4, 5, 6] rfl (hnext r2.2 (wpO_some h)))
      · have h := wpO_f h hc
        refine G_iconst (v := 0) rfl K dL_882 ?_
        exact wpO_none h
  · have h := wpO_f h hc
    refine G_iconst (v := 0) rfl K dL_865 ?_
    exact wpO_none h
def F_LAWc_887 (xs : Nat → Int32) (L : Nat) (x4 : Int32) (M : Mem) : Option Mem :=
  if inb (x4 + 1) L then if inb (x4 + 2) L then if inb (x4 + 3) L then (F_LAW_best (xs (x4 + 1).toNatClampNeg) (xs (x4 + 2).toNatClampNeg) (xs (x4 + 3).toNatClampNeg) M).bind fun r1 => if inb (x4 + 1) L then if inb (x4 + 2) L then if inb (x4 + 3) L then (F_MO_best (xs (x4 + 1).toNatClampNeg) (xs (x4 + 2).toNatClampNeg) (xs (x4 + 3).toNatClampNeg) r1.2).bind fun r2 => (F_MO_thrown r2.2).bind fun r3 => if r3 = r1.1 then if r1.1 = 0 then if inb ((0 : Int32)) 1 then if (r2.2.2 121 ((0 : Int32)).toNatClampNeg) = r2.1.toInt64 then some r2.2 else none else none else some r2.2 else none else none else none else none else none else none else none
set_option maxRecDepth 100000 in
set_option maxHeartbeats 8000000 in
theorem K_LAWc_887 {p : Program} {l : Launch} {e : Env} {s : State} {m : MethodId} {args : Array Value} {below : List Frame} {meth : Method} {c : Code} {g : GB} {Q : State → Prop} {b L : Nat} {xs : Nat → Int32} (K : KF p l s m args meth c g code 8 "KeptWellLaw") (htr : l.stackTraces = false) (hX : va_X b L xs s s.heap) (hbl : b < s.heap.size) (hbA : ¬ AS g s.heap.size b) (C S : Nat) (hC : C + 8 ≤ 601024) (hS : S + 48 ≤ 7293034) (x4 : Int32) (M : Mem) (PHI : Mem → Prop) (hnext : ∀ M, PHI M → GG p l e room_1 s m args below meth c g 8 Q (C + 8) (S + 48) 2782 [(0, .ref b), (1, .ref (g.2.1 0)), (2, .ref (g.2.1 94)), (3, .ref (g.2.1 121)), (4, .int x4)] [] M) (h : wpO (F_LAWc_887 xs L x4 M) PHI) : GG p l e room_1 s m args below meth c g 8 Q C S 887 [(0, .ref b), (1, .ref (g.2.1 0)), (2, .ref (g.2.1 94)), (3, .ref (g.2.1 121)), (4, .int x4)] [] M := by
  unfold F_LAWc_887 at h
  refine G_aload_n rfl 1 rfl K dL_887 ?_
  refine G_aload_n rfl 0 rfl K dL_888 ?_
  refine G_iload 4 rfl K dL_889 ?_
  refine G_iconst (v := 1) rfl K dL_891 ?_
  refine G_iadd K dL_892 ?_
  obtain ⟨hin, h⟩ := wpO_g h
  refine G_sld K hX hbl hbA dL_893 hin ?_
  refine G_aload_n rfl 0 rfl K dL_894 ?_
  refine G_iload 4 rfl K dL_895 ?_
  refine G_iconst (v := 2) rfl K dL_897 ?_
  refine G_iadd K dL_898 ?_
  obtain ⟨hin, h⟩ := wpO_g h
  refine G_sld K hX hbl hbA dL_899 hin ?_
  refine G_aload_n rfl 0 rfl K dL_900 ?_
  refine G_iload 4 rfl K dL_901 ?_
  refine G_iconst (v := 3) rfl K dL_903 ?_
  refine G_iadd K dL_904 ?_
  obtain ⟨hin, h⟩ := wpO_g h
  refine G_sld K hX hbl hbA dL_905 hin ?_
  refine G_aload_n rfl 3 rfl K dL_906 ?_
  obtain ⟨r1, e1, h⟩ := wpO_bind h
  refine G_callH [.ref (g.2.1 0), .int (xs (x4 + 1).toNatClampNeg), .int (xs (x4 + 2).toNatClampNeg), .int (xs (x4 + 3).toNatClampNeg), .ref (g.2.1 121)] [] K dL_907 wv_1002 yd_L_best (by decide) ⟨by show C + 0 + 4 ≤ 601024; omega, by show S + 0 + 24 ≤ 7293034; omega⟩ rfl rfl (Nat.le_of_ble_eq_true rfl) (K_LAW_best l g htr (xs (x4 + 1).toNatClampNeg) (xs (x4 + 2).toNatClampNeg) (xs (x4 + 3).toNatClampNeg) M _ _ e1) ?_
  refine G_istore K dL_910 (Nat.le_of_ble_eq_true rfl) rfl ?_
  refine G_aload_n rfl 3 rfl K dL_912 ?_
  refine G_aload_n rfl 1 rfl K dL_913 ?_
  refine G_iload 5 rfl K dL_914 ?_
  refine G_iconst (v := 1) rfl K dL_916 ?_
  refine G_iadd K dL_917 ?_
  obtain ⟨hin, h⟩ := wpO_g h
  refine G_sld K hX hbl hbA dL_918 hin ?_
  refine G_aload_n rfl 1 rfl K dL_919 ?_
  refine G_iload 5 rfl K dL_920 ?_
  refine G_iconst (v := 2) rfl K dL_922 ?_
  refine G_iadd K dL_923 ?_
  obtain ⟨hin, h⟩ := wpO_g h
  refine G_sld K hX hbl hbA dL_924 hin ?_
  refine G_aload_n rfl 1 rfl K dL_925 ?_
  refine G_iload 5 rfl K dL_926 ?_
  refine G_iconst (v := 3) rfl K dL_928 ?_
  refine G_iadd K dL_929 ?_
  obtain ⟨hin, h⟩ := wpO_g h
  refine G_sld K hX hbl hbA dL_930 hin ?_
  obtain ⟨r2, e2, h⟩ := wpO_bind h
  refine G_callVi (ci := 12) [.int (xs (x4 + 1).toNatClampNeg), .int (xs (x4 + 2).toNatClampNeg), .int (xs (x4 + 3).toNatClampNeg)] [] K dL_931 wv_1796 yd_X12_best (Nat.le_of_ble_eq_true rfl) (sh_94 _ _) rfl (by decide) ⟨by show C + 4 + 0 ≤ 601024; omega, by show S + 24 + 0 ≤ 7293034; omega⟩ rfl rfl (Nat.le_of_ble_eq_true rfl) (K_MO_best l g htr (xs (x4 + 1).toNatClampNeg) (xs (x4 + 2).toNatClampNeg) (xs (x4 + 3).toNatClampNeg) r1.2 _ _ e2) ?_
  refine G_istore K dL_934 (Nat.le_of_ble_eq_true rfl) rfl ?_
  refine G_aload_n rfl 4 rfl K dL_936 ?_
  obtain ⟨r3, e3, h⟩ := wpO_bind h
  refine G_callVi (ci := 12) [] [] K dL_937 wv_1465 yd_X12_thrown (Nat.le_of_ble_eq_true rfl) (sh_94 _ _) rfl (by decide) ⟨by show C + 4 + 0 ≤ 601024; omega, by show S + 24 + 0 ≤ 7293034; omega⟩ rfl rfl (Nat.le_of_ble_eq_true rfl) (K_MO_thrown l g htr  r2.2 _ e3) ?_
  refine G_iload 1 rfl K dL_940 ?_
  refine G_icmp_eq (tgt := 947) K dL_942 (by decide) (fun hc => ?_) (fun hc => ?_)
  · have h := wpO_t h hc
    refine G_iload 1 rfl K dL_947 ?_
    refine G_if_ne (tgt := 964) K dL_949 (by decide) (fun hc => ?_) (fun hc => ?_)
    · have h := wpO_f h hc
      refine G_goto (tgt := 2782) K dL_964 (by decide) ?_
      exact G_wide (k := C + 8) (n := S + 48) (by show C + 4 ≤ C + 8; omega) (by show S + 24 ≤ S + 48; omega) (G_lv (lv' := [(0, .ref b), (1, .ref (g.2.1 0)), (2, .ref (g.2.1 94)), (3, .ref (g.2.1 121)), (4, .int x4)]) [2, 3, 4, 5, 6] rfl (hnext r2.2 (wpO_some h)))
    · have h := wpO_t h hc
      refine G_aload_n rfl 5 rfl K dL_952 ?_
      refine G_iconst (v := 0) rfl K dL_953 ?_
      obtain ⟨hin, h⟩ := wpO_g h
      refine G_lald K dL_954 (Nat.le_of_ble_eq_true rfl) (sh_121 _ _) hin ?_
      refine G_iload 0 rfl K dL_955 ?_
      refine G_i2l K dL_957 ?_
      refine G_lcmp_eq (tgt := 964) K dL_958 dL_959 (by decide) (fun hc => ?_) (fun hc => ?_)
      · have h := wpO_t h hc
        refine G_goto (tgt := 2782) K dL_964 (by decide) ?_
        exact G_wide (k := C + 8) (n := S + 48) (by show C + 4 ≤ C + 8; omega) (by show S + 24 ≤ S + 48; omega) (G_lv (lv' := [(0, .ref b), (1, .ref (g.2.1 0)), (2, .ref (g.2.1 94)), (3, .ref (g.2.1 121)), (4, .int x4)]) [2, 3, 4, 5, 6] rfl (hnext r2.2 (wpO_some h)))
      · have h := wpO_f h hc
        refine G_iconst (v := 0) rfl K dL_962 ?_
        exact wpO_none h
  · have h := wpO_f h hc
    refine G_iconst (v := 0) rfl K dL_945 ?_
    exact wpO_none h
def F_LAWc_967_j1039 (xs : Nat → Int32) (L : Nat) (x4 : Int32) (x5 : Int32) (s1 : Int32) (s2 : Int32) (s3 : Int32) (s4 : Bool) (M : Mem) : Option (Mem) :=
  (F_MO_answer s1 s2 s3 ((b2i s4)) M).bind fun r2 => (F_MO_thrown r2.2).bind fun r3 => if r3 = x5 then if x5 = 0 then if inb ((0 : Int32)) 1 then if (r2.2.2 121 ((0 : Int32)).toNatClampNeg) = r2.1 then some r2.2 else none else none else some r2.2 else none
def F_LAWc_967_j1000 (xs : Nat → Int32) (L : Nat) (x4 : Int32) (s1 : Int32) (s2 : Int32) (s3 : Int32) (s4 : Bool) (M : Mem) : Option (Mem) :=
  (F_LAW_answer s1 s2 s3 ((b2i s4)) M).bind fun r1 => if inb (x4 + 1) L then if inb (x4 + 2) L then if inb (x4 + 3) L then if inb (x4 + 4) L then if (xs (x4 + 4).toNatClampNeg) = 0 then F_LAWc_967_j1039 xs L x4 r1.1 (xs (x4 + 1).toNatClampNeg) (xs (x4 + 2).toNatClampNeg) (xs (x4 + 3).toNatClampNeg) false r1.2 else F_LAWc_967_j1039 xs L x4 r1.1 (xs (x4 + 1).toNatClampNeg) (xs (x4 + 2).toNatClampNeg) (xs (x4 + 3).toNatClampNeg) true r1.2 else none else none else none else none
def F_LAWc_967 (xs : Nat → Int32) (L : Nat) (x4 : Int32) (M : Mem) : Option Mem :=
  if inb (x4 + 1) L then if inb (x4 + 2) L then if inb (x4 + 3) L then if inb (x4 + 4) L then if (xs (x4 + 4).toNatClampNeg) = 0 then F_LAWc_967_j1000 xs L x4 (xs (x4 + 1).toNatClampNeg) (xs (x4 + 2).toNatClampNeg) (xs (x4 + 3).toNatClampNeg) false M else F_LAWc_967_j1000 xs L x4 (xs (x4 + 1).toNatClampNeg) (xs (x4 + 2).toNatClampNeg) (xs (x4 + 3).toNatClampNeg) true M else none else none else none else none
set_option maxRecDepth 100000 in
set_option maxHeartbeats 8000000 in
theorem K_LAWc_967 {p : Program} {l : Launch} {e : Env} {s : State} {m : MethodId} {args : Array Value} {below : List Frame} {meth : Method} {c : Code} {g : GB} {Q : State → Prop} {b L : Nat} {xs : Nat → Int32} (K : KF p l s m args meth c g code 8 "KeptWellLaw") (htr : l.stackTraces = false) (hX : va_X b L xs s s.heap) (hbl : b < s.heap.size) (hbA : ¬ AS g s.heap.size b) (C S : Nat) (hC : C + 8 ≤ 601024) (hS : S + 48 ≤ 7293034) (x4 : Int32) (M : Mem) (PHI : Mem → Prop) (hnext : ∀ M, PHI M → GG p l e room_1 s m args below meth c g 8 Q (C + 8) (S + 48) 2782 [(0, .ref b), (1, .ref (g.2.1 0)), (2, .ref (g.2.1 94)), (3, .ref (g.2.1 121)), (4, .int x4)] [] M) (h : wpO (F_LAWc_967 xs L x4 M) PHI) : GG p l e room_1 s m args below meth c g 8 Q C S 967 [(0, .ref b), (1, .ref (g.2.1 0)), (2, .ref (g.2.1 94)), (3, .ref (g.2.1 121)), (4, .int x4)] [] M := by
  have J1039 : ∀ (x5 : Int32) (s1 : Int32) (s2 : Int32) (s3 : Int32) (s4 : Bool) (M : Mem), wpO (F_LAWc_967_j1039 xs L x4 x5 s1 s2 s3 s4 M) PHI → GG p l e room_1 s m args below meth c g 8 Q (C + 4) (S + 24) 1039 [(0, .ref b), (1, .ref (g.2.1 0)), (2, .ref (g.2.1 94)), (3, .ref (g.2.1 121)), (4, .int x4), (5, .int x5)] [.int ((b2i s4)), .int s3, .int s2, .int s1, .ref (g.2.1 94)] M := by
    intro x5 s1 s2 s3 s4 M h
    unfold F_LAWc_967_j1039 at h
    obtain ⟨r2, e2, h⟩ := wpO_bind h
    refine G_callVl (ci := 12) [.int s1, .int s2, .int s3, .int ((b2i s4))] [] K dL_1039 wv_1808 yd_X12_answer (Nat.le_of_ble_eq_true rfl) (sh_94 _ _) rfl (by decide) ⟨by show C + 4 + 0 ≤ 601024; omega, by show S + 24 + 0 ≤ 7293034; omega⟩ rfl rfl (Nat.le_of_ble_eq_true rfl) (K_MO_answer l g htr s1 s2 s3 ((b2i s4)) M _ _ e2) ?_
    refine G_lstore K dL_1042 (Nat.le_of_ble_eq_true rfl) rfl ?_
    refine G_aload_n rfl 3 rfl K dL_1044 ?_
    obtain ⟨r3, e3, h⟩ := wpO_bind h
    refine G_callVi (ci := 12) [] [] K dL_1045 wv_1465 yd_X12_thrown (Nat.le_of_ble_eq_true rfl) (sh_94 _ _) rfl (by decide) ⟨by show C + 4 + 0 ≤ 601024; omega, by show S + 24 + 0 ≤ 7293034; omega⟩ rfl rfl (Nat.le_of_ble_eq_true rfl) (K_MO_thrown l g htr  r2.2 _ e3) ?_
    refine G_iload 6 rfl K dL_1048 ?_
    refine G_icmp_eq (tgt := 1055) K dL_1050 (by decide) (fun hc => ?_) (fun hc => ?_)
    · have h := wpO_t h hc
      refine G_iload 6 rfl K dL_1055 ?_
      refine G_if_ne (tgt := 1071) K dL_1057 (by decide) (fun hc => ?_) (fun hc => ?_)
      · have h := wpO_f h hc
        refine G_goto (tgt := 2782) K dL_1071 (by decide) ?_
        exact G_wide (k := C + 8) (n := S + 48) (by show C + 4 ≤ C + 8; omega) (by show S + 24 ≤ S + 48; omega) (G_lv (lv' := [(0, .ref b), (1, .ref (g.2.1 0)), (2, .ref (g.2.1 94)), (3, .ref (g.2.1 121)), (4, .int x4)]) [1, 2, 3, 4, 5] rfl (hnext r2.2 (wpO_some h)))
      · have h := wpO_t h hc
        refine G_aload_n rfl 4 rfl K dL_1060 ?_
        refine G_iconst (v := 0) rfl K dL_1061 ?_
        obtain ⟨hin, h⟩ := wpO_g h
        refine G_lald K dL_1062 (Nat.le_of_ble_eq_true rfl) (sh_121 _ _) hin ?_
        refine G_lload 0 rfl K dL_1063 ?_
        refine G_lcmp_eq (tgt := 1071) K dL_1065 dL_1066 (by decide) (fun hc => ?_) (fun hc => ?_)
        · have h := wpO_t h hc
          refine G_goto (tgt := 2782) K dL_1071 (by decide) ?_
          exact G_wide (k := C + 8) (n := S + 48) (by show C + 4 ≤ C + 8; omega) (by show S + 24 ≤ S + 48; omega) (G_lv (lv' := [(0, .ref b), (1, .ref (g.2.1 0)), (2, .ref (g.2.1 94)), (3, .ref (g.2.1 121)), (4, .int x4)]) [1, 2, 3, 4, 5] rfl (hnext r2.2 (wpO_some h)))
        · have h := wpO_f h hc
          refine G_iconst (v := 0) rfl K dL_1069 ?_
          exact wpO_none h
    · have h := wpO_f h hc
      refine G_iconst (v := 0) rfl K dL_1053 ?_
      exact wpO_none h
  have J1000 : ∀ (s1 : Int32) (s2 : Int32) (s3 : Int32) (s4 : Bool) (M : Mem), wpO (F_LAWc_967_j1000 xs L x4 s1 s2 s3 s4 M) PHI → GG p l e room_1 s m args below meth c g 8 Q (C + 0) (S + 0) 1000 [(0, .ref b), (1, .ref (g.2.1 0)), (2, .ref (g.2.1 94)), (3, .ref (g.2.1 121)), (4, .int x4)] [.int ((b2i s4)), .int s3, .int s2, .int s1, .ref (g.2.1 0)] M := by
    intro s1 s2 s3 s4 M h
    unfold F_LAWc_967_j1000 at h
    refine G_aload_n rfl 3 rfl K dL_1000 ?_
    obtain ⟨r1, e1, h⟩ := wpO_bind h
    refine G_callH [.ref (g.2.1 0), .int s1, .int s2, .int s3, .int ((b2i s4)), .ref (g.2.1 121)] [] K dL_1001 wv_1049 yd_L_answer (by decide) ⟨by show C + 0 + 4 ≤ 601024; omega, by show S + 0 + 24 ≤ 7293034; omega⟩ rfl rfl (Nat.le_of_ble_eq_true rfl) (K_LAW_answer l g htr s1 s2 s3 ((b2i s4)) M _ _ e1) ?_
    refine G_istore K dL_1004 (Nat.le_of_ble_eq_true rfl) rfl ?_
    refine G_aload_n rfl 3 rfl K dL_1006 ?_
    refine G_aload_n rfl 1 rfl K dL_1007 ?_
    refine G_iload 5 rfl K dL_1008 ?_
    refine G_iconst (v := 1) rfl K dL_1010 ?_
    refine G_iadd K dL_1011 ?_
    obtain ⟨hin, h⟩ := wpO_g h
    refine G_sld K hX hbl hbA dL_1012 hin ?_
    refine G_aload_n rfl 1 rfl K dL_1013 ?_
    refine G_iload 5 rfl K dL_1014 ?_
    refine G_iconst (v := 2) rfl K dL_1016 ?_
    refine G_iadd K dL_1017 ?_
    obtain ⟨hin, h⟩ := wpO_g h
    refine G_sld K hX hbl hbA dL_1018 hin ?_
    refine G_aload_n rfl 1 rfl K dL_1019 ?_
    refine G_iload 5 rfl K dL_1020 ?_
    refine G_iconst (v := 3) rfl K dL_1022 ?_
    refine G_iadd K dL_1023 ?_
    obtain ⟨hin, h⟩ := wpO_g h
    refine G_sld K hX hbl hbA dL_1024 hin ?_
    refine G_aload_n rfl 1 rfl K dL_1025 ?_
    refine G_iload 5 rfl K dL_1026 ?_
    refine G_iconst (v := 4) rfl K dL_1028 ?_
    refine G_iadd K dL_1029 ?_
    obtain ⟨hin, h⟩ := wpO_g h
    refine G_sld K hX hbl hbA dL_1030 hin ?_
    refine G_if_eq (tgt := 1038) K dL_1031 (by decide) (fun hc => ?_) (fun hc => ?_)
    · have h := wpO_t h hc
      refine G_iconst (v := 0) rfl K dL_1038 ?_
      exact G_lv (lv' := [(0, .ref b), (1, .ref (g.2.1 0)), (2, .ref (g.2.1 94)), (3, .ref (g.2.1 121)), (4, .int x4), (5, .int r1.1)]) [1, 2, 3, 4, 5, 0] rfl (J1039 r1.1 (xs (x4 + 1).toNatClampNeg) (xs (x4 + 2).toNatClampNeg) (xs (x4 + 3).toNatClampNeg) false r1.2 h)
    · have h := wpO_f h hc
      refine G_iconst (v := 1) rfl K dL_1034 ?_
      refine G_goto (tgt := 1039) K dL_1035 (by decide) ?_
      exact G_lv (lv' := [(0, .ref b), (1, .ref (g.2.1 0)), (2, .ref (g.2.1 94)), (3, .ref (g.2.1 121)), (4, .int x4), (5, .int r1.1)]) [1, 2, 3, 4, 5, 0] rfl (J1039 r1.1 (xs (x4 + 1).toNatClampNeg) (xs (x4 + 2).toNatClampNeg) (xs (x4 + 3).toNatClampNeg) true r1.2 h)
  unfold F_LAWc_967 at h
  refine G_aload_n rfl 1 rfl K dL_967 ?_
  refine G_aload_n rfl 0 rfl K dL_968 ?_
  refine G_iload 4 rfl K dL_969 ?_
  refine G_iconst (v := 1) rfl K dL_971 ?_
  refine G_iadd K dL_972 ?_
  obtain ⟨hin, h⟩ := wpO_g h
  refine G_sld K hX hbl hbA dL_973 hin ?_
  refine G_aload_n rfl 0 rfl K dL_974 ?_
  refine G_iload 4 rfl K dL_975 ?_
  refine G_iconst (v := 2) rfl K dL_977 ?_
  refine G_iadd K dL_978 ?_
  obtain ⟨hin, h⟩ := wpO_g h
  refine G_sld K hX hbl hbA dL_979 hin ?_
  refine G_aload_n rfl 0 rfl K dL_980 ?_
  refine G_iload 4 rfl K dL_981 ?_
  refine G_iconst (v := 3) rfl K dL_983 ?_
  refine G_iadd K dL_984 ?_
  obtain ⟨hin, h⟩ := wpO_g h
  refine G_sld K hX hbl hbA dL_985 hin ?_
  refine G_aload_n rfl 0 rfl K dL_986 ?_
  refine G_iload 4 rfl K dL_987 ?_
  refine G_iconst (v := 4) rfl K dL_989 ?_
  refine G_iadd K dL_990 ?_
  obtain ⟨hin, h⟩ := wpO_g h
  refine G_sld K hX hbl hbA dL_991 hin ?_
  refine G_if_eq (tgt := 999) K dL_992 (by decide) (fun hc => ?_) (fun hc => ?_)
  · have h := wpO_t h hc
    refine G_iconst (v := 0) rfl K dL_999 ?_
    exact J1000 (xs (x4 + 1).toNatClampNeg) (xs (x4 + 2).toNatClampNeg) (xs (x4 + 3).toNatClampNeg) false M h
  · have h := wpO_f h hc
    refine G_iconst (v := 1) rfl K dL_995 ?_
    refine G_goto (tgt := 1000) K dL_996 (by decide) ?_
    exact J1000 (xs (x4 + 1).toNatClampNeg) (xs (x4 + 2).toNatClampNeg) (xs (x4 + 3).toNatClampNeg) true M h
def F_LAWc_1074_j1122 (xs : Nat → Int32) (L : Nat) (x4 : Int32) (x5 : Int32) (s1 : Int32) (s2 : Bool) (M : Mem) : Option (Mem) :=
  (F_MO_least s1 ((b2i s2)) M).bind fun r2 => (F_MO_thrown r2.2).bind fun r3 => if r3 = x5 then if x5 = 0 then if inb ((0 : Int32)) 1 then if (r2.2.2 121 ((0 : Int32)).toNatClampNeg) = r2.1.toInt64 then some r2.2 else none else none else some r2.2 else none
def F_LAWc_1074_j1095 (xs : Nat → Int32) (L : Nat) (x4 : Int32) (s1 : Int32) (s2 : Bool) (M : Mem) : Option (Mem) :=
  (F_LAW_least s1 ((b2i s2)) M).bind fun r1 => if inb (x4 + 1) L then if inb (x4 + 2) L then if (xs (x4 + 2).toNatClampNeg) = 0 then F_LAWc_1074_j1122 xs L x4 r1.1 (xs (x4 + 1).toNatClampNeg) false r1.2 else F_LAWc_1074_j1122 xs L x4 r1.1 (xs (x4 + 1).toNatClampNeg) true r1.2 else none else none
def F_LAWc_1074 (xs : Nat → Int32) (L : Nat) (x4 : Int32) (M : Mem) : Option Mem :=
  if inb (x4 + 1) L then if inb (x4 + 2) L then if (xs (x4 + 2).toNatClampNeg) = 0 then F_LAWc_1074_j1095 xs L x4 (xs (x4 + 1).toNatClampNeg) false M else F_LAWc_1074_j1095 xs L x4 (xs (x4 + 1).toNatClampNeg) true M else none else none
set_option maxRecDepth 100000 in
set_option maxHeartbeats 8000000 in
theorem K_LAWc_1074 {p : Program} {l : Launch} {e : Env} {s : State} {m : MethodId} {args : Array Value} {below : List Frame} {meth : Method} {c : Code} {g : GB} {Q : State → Prop} {b L : Nat} {xs : Nat → Int32} (K : KF p l s m args meth c g code 8 "KeptWellLaw") (htr : l.stackTraces = false) (hX : va_X b L xs s s.heap) (hbl : b < s.heap.size) (hbA : ¬ AS g s.heap.size b) (C S : Nat) (hC : C + 8 ≤ 601024) (hS : S + 48 ≤ 7293034) (x4 : Int32) (M : Mem) (PHI : Mem → Prop) (hnext : ∀ M, PHI M → GG p l e room_1 s m args below meth c g 8 Q (C + 8) (S + 48) 2782 [(0, .ref b), (1, .ref (g.2.1 0)), (2, .ref (g.2.1 94)), (3, .ref (g.2.1 121)), (4, .int x4)] [] M) (h : wpO (F_LAWc_1074 xs L x4 M) PHI) : GG p l e room_1 s m args below meth c g 8 Q C S 1074 [(0, .ref b), (1, .ref (g.2.1 0)), (2, .ref (g.2.1 94)), (3, .ref (g.2.1 121)), (4, .int x4)] [] M := by
  have J1122 : ∀ (x5 : Int32) (s1 : Int32) (s2 : Bool) (M : Mem), wpO (F_LAWc_1074_j1122 xs L x4 x5 s1 s2 M) PHI → GG p l e room_1 s m args below meth c g 8 Q (C + 1) (S + 6) 1122 [(0, .ref b), (1, .ref (g.2.1 0)), (2, .ref (g.2.1 94)), (3, .ref (g.2.1 121)), (4, .int x4), (5, .int x5)] [.int ((b2i s2)), .int s1, .ref (g.2.1 94)] M := by
    intro x5 s1 s2 M h
    unfold F_LAWc_1074_j1122 at h
    obtain ⟨r2, e2, h⟩ := wpO_bind h
    refine G_callVi (ci := 12) [.int s1, .int ((b2i s2))] [] K dL_1122 wv_1812 yd_X12_least (Nat.le_of_ble_eq_true rfl) (sh_94 _ _) rfl (by decide) ⟨by show C + 1 + 0 ≤ 601024; omega, by show S + 6 + 0 ≤ 7293034; omega⟩ rfl rfl (Nat.le_of_ble_eq_true rfl) (K_MO_least l g htr s1 ((b2i s2)) M _ _ e2) ?_
    refine G_istore K dL_1125 (Nat.le_of_ble_eq_true rfl) rfl ?_
    refine G_aload_n rfl 3 rfl K dL_1127 ?_
    obtain ⟨r3, e3, h⟩ := wpO_bind h
    refine G_callVi (ci := 12) [] [] K dL_1128 wv_1465 yd_X12_thrown (Nat.le_of_ble_eq_true rfl) (sh_94 _ _) rfl (by decide) ⟨by show C + 1 + 0 ≤ 601024; omega, by show S + 6 + 0 ≤ 7293034; omega⟩ rfl rfl (Nat.le_of_ble_eq_true rfl) (K_MO_thrown l g htr  r2.2 _ e3) ?_
    refine G_iload 6 rfl K dL_1131 ?_
    refine G_icmp_eq (tgt := 1138) K dL_1133 (by decide) (fun hc => ?_) (fun hc => ?_)
    · have h := wpO_t h hc
      refine G_iload 6 rfl K dL_1138 ?_
      refine G_if_ne (tgt := 1155) K dL_1140 (by decide) (fun hc => ?_) (fun hc => ?_)
      · have h := wpO_f h hc
        refine G_goto (tgt := 2782) K dL_1155 (by decide) ?_
        exact G_wide (k := C + 8) (n := S + 48) (by show C + 1 ≤ C + 8; omega) (by show S + 6 ≤ S + 48; omega) (G_lv (lv' := [(0, .ref b), (1, .ref (g.2.1 0)), (2, .ref (g.2.1 94)), (3, .ref (g.2.1 121)), (4, .int x4)]) [1, 2, 3, 4, 5] rfl (hnext r2.2 (wpO_some h)))
      · have h := wpO_t h hc
        refine G_aload_n rfl 4 rfl K dL_1143 ?_
        refine G_iconst (v := 0) rfl K dL_1144 ?_
        obtain ⟨hin, h⟩ := wpO_g h
        refine G_lald K dL_1145 (Nat.le_of_ble_eq_true rfl) (sh_121 _ _) hin ?_
        refine G_iload 0 rfl K dL_1146 ?_
        refine G_i2l K dL_1148 ?_
        refine G_lcmp_eq (tgt := 1155) K dL_1149 dL_1150 (by decide) (fun hc => ?_) (fun hc => ?_)
        · have h := wpO_t h hc
          refine G_goto (tgt := 2782) K dL_1155 (by decide) ?_
          exact G_wide (k := C + 8) (n := S + 48) (by show C + 1 ≤ C + 8; omega) (by show S + 6 ≤ S + 48; omega) (G_lv (lv' := [(0, .ref b), (1, .ref (g.2.1 0)), (2, .ref (g.2.1 94)), (3, .ref (g.2.1 121)), (4, .int x4)]) [1, 2, 3, 4, 5] rfl (hnext r2.2 (wpO_some h)))
        · have h := wpO_f h hc
          refine G_iconst (v := 0) rfl K dL_1153 ?_
          exact wpO_none h
    · have h := wpO_f h hc
      refine G_iconst (v := 0) rfl K dL_1136 ?_
      exact wpO_none h
  have J1095 : ∀ (s1 : Int32) (s2 : Bool) (M : Mem), wpO (F_LAWc_1074_j1095 xs L x4 s1 s2 M) PHI → GG p l e room_1 s m args below meth c g 8 Q (C + 0) (S + 0) 1095 [(0, .ref b), (1, .ref (g.2.1 0)), (2, .ref (g.2.1 94)), (3, .ref (g.2.1 121)), (4, .int x4)] [.int ((b2i s2)), .int s1, .ref (g.2.1 0)] M := by
    intro s1 s2 M h
    unfold F_LAWc_1074_j1095 at h
    refine G_aload_n rfl 3 rfl K dL_1095 ?_
    obtain ⟨r1, e1, h⟩ := wpO_bind h
    refine G_callH [.ref (g.2.1 0), .int s1, .int ((b2i s2)), .ref (g.2.1 121)] [] K dL_1096 wv_1061 yd_L_least (by decide) ⟨by show C + 0 + 1 ≤ 601024; omega, by show S + 0 + 6 ≤ 7293034; omega⟩ rfl rfl (Nat.le_of_ble_eq_true rfl) (K_LAW_least l g htr s1 ((b2i s2)) M _ _ e1) ?_
    refine G_istore K dL_1099 (Nat.le_of_ble_eq_true rfl) rfl ?_
    refine G_aload_n rfl 3 rfl K dL_1101 ?_
    refine G_aload_n rfl 1 rfl K dL_1102 ?_
    refine G_iload 5 rfl K dL_1103 ?_
    refine G_iconst (v := 1) rfl K dL_1105 ?_
    refine G_iadd K dL_1106 ?_
    obtain ⟨hin, h⟩ := wpO_g h
    refine G_sld K hX hbl hbA dL_1107 hin ?_
    refine G_aload_n rfl 1 rfl K dL_1108 ?_
    refine G_iload 5 rfl K dL_1109 ?_
    refine G_iconst (v := 2) rfl K dL_1111 ?_
    refine G_iadd K dL_1112 ?_
    obtain ⟨hin, h⟩ := wpO_g h
    refine G_sld K hX hbl hbA dL_1113 hin ?_
    refine G_if_eq (tgt := 1121) K dL_1114 (by decide) (fun hc => ?_) (fun hc => ?_)
    · have h := wpO_t h hc
      refine G_iconst (v := 0) rfl K dL_1121 ?_
      exact G_lv (lv' := [(0, .ref b), (1, .ref (g.2.1 0)), (2, .ref (g.2.1 94)), (3, .ref (g.2.1 121)), (4, .int x4), (5, .int r1.1)]) [1, 2, 3, 4, 5, 0] rfl (J1122 r1.1 (xs (x4 + 1).toNatClampNeg) false r1.2 h)
    · have h := wpO_f h hc
      refine G_iconst (v := 1) rfl K dL_1117 ?_
      refine G_goto (tgt := 1122) K dL_1118 (by decide) ?_
      exact G_lv (lv' := [(0, .ref b), (1, .ref (g.2.1 0)), (2, .ref (g.2.1 94)), (3, .ref (g.2.1 121)), (4, .int x4), (5, .int r1.1)]) [1, 2, 3, 4, 5, 0] rfl (J1122 r1.1 (xs (x4 + 1).toNatClampNeg) true r1.2 h)
  unfold F_LAWc_1074 at h
  refine G_aload_n rfl 1 rfl K dL_1074 ?_
  refine G_aload_n rfl 0 rfl K dL_1075 ?_
  refine G_iload 4 rfl K dL_1076 ?_
  refine G_iconst (v := 1) rfl K dL_1078 ?_
  refine G_iadd K dL_1079 ?_
  obtain ⟨hin, h⟩ := wpO_g h
  refine G_sld K hX hbl hbA dL_1080 hin ?_
  refine G_aload_n rfl 0 rfl K dL_1081 ?_
  refine G_iload 4 rfl K dL_1082 ?_
  refine G_iconst (v := 2) rfl K dL_1084 ?_
  refine G_iadd K dL_1085 ?_
  obtain ⟨hin, h⟩ := wpO_g h
  refine G_sld K hX hbl hbA dL_1086 hin ?_
  refine G_if_eq (tgt := 1094) K dL_1087 (by decide) (fun hc => ?_) (fun hc => ?_)
  · have h := wpO_t h hc
    refine G_iconst (v := 0) rfl K dL_1094 ?_
    exact J1095 (xs (x4 + 1).toNatClampNeg) false M h
  · have h := wpO_f h hc
    refine G_iconst (v := 1) rfl K dL_1090 ?_
    refine G_goto (tgt := 1095) K dL_1091 (by decide) ?_
    exact J1095 (xs (x4 + 1).toNatClampNeg) true M h
def F_LAWc_1158_j1206 (xs : Nat → Int32) (L : Nat) (x4 : Int32) (x5 : Int32) (s1 : Int32) (s2 : Bool) (M : Mem) : Option (Mem) :=
  (F_MO_lots s1 ((b2i s2)) M).bind fun r2 => (F_MO_thrown r2.2).bind fun r3 => if r3 = x5 then if x5 = 0 then if inb ((0 : Int32)) 1 then if (r2.2.2 121 ((0 : Int32)).toNatClampNeg) = r2.1 then some r2.2 else none else none else some r2.2 else none
def F_LAWc_1158_j1179 (xs : Nat → Int32) (L : Nat) (x4 : Int32) (s1 : Int32) (s2 : Bool) (M : Mem) : Option (Mem) :=
  (F_LAW_lots s1 ((b2i s2)) M).bind fun r1 => if inb (x4 + 1) L then if inb (x4 + 2) L then if (xs (x4 + 2).toNatClampNeg) = 0 then F_LAWc_1158_j1206 xs L x4 r1.1 (xs (x4 + 1).toNatClampNeg) false r1.2 else F_LAWc_1158_j1206 xs L x4 r1.1 (xs (x4 + 1).toNatClampNeg) true r1.2 else none else none
def F_LAWc_1158 (xs : Nat → Int32) (L : Nat) (x4 : Int32) (M : Mem) : Option Mem :=
  if inb (x4 + 1) L then if inb (x4 + 2) L then if (xs (x4 + 2).toNatClampNeg) = 0 then F_LAWc_1158_j1179 xs L x4 (xs (x4 + 1).toNatClampNeg) false M else F_LAWc_1158_j1179 xs L x4 (xs (x4 + 1).toNatClampNeg) true M else none else none
set_option maxRecDepth 100000 in
set_option maxHeartbeats 8000000 in
theorem K_LAWc_1158 {p : Program} {l : Launch} {e : Env} {s : State} {m : MethodId} {args : Array Value} {below : List Frame} {meth : Method} {c : Code} {g : GB} {Q : State → Prop} {b L : Nat} {xs : Nat → Int32} (K : KF p l s m args meth c g code 8 "KeptWellLaw") (htr : l.stackTraces = false) (hX : va_X b L xs s s.heap) (hbl : b < s.heap.size) (hbA : ¬ AS g s.heap.size b) (C S : Nat) (hC : C + 8 ≤ 601024) (hS : S + 48 ≤ 7293034) (x4 : Int32) (M : Mem) (PHI : Mem → Prop) (hnext : ∀ M, PHI M → GG p l e room_1 s m args below meth c g 8 Q (C + 8) (S + 48) 2782 [(0, .ref b), (1, .ref (g.2.1 0)), (2, .ref (g.2.1 94)), (3, .ref (g.2.1 121)), (4, .int x4)] [] M) (h : wpO (F_LAWc_1158 xs L x4 M) PHI) : GG p l e room_1 s m args below meth c g 8 Q C S 1158 [(0, .ref b), (1, .ref (g.2.1 0)), (2, .ref (g.2.1 94)), (3, .ref (g.2.1 121)), (4, .int x4)] [] M := by
  have J1206 : ∀ (x5 : Int32) (s1 : Int32) (s2 : Bool) (M : Mem), wpO (F_LAWc_1158_j1206 xs L x4 x5 s1 s2 M) PHI → GG p l e room_1 s m args below meth c g 8 Q (C + 1) (S + 6) 1206 [(0, .ref b), (1, .ref (g.2.1 0)), (2, .ref (g.2.1 94)), (3, .ref (g.2.1 121)), (4, .int x4), (5, .int x5)] [.int ((b2i s2)), .int s1, .ref (g.2.1 94)] M := by
    intro x5 s1 s2 M h
    unfold F_LAWc_1158_j1206 at h
    obtain ⟨r2, e2, h⟩ := wpO_bind h
    refine G_callVl (ci := 12) [.int s1, .int ((b2i s2))] [] K dL_1206 wv_1833 yd_X12_lots (Nat.le_of_ble_eq_true rfl) (sh_94 _ _) rfl (by decide) ⟨by show C + 1 + 0 ≤ 601024; omega, by show S + 6 + 0 ≤ 7293034; omega⟩ rfl rfl (Nat.le_of_ble_eq_true rfl) (K_MO_lots l g htr s1 ((b2i s2)) M _ _ e2) ?_
    refine G_lstore K dL_1209 (Nat.le_of_ble_eq_true rfl) rfl ?_
    refine G_aload_n rfl 3 rfl K dL_1211 ?_
    obtain ⟨r3, e3, h⟩ := wpO_bind h
    refine G_callVi (ci := 12) [] [] K dL_1212 wv_1465 yd_X12_thrown (Nat.le_of_ble_eq_true rfl) (sh_94 _ _) rfl (by decide) ⟨by show C + 1 + 0 ≤ 601024; omega, by show S + 6 + 0 ≤ 7293034; omega⟩ rfl rfl (Nat.le_of_ble_eq_true rfl) (K_MO_thrown l g htr  r2.2 _ e3) ?_
    refine G_iload 6 rfl K dL_1215 ?_
    refine G_icmp_eq (tgt := 1222) K dL_1217 (by decide) (fun hc => ?_) (fun hc => ?_)
    · have h := wpO_t h hc
      refine G_iload 6 rfl K dL_1222 ?_
      refine G_if_ne (tgt := 1238) K dL_1224 (by decide) (fun hc => ?_) (fun hc => ?_)
      · have h := wpO_f h hc
        refine G_goto (tgt := 2782) K dL_1238 (by decide) ?_
        exact G_wide (k := C + 8) (n := S + 48) (by show C + 1 ≤ C + 8; omega) (by show S + 6 ≤ S + 48; omega) (G_lv (lv' := [(0, .ref b), (1, .ref (g.2.1 0)), (2, .ref (g.2.1 94)), (3, .ref (g.2.1 121)), (4, .int x4)]) [1, 2, 3, 4, 5] rfl (hnext r2.2 (wpO_some h)))
      · have h := wpO_t h hc
        refine G_aload_n rfl 4 rfl K dL_1227 ?_
        refine G_iconst (v := 0) rfl K dL_1228 ?_
        obtain ⟨hin, h⟩ := wpO_g h
        refine G_lald K dL_1229 (Nat.le_of_ble_eq_true rfl) (sh_121 _ _) hin ?_
        refine G_lload 0 rfl K dL_1230 ?_
        refine G_lcmp_eq (tgt := 1238) K dL_1232 dL_1233 (by decide) (fun hc => ?_) (fun hc => ?_)
        · have h := wpO_t h hc
          refine G_goto (tgt := 2782) K dL_1238 (by decide) ?_
          exact G_wide (k := C + 8) (n := S + 48) (by show C + 1 ≤ C + 8; omega) (by show S + 6 ≤ S + 48; omega) (G_lv (lv' := [(0, .ref b), (1, .ref (g.2.1 0)), (2, .ref (g.2.1 94)), (3, .ref (g.2.1 121)), (4, .int x4)]) [1, 2, 3, 4, 5] rfl (hnext r2.2 (wpO_some h)))
        · have h := wpO_f h hc
          refine G_iconst (v := 0) rfl K dL_1236 ?_
          exact wpO_none h
    · have h := wpO_f h hc
      refine G_iconst (v := 0) rfl K dL_1220 ?_
      exact wpO_none h
  have J1179 : ∀ (s1 : Int32) (s2 : Bool) (M : Mem), wpO (F_LAWc_1158_j1179 xs L x4 s1 s2 M) PHI → GG p l e room_1 s m args below meth c g 8 Q (C + 0) (S + 0) 1179 [(0, .ref b), (1, .ref (g.2.1 0)), (2, .ref (g.2.1 94)), (3, .ref (g.2.1 121)), (4, .int x4)] [.int ((b2i s2)), .int s1, .ref (g.2.1 0)] M := by
    intro s1 s2 M h
    unfold F_LAWc_1158_j1179 at h
    refine G_aload_n rfl 3 rfl K dL_1179 ?_
    obtain ⟨r1, e1, h⟩ := wpO_bind h
    refine G_callH [.ref (g.2.1 0), .int s1, .int ((b2i s2)), .ref (g.2.1 121)] [] K dL_1180 wv_1077 yd_L_lots (by decide) ⟨by show C + 0 + 1 ≤ 601024; omega, by show S + 0 + 6 ≤ 7293034; omega⟩ rfl rfl (Nat.le_of_ble_eq_true rfl) (K_LAW_lots l g htr s1 ((b2i s2)) M _ _ e1) ?_
    refine G_istore K dL_1183 (Nat.le_of_ble_eq_true rfl) rfl ?_
    refine G_aload_n rfl 3 rfl K dL_1185 ?_
    refine G_aload_n rfl 1 rfl K dL_1186 ?_
    refine G_iload 5 rfl K dL_1187 ?_
    refine G_iconst (v := 1) rfl K dL_1189 ?_
    refine G_iadd K dL_1190 ?_
    obtain ⟨hin, h⟩ := wpO_g h
    refine G_sld K hX hbl hbA dL_1191 hin ?_
    refine G_aload_n rfl 1 rfl K dL_1192 ?_
    refine G_iload 5 rfl K dL_1193 ?_
    refine G_iconst (v := 2) rfl K dL_1195 ?_
    refine G_iadd K dL_1196 ?_
    obtain ⟨hin, h⟩ := wpO_g h
    refine G_sld K hX hbl hbA dL_1197 hin ?_
    refine G_if_eq (tgt := 1205) K dL_1198 (by decide) (fun hc => ?_) (fun hc => ?_)
    · have h := wpO_t h hc
      refine G_iconst (v := 0) rfl K dL_1205 ?_
      exact G_lv (lv' := [(0, .ref b), (1, .ref (g.2.1 0)), (2, .ref (g.2.1 94)), (3, .ref (g.2.1 121)), (4, .int x4), (5, .int r1.1)]) [1, 2, 3, 4, 5, 0] rfl (J1206 r1.1 (xs (x4 + 1).toNatClampNeg) false r1.2 h)
    · have h := wpO_f h hc
      refine G_iconst (v := 1) rfl K dL_1201 ?_
      refine G_goto (tgt := 1206) K dL_1202 (by decide) ?_
      exact G_lv (lv' := [(0, .ref b), (1, .ref (g.2.1 0)), (2, .ref (g.2.1 94)), (3, .ref (g.2.1 121)), (4, .int x4), (5, .int r1.1)]) [1, 2, 3, 4, 5, 0] rfl (J1206 r1.1 (xs (x4 + 1).toNatClampNeg) true r1.2 h)
  unfold F_LAWc_1158 at h
  refine G_aload_n rfl 1 rfl K dL_1158 ?_
  refine G_aload_n rfl 0 rfl K dL_1159 ?_
  refine G_iload 4 rfl K dL_1160 ?_
  refine G_iconst (v := 1) rfl K dL_1162 ?_
  refine G_iadd K dL_1163 ?_
  obtain ⟨hin, h⟩ := wpO_g h
  refine G_sld K hX hbl hbA dL_1164 hin ?_
  refine G_aload_n rfl 0 rfl K dL_1165 ?_
  refine G_iload 4 rfl K dL_1166 ?_
  refine G_iconst (v := 2) rfl K dL_1168 ?_
  refine G_iadd K dL_1169 ?_
  obtain ⟨hin, h⟩ := wpO_g h
  refine G_sld K hX hbl hbA dL_1170 hin ?_
  refine G_if_eq (tgt := 1178) K dL_1171 (by decide) (fun hc => ?_) (fun hc => ?_)
  · have h := wpO_t h hc
    refine G_iconst (v := 0) rfl K dL_1178 ?_
    exact J1179 (xs (x4 + 1).toNatClampNeg) false M h
  · have h := wpO_f h hc
    refine G_iconst (v := 1) rfl K dL_1174 ?_
    refine G_goto (tgt := 1179) K dL_1175 (by decide) ?_
    exact J1179 (xs (x4 + 1).toNatClampNeg) true M h
def F_LAWc_1241 (xs : Nat → Int32) (L : Nat) (x4 : Int32) (M : Mem) : Option Mem :=
  (F_KW_once M).bind fun r1 => (F_MO_once M).bind fun r2 => if r1 = r2.1 then some r2.2 else none
set_option maxRecDepth 100000 in
set_option maxHeartbeats 8000000 in
theorem K_LAWc_1241 {p : Program} {l : Launch} {e : Env} {s : State} {m : MethodId} {args : Array Value} {below : List Frame} {meth : Method} {c : Code} {g : GB} {Q : State → Prop} {b L : Nat} {xs : Nat → Int32} (K : KF p l s m args meth c g code 8 "KeptWellLaw") (htr : l.stackTraces = false) (hX : va_X b L xs s s.heap) (hbl : b < s.heap.size) (hbA : ¬ AS g s.heap.size b) (C S : Nat) (hC : C + 8 ≤ 601024) (hS : S + 48 ≤ 7293034) (x4 : Int32) (M : Mem) (PHI : Mem → Prop) (hnext : ∀ M, PHI M → GG p l e room_1 s m args below meth c g 8 Q (C + 8) (S + 48) 2782 [(0, .ref b), (1, .ref (g.2.1 0)), (2, .ref (g.2.1 94)), (3, .ref (g.2.1 121)), (4, .int x4)] [] M) (h : wpO (F_LAWc_1241 xs L x4 M) PHI) : GG p l e room_1 s m args below meth c g 8 Q C S 1241 [(0, .ref b), (1, .ref (g.2.1 0)), (2, .ref (g.2.1 94)), (3, .ref (g.2.1 121)), (4, .int x4)] [] M := by
  unfold F_LAWc_1241 at h
  refine G_aload_n rfl 1 rfl K dL_1241 ?_
  obtain ⟨r1, e1, h⟩ := wpO_bind h
  refine G_callVi (ci := 11) [] [] K dL_1242 wv_564 yd_X11_once (Nat.le_of_ble_eq_true rfl) (sh_0 _ _) rfl (by decide) ⟨by show C + 0 + 0 ≤ 601024; omega, by show S + 0 + 0 ≤ 7293034; omega⟩ rfl rfl (Nat.le_of_ble_eq_true rfl) (K_KW_once l g htr  M _ e1) ?_
  refine G_aload_n rfl 2 rfl K dL_1245 ?_
  obtain ⟨r2, e2, h⟩ := wpO_bind h
  refine G_callVi (ci := 12) [] [.int r1] K dL_1246 wv_1853 yd_X12_once (Nat.le_of_ble_eq_true rfl) (sh_94 _ _) rfl (by decide) ⟨by show C + 0 + 0 ≤ 601024; omega, by show S + 0 + 0 ≤ 7293034; omega⟩ rfl rfl (Nat.le_of_ble_eq_true rfl) (K_MO_once l g htr  M _ _ e2) ?_
  refine G_icmp_eq (tgt := 2782) K dL_1249 (by decide) (fun hc => ?_) (fun hc => ?_)
  · have h := wpO_t h hc
    exact G_wide (k := C + 8) (n := S + 48) (by show C + 0 ≤ C + 8; omega) (by show S + 0 ≤ S + 48; omega) (hnext r2.2 (wpO_some h))
  · have h := wpO_f h hc
    refine G_iconst (v := 0) rfl K dL_1252 ?_
    exact wpO_none h
def F_LAWc_1254_j1299 (xs : Nat → Int32) (L : Nat) (x4 : Int32) (s0 : Int32) (s2 : Int32) (s3 : Bool) (M : Mem) : Option (Mem) :=
  (F_MO_corner s2 ((b2i s3)) M).bind fun r2 => if s0 = r2.1 then some r2.2 else none
def F_LAWc_1254_j1275 (xs : Nat → Int32) (L : Nat) (x4 : Int32) (s1 : Int32) (s2 : Bool) (M : Mem) : Option (Mem) :=
  (F_KW_corner s1 ((b2i s2)) M).bind fun r1 => if inb (x4 + 1) L then if inb (x4 + 2) L then if (xs (x4 + 2).toNatClampNeg) = 0 then F_LAWc_1254_j1299 xs L x4 r1.1 (xs (x4 + 1).toNatClampNeg) false r1.2 else F_LAWc_1254_j1299 xs L x4 r1.1 (xs (x4 + 1).toNatClampNeg) true r1.2 else none else none
def F_LAWc_1254 (xs : Nat → Int32) (L : Nat) (x4 : Int32) (M : Mem) : Option Mem :=
  if inb (x4 + 1) L then if inb (x4 + 2) L then if (xs (x4 + 2).toNatClampNeg) = 0 then F_LAWc_1254_j1275 xs L x4 (xs (x4 + 1).toNatClampNeg) false M else F_LAWc_1254_j1275 xs L x4 (xs (x4 + 1).toNatClampNeg) true M else none else none
set_option maxRecDepth 100000 in
set_option maxHeartbeats 8000000 in
theorem K_LAWc_1254 {p : Program} {l : Launch} {e : Env} {s : State} {m : MethodId} {args : Array Value} {below : List Frame} {meth : Method} {c : Code} {g : GB} {Q : State → Prop} {b L : Nat} {xs : Nat → Int32} (K : KF p l s m args meth c g code 8 "KeptWellLaw") (htr : l.stackTraces = false) (hX : va_X b L xs s s.heap) (hbl : b < s.heap.size) (hbA : ¬ AS g s.heap.size b) (C S : Nat) (hC : C + 8 ≤ 601024) (hS : S + 48 ≤ 7293034) (x4 : Int32) (M : Mem) (PHI : Mem → Prop) (hnext : ∀ M, PHI M → GG p l e room_1 s m args below meth c g 8 Q (C + 8) (S + 48) 2782 [(0, .ref b), (1, .ref (g.2.1 0)), (2, .ref (g.2.1 94)), (3, .ref (g.2.1 121)), (4, .int x4)] [] M) (h : wpO (F_LAWc_1254 xs L x4 M) PHI) : GG p l e room_1 s m args below meth c g 8 Q C S 1254 [(0, .ref b), (1, .ref (g.2.1 0)), (2, .ref (g.2.1 94)), (3, .ref (g.2.1 121)), (4, .int x4)] [] M := by
  have J1299 : ∀ (s0 : Int32) (s2 : Int32) (s3 : Bool) (M : Mem), wpO (F_LAWc_1254_j1299 xs L x4 s0 s2 s3 M) PHI → GG p l e room_1 s m args below meth c g 8 Q (C + 0) (S + 0) 1299 [(0, .ref b), (1, .ref (g.2.1 0)), (2, .ref (g.2.1 94)), (3, .ref (g.2.1 121)), (4, .int x4)] [.int ((b2i s3)), .int s2, .ref (g.2.1 94), .int s0] M := by
    intro s0 s2 s3 M h
    unfold F_LAWc_1254_j1299 at h
    obtain ⟨r2, e2, h⟩ := wpO_bind h
    refine G_callVi (ci := 12) [.int s2, .int ((b2i s3))] [.int s0] K dL_1299 wv_1857 yd_X12_corner (Nat.le_of_ble_eq_true rfl) (sh_94 _ _) rfl (by decide) ⟨by show C + 0 + 0 ≤ 601024; omega, by show S + 0 + 0 ≤ 7293034; omega⟩ rfl rfl (Nat.le_of_ble_eq_true rfl) (K_MO_corner l g htr s2 ((b2i s3)) M _ _ e2) ?_
    refine G_icmp_eq (tgt := 2782) K dL_1302 (by decide) (fun hc => ?_) (fun hc => ?_)
    · have h := wpO_t h hc
      exact G_wide (k := C + 8) (n := S + 48) (by show C + 0 ≤ C + 8; omega) (by show S + 0 ≤ S + 48; omega) (hnext r2.2 (wpO_some h))
    · have h := wpO_f h hc
      refine G_iconst (v := 0) rfl K dL_1305 ?_
      exact wpO_none h
  have J1275 : ∀ (s1 : Int32) (s2 : Bool) (M : Mem), wpO (F_LAWc_1254_j1275 xs L x4 s1 s2 M) PHI → GG p l e room_1 s m args below meth c g 8 Q (C + 0) (S + 0) 1275 [(0, .ref b), (1, .ref (g.2.1 0)), (2, .ref (g.2.1 94)), (3, .ref (g.2.1 121)), (4, .int x4)] [.int ((b2i s2)), .int s1, .ref (g.2.1 0)] M := by
    intro s1 s2 M h
    unfold F_LAWc_1254_j1275 at h
    obtain ⟨r1, e1, h⟩ := wpO_bind h
    refine G_callVi (ci := 11) [.int s1, .int ((b2i s2))] [] K dL_1275 wv_582 yd_X11_corner (Nat.le_of_ble_eq_true rfl) (sh_0 _ _) rfl (by decide) ⟨by show C + 0 + 0 ≤ 601024; omega, by show S + 0 + 0 ≤ 7293034; omega⟩ rfl rfl (Nat.le_of_ble_eq_true rfl) (K_KW_corner l g htr s1 ((b2i s2)) M _ _ e1) ?_
    refine G_aload_n rfl 2 rfl K dL_1278 ?_
    refine G_aload_n rfl 0 rfl K dL_1279 ?_
    refine G_iload 4 rfl K dL_1280 ?_
    refine G_iconst (v := 1) rfl K dL_1282 ?_
    refine G_iadd K dL_1283 ?_
    obtain ⟨hin, h⟩ := wpO_g h
    refine G_sld K hX hbl hbA dL_1284 hin ?_
    refine G_aload_n rfl 0 rfl K dL_1285 ?_
    refine G_iload 4 rfl K dL_1286 ?_
    refine G_iconst (v := 2) rfl K dL_1288 ?_
    refine G_iadd K dL_1289 ?_
    obtain ⟨hin, h⟩ := wpO_g h
    refine G_sld K hX hbl hbA dL_1290 hin ?_
    refine G_if_eq (tgt := 1298) K dL_1291 (by decide) (fun hc => ?_) (fun hc => ?_)
    · have h := wpO_t h hc
      refine G_iconst (v := 0) rfl K dL_1298 ?_
      exact J1299 r1.1 (xs (x4 + 1).toNatClampNeg) false r1.2 h
    · have h := wpO_f h hc
      refine G_iconst (v := 1) rfl K dL_1294 ?_
      refine G_goto (tgt := 1299) K dL_1295 (by decide) ?_
      exact J1299 r1.1 (xs (x4 + 1).toNatClampNeg) true r1.2 h
  unfold F_LAWc_1254 at h
  refine G_aload_n rfl 1 rfl K dL_1254 ?_
  refine G_aload_n rfl 0 rfl K dL_1255 ?_
  refine G_iload 4 rfl K dL_1256 ?_
  refine G_iconst (v := 1) rfl K dL_1258 ?_
  refine G_iadd K dL_1259 ?_
  obtain ⟨hin, h⟩ := wpO_g h
  refine G_sld K hX hbl hbA dL_1260 hin ?_
  refine G_aload_n rfl 0 rfl K dL_1261 ?_
  refine G_iload 4 rfl K dL_1262 ?_
  refine G_iconst (v := 2) rfl K dL_1264 ?_
  refine G_iadd K dL_1265 ?_
  obtain ⟨hin, h⟩ := wpO_g h
  refine G_sld K hX hbl hbA dL_1266 hin ?_
  refine G_if_eq (tgt := 1274) K dL_1267 (by decide) (fun hc => ?_) (fun hc => ?_)
  · have h := wpO_t h hc
    refine G_iconst (v := 0) rfl K dL_1274 ?_
    exact J1275 (xs (x4 + 1).toNatClampNeg) false M h
  · have h := wpO_f h hc
    refine G_iconst (v := 1) rfl K dL_1270 ?_
    refine G_goto (tgt := 1275) K dL_1271 (by decide) ?_
    exact J1275 (xs (x4 + 1).toNatClampNeg) true M h
def F_LAWc_1307_j1413 (xs : Nat → Int32) (L : Nat) (x4 : Int32) (s0 : Int64) (s1 : Int64) (M : Mem) : Option (Mem) :=
  if s0 = s1 then some M else none
def F_LAWc_1307_j1379 (xs : Nat → Int32) (L : Nat) (x4 : Int32) (x5 : Int32) (s1 : Int32) (s2 : Int32) (s3 : Int32) (s4 : Bool) (M : Mem) : Option (Mem) :=
  (F_MO_in s1 s2 s3 ((b2i s4)) M).bind fun r2 => (F_MO_thrown r2.2).bind fun r3 => if r3 = x5 then if x5 = 0 then if inb ((0 : Int32)) 1 then if r2.1 = true then F_LAWc_1307_j1413 xs L x4 (r2.2.2 121 ((0 : Int32)).toNatClampNeg) 1 r2.2 else F_LAWc_1307_j1413 xs L x4 (r2.2.2 121 ((0 : Int32)).toNatClampNeg) 0 r2.2 else none else some r2.2 else none
def F_LAWc_1307_j1340 (xs : Nat → Int32) (L : Nat) (x4 : Int32) (s1 : Int32) (s2 : Int32) (s3 : Int32) (s4 : Bool) (M : Mem) : Option (Mem) :=
  (F_LAW_in s1 s2 s3 ((b2i s4)) M).bind fun r1 => if inb (x4 + 1) L then if inb (x4 + 2) L then if inb (x4 + 3) L then if inb (x4 + 4) L then if (xs (x4 + 4).toNatClampNeg) = 0 then F_LAWc_1307_j1379 xs L x4 r1.1 (xs (x4 + 1).toNatClampNeg) (xs (x4 + 2).toNatClampNeg) (xs (x4 + 3).toNatClampNeg) false r1.2 else F_LAWc_1307_j1379 xs L x4 r1.1 (xs (x4 + 1).toNatClampNeg) (xs (x4 + 2).toNatClampNeg) (xs (x4 + 3).toNatClampNeg) true r1.2 else none else none else none else none
def F_LAWc_1307 (xs : Nat → Int32) (L : Nat) (x4 : Int32) (M : Mem) : Option Mem :=
  if inb (x4 + 1) L then if inb (x4 + 2) L then if inb (x4 + 3) L then if inb (x4 + 4) L then if (xs (x4 + 4).toNatClampNeg) = 0 then F_LAWc_1307_j1340 xs L x4 (xs (x4 + 1).toNatClampNeg) (xs (x4 + 2).toNatClampNeg) (xs (x4 + 3).toNatClampNeg) false M else F_LAWc_1307_j1340 xs L x4 (xs (x4 + 1).toNatClampNeg) (xs (x4 + 2).toNatClampNeg) (xs (x4 + 3).toNatClampNeg) true M else none else none else none else none
set_option maxRecDepth 100000 in
set_option maxHeartbeats 8000000 in
theorem K_LAWc_1307 {p : Program} {l : Launch} {e : Env} {s : State} {m : MethodId} {args : Array Value} {below : List Frame} {meth : Method} {c : Code} {g : GB} {Q : State → Prop} {b L : Nat} {xs : Nat → Int32} (K : KF p l s m args meth c g code 8 "KeptWellLaw") (htr : l.stackTraces = false) (hX : va_X b L xs s s.heap) (hbl : b < s.heap.size) (hbA : ¬ AS g s.heap.size b) (C S : Nat) (hC : C + 8 ≤ 601024) (hS : S + 48 ≤ 7293034) (x4 : Int32) (M : Mem) (PHI : Mem → Prop) (hnext : ∀ M, PHI M → GG p l e room_1 s m args below meth c g 8 Q (C + 8) (S + 48) 2782 [(0, .ref b), (1, .ref (g.2.1 0)), (2, .ref (g.2.1 94)), (3, .ref (g.2.1 121)), (4, .int x4)] [] M) (h : wpO (F_LAWc_1307 xs L x4 M) PHI) : GG p l e room_1 s m args below meth c g 8 Q C S 1307 [(0, .ref b), (1, .ref (g.2.1 0)), (2, .ref (g.2.1 94)), (3, .ref (g.2.1 121)), (4, .int x4)] [] M := by
  have J1413 : ∀ (s0 : Int64) (s1 : Int64) (M : Mem), wpO (F_LAWc_1307_j1413 xs L x4 s0 s1 M) PHI → GG p l e room_1 s m args below meth c g 8 Q (C + 3) (S + 18) 1413 [(0, .ref b), (1, .ref (g.2.1 0)), (2, .ref (g.2.1 94)), (3, .ref (g.2.1 121)), (4, .int x4)] [.long s1, .long s0] M := by
    intro s0 s1 M h
    unfold F_LAWc_1307_j1413 at h
    refine G_lcmp_eq (tgt := 1419) K dL_1413 dL_1414 (by decide) (fun hc => ?_) (fun hc => ?_)
    · have h := wpO_t h hc
      refine G_goto (tgt := 2782) K dL_1419 (by decide) ?_
      exact G_wide (k := C + 8) (n := S + 48) (by show C + 3 ≤ C + 8; omega) (by show S + 18 ≤ S + 48; omega) (hnext M (wpO_some h))
    · have h := wpO_f h hc
      refine G_iconst (v := 0) rfl K dL_1417 ?_
      exact wpO_none h
  have J1379 : ∀ (x5 : Int32) (s1 : Int32) (s2 : Int32) (s3 : Int32) (s4 : Bool) (M : Mem), wpO (F_LAWc_1307_j1379 xs L x4 x5 s1 s2 s3 s4 M) PHI → GG p l e room_1 s m args below meth c g 8 Q (C + 3) (S + 18) 1379 [(0, .ref b), (1, .ref (g.2.1 0)), (2, .ref (g.2.1 94)), (3, .ref (g.2.1 121)), (4, .int x4), (5, .int x5)] [.int ((b2i s4)), .int s3, .int s2, .int s1, .ref (g.2.1 94)] M := by
    intro x5 s1 s2 s3 s4 M h
    unfold F_LAWc_1307_j1379 at h
    obtain ⟨r2, e2, h⟩ := wpO_bind h
    refine G_callVi (ci := 12) [.int s1, .int s2, .int s3, .int ((b2i s4))] [] K dL_1379 wv_1871 yd_X12_in (Nat.le_of_ble_eq_true rfl) (sh_94 _ _) rfl (by decide) ⟨by show C + 3 + 0 ≤ 601024; omega, by show S + 18 + 0 ≤ 7293034; omega⟩ rfl rfl (Nat.le_of_ble_eq_true rfl) (K_MO_in l g htr s1 s2 s3 ((b2i s4)) M _ _ e2) ?_
    refine G_istore K dL_1382 (Nat.le_of_ble_eq_true rfl) rfl ?_
    refine G_aload_n rfl 3 rfl K dL_1384 ?_
    obtain ⟨r3, e3, h⟩ := wpO_bind h
    refine G_callVi (ci := 12) [] [] K dL_1385 wv_1465 yd_X12_thrown (Nat.le_of_ble_eq_true rfl) (sh_94 _ _) rfl (by decide) ⟨by show C + 3 + 0 ≤ 601024; omega, by show S + 18 + 0 ≤ 7293034; omega⟩ rfl rfl (Nat.le_of_ble_eq_true rfl) (K_MO_thrown l g htr  r2.2 _ e3) ?_
    refine G_iload 6 rfl K dL_1388 ?_
    refine G_icmp_eq (tgt := 1395) K dL_1390 (by decide) (fun hc => ?_) (fun hc => ?_)
    · have h := wpO_t h hc
      refine G_iload 6 rfl K dL_1395 ?_
      refine G_if_ne (tgt := 1419) K dL_1397 (by decide) (fun hc => ?_) (fun hc => ?_)
      · have h := wpO_f h hc
        refine G_goto (tgt := 2782) K dL_1419 (by decide) ?_
        exact G_wide (k := C + 8) (n := S + 48) (by show C + 3 ≤ C + 8; omega) (by show S + 18 ≤ S + 48; omega) (G_lv (lv' := [(0, .ref b), (1, .ref (g.2.1 0)), (2, .ref (g.2.1 94)), (3, .ref (g.2.1 121)), (4, .int x4)]) [1, 2, 3, 4, 5] rfl (hnext r2.2 (wpO_some h)))
      · have h := wpO_t h hc
        refine G_aload_n rfl 4 rfl K dL_1400 ?_
        refine G_iconst (v := 0) rfl K dL_1401 ?_
        obtain ⟨hin, h⟩ := wpO_g h
        refine G_lald K dL_1402 (Nat.le_of_ble_eq_true rfl) (sh_121 _ _) hin ?_
        refine G_iload 0 rfl K dL_1403 ?_
        refine G_ifb_eq (tgt := 1412) K dL_1405 (by decide) (fun hc => ?_) (fun hc => ?_)
        · have h := wpO_bf h hc
          refine G_lconst (v := 0) rfl K dL_1412 ?_
          exact G_lv (lv' := [(0, .ref b), (1, .ref (g.2.1 0)), (2, .ref (g.2.1 94)), (3, .ref (g.2.1 121)), (4, .int x4)]) [1, 2, 3, 4, 5] rfl (J1413 (r2.2.2 121 ((0 : Int32)).toNatClampNeg) 0 r2.2 h)
        · have h := wpO_t h hc
          refine G_lconst (v := 1) rfl K dL_1408 ?_
          refine G_goto (tgt := 1413) K dL_1409 (by decide) ?_
          exact G_lv (lv' := [(0, .ref b), (1, .ref (g.2.1 0)), (2, .ref (g.2.1 94)), (3, .ref (g.2.1 121)), (4, .int x4)]) [1, 2, 3, 4, 5] rfl (J1413 (r2.2.2 121 ((0 : Int32)).toNatClampNeg) 1 r2.2 h)
    · have h := wpO_f h hc
      refine G_iconst (v := 0) rfl K dL_1393 ?_
      exact wpO_none h
  have J1340 : ∀ (s1 : Int32) (s2 : Int32) (s3 : Int32) (s4 : Bool) (M : Mem), wpO (F_LAWc_1307_j1340 xs L x4 s1 s2 s3 s4 M) PHI → GG p l e room_1 s m args below meth c g 8 Q (C + 0) (S + 0) 1340 [(0, .ref b), (1, .ref (g.2.1 0)), (2, .ref (g.2.1 94)), (3, .ref (g.2.1 121)), (4, .int x4)] [.int ((b2i s4)), .int s3, .int s2, .int s1, .ref (g.2.1 0)] M := by
    intro s1 s2 s3 s4 M h
    unfold F_LAWc_1307_j1340 at h
    refine G_aload_n rfl 3 rfl K dL_1340 ?_
    obtain ⟨r1, e1, h⟩ := wpO_bind h
    refine G_callH [.ref (g.2.1 0), .int s1, .int s2, .int s3, .int ((b2i s4)), .ref (g.2.1 121)] [] K dL_1341 wv_1119 yd_L_in (by decide) ⟨by show C + 0 + 3 ≤ 601024; omega, by show S + 0 + 18 ≤ 7293034; omega⟩ rfl rfl (Nat.le_of_ble_eq_true rfl) (K_LAW_in l g htr s1 s2 s3 ((b2i s4)) M _ _ e1) ?_
    refine G_istore K dL_1344 (Nat.le_of_ble_eq_true rfl) rfl ?_
    refine G_aload_n rfl 3 rfl K dL_1346 ?_
    refine G_aload_n rfl 1 rfl K dL_1347 ?_
    refine G_iload 5 rfl K dL_1348 ?_
    refine G_iconst (v := 1) rfl K dL_1350 ?_
    refine G_iadd K dL_1351 ?_
    obtain ⟨hin, h⟩ := wpO_g h
    refine G_sld K hX hbl hbA dL_1352 hin ?_
    refine G_aload_n rfl 1 rfl K dL_1353 ?_
    refine G_iload 5 rfl K dL_1354 ?_
    refine G_iconst (v := 2) rfl K dL_1356 ?_
    refine G_iadd K dL_1357 ?_
    obtain ⟨hin, h⟩ := wpO_g h
    refine G_sld K hX hbl hbA dL_1358 hin ?_
    refine G_aload_n rfl 1 rfl K dL_1359 ?_
    refine G_iload 5 rfl K dL_1360 ?_
    refine G_iconst (v := 3) rfl K dL_1362 ?_
    refine G_iadd K dL_1363 ?_
    obtain ⟨hin, h⟩ := wpO_g h
    refine G_sld K hX hbl hbA dL_1364 hin ?_
    refine G_aload_n rfl 1 rfl K dL_1365 ?_
    refine G_iload 5 rfl K dL_1366 ?_
    refine G_iconst (v := 4) rfl K dL_1368 ?_
    refine G_iadd K dL_1369 ?_
    obtain ⟨hin, h⟩ := wpO_g h
    refine G_sld K hX hbl hbA dL_1370 hin ?_
    refine G_if_eq (tgt := 1378) K dL_1371 (by decide) (fun hc => ?_) (fun hc => ?_)
    · have h := wpO_t h hc
      refine G_iconst (v := 0) rfl K dL_1378 ?_
      exact G_lv (lv' := [(0, .ref b), (1, .ref (g.2.1 0)), (2, .ref (g.2.1 94)), (3, .ref (g.2.1 121)), (4, .int x4), (5, .int r1.1)]) [1, 2, 3, 4, 5, 0] rfl (J1379 r1.1 (xs (x4 + 1).toNatClampNeg) (xs (x4 + 2).toNatClampNeg) (xs (x4 + 3).toNatClampNeg) false r1.2 h)
    · have h := wpO_f h hc
      refine G_iconst (v := 1) rfl K dL_1374 ?_
      refine G_goto (tgt := 1379) K dL_1375 (by decide) ?_
      exact G_lv (lv' := [(0, .ref b), (1, .ref (g.2.1 0)), (2, .ref (g.2.1 94)), (3, .ref (g.2.1 121)), (4, .int x4), (5, .int r1.1)]) [1, 2, 3, 4, 5, 0] rfl (J1379 r1.1 (xs (x4 + 1).toNatClampNeg) (xs (x4 + 2).toNatClampNeg) (xs (x4 + 3).toNatClampNeg) true r1.2 h)
  unfold F_LAWc_1307 at h
  refine G_aload_n rfl 1 rfl K dL_1307 ?_
  refine G_aload_n rfl 0 rfl K dL_1308 ?_
  refine G_iload 4 rfl K dL_1309 ?_
  refine G_iconst (v := 1) rfl K dL_1311 ?_
  refine G_iadd K dL_1312 ?_
  obtain ⟨hin, h⟩ := wpO_g h
  refine G_sld K hX hbl hbA dL_1313 hin ?_
  refine G_aload_n rfl 0 rfl K dL_1314 ?_
  refine G_iload 4 rfl K dL_1315 ?_
  refine G_iconst (v := 2) rfl K dL_1317 ?_
  refine G_iadd K dL_1318 ?_
  obtain ⟨hin, h⟩ := wpO_g h
  refine G_sld K hX hbl hbA dL_1319 hin ?_
  refine G_aload_n rfl 0 rfl K dL_1320 ?_
  refine G_iload 4 rfl K dL_1321 ?_
  refine G_iconst (v := 3) rfl K dL_1323 ?_
  refine G_iadd K dL_1324 ?_
  obtain ⟨hin, h⟩ := wpO_g h
  refine G_sld K hX hbl hbA dL_1325 hin ?_
  refine G_aload_n rfl 0 rfl K dL_1326 ?_
  refine G_iload 4 rfl K dL_1327 ?_
  refine G_iconst (v := 4) rfl K dL_1329 ?_
  refine G_iadd K dL_1330 ?_
  obtain ⟨hin, h⟩ := wpO_g h
  refine G_sld K hX hbl hbA dL_1331 hin ?_
  refine G_if_eq (tgt := 1339) K dL_1332 (by decide) (fun hc => ?_) (fun hc => ?_)
  · have h := wpO_t h hc
    refine G_iconst (v := 0) rfl K dL_1339 ?_
    exact J1340 (xs (x4 + 1).toNatClampNeg) (xs (x4 + 2).toNatClampNeg) (xs (x4 + 3).toNatClampNeg) false M h
  · have h := wpO_f h hc
    refine G_iconst (v := 1) rfl K dL_1335 ?_
    refine G_goto (tgt := 1340) K dL_1336 (by decide) ?_
    exact J1340 (xs (x4 + 1).toNatClampNeg) (xs (x4 + 2).toNatClampNeg) (xs (x4 + 3).toNatClampNeg) true M h
def F_LAWc_1422 (xs : Nat → Int32) (L : Nat) (x4 : Int32) (M : Mem) : Option Mem :=
  if inb (x4 + 1) L then if inb (x4 + 2) L then if inb (x4 + 3) L then if inb (x4 + 4) L then (F_LAW_mild (xs (x4 + 1).toNatClampNeg) (xs (x4 + 2).toNatClampNeg) (xs (x4 + 3).toNatClampNeg) (xs (x4 + 4).toNatClampNeg) M).bind fun r1 => if inb (x4 + 1) L then if inb (x4 + 2) L then if inb (x4 + 3) L then if inb (x4 + 4) L then (F_MO_mild (xs (x4 + 1).toNatClampNeg) (xs (x4 + 2).toNatClampNeg) (xs (x4 + 3).toNatClampNeg) (xs (x4 + 4).toNatClampNeg) r1.2).bind fun r2 => (F_MO_thrown r2.2).bind fun r3 => if r3 = r1.1 then if r1.1 = 0 then if inb ((0 : Int32)) 1 then if (r2.2.2 121 ((0 : Int32)).toNatClampNeg) = r2.1.toInt64 then some r2.2 else none else none else some r2.2 else none else none else none else none else none else none else none else none else none
set_option maxRecDepth 100000 in
set_option maxHeartbeats 8000000 in
theorem K_LAWc_1422 {p : Program} {l : Launch} {e : Env} {s : State} {m : MethodId} {args : Array Value} {below : List Frame} {meth : Method} {c : Code} {g : GB} {Q : State → Prop} {b L : Nat} {xs : Nat → Int32} (K : KF p l s m args meth c g code 8 "KeptWellLaw") (htr : l.stackTraces = false) (hX : va_X b L xs s s.heap) (hbl : b < s.heap.size) (hbA : ¬ AS g s.heap.size b) (C S : Nat) (hC : C + 8 ≤ 601024) (hS : S + 48 ≤ 7293034) (x4 : Int32) (M : Mem) (PHI : Mem → Prop) (hnext : ∀ M, PHI M → GG p l e room_1 s m args below meth c g 8 Q (C + 8) (S + 48) 2782 [(0, .ref b), (1, .ref (g.2.1 0)), (2, .ref (g.2.1 94)), (3, .ref (g.2.1 121)), (4, .int x4)] [] M) (h : wpO (F_LAWc_1422 xs L x4 M) PHI) : GG p l e room_1 s m args below meth c g 8 Q C S 1422 [(0, .ref b), (1, .ref (g.2.1 0)), (2, .ref (g.2.1 94)), (3, .ref (g.2.1 121)), (4, .int x4)] [] M := by
  unfold F_LAWc_1422 at h
  refine G_aload_n rfl 1 rfl K dL_1422 ?_
  refine G_aload_n rfl 0 rfl K dL_1423 ?_
  refine G_iload 4 rfl K dL_1424 ?_
  refine G_iconst (v := 1) rfl K dL_1426 ?_
  refine G_iadd K dL_1427 ?_
  obtain ⟨hin, h⟩ := wpO_g h
  refine G_sld K hX hbl hbA dL_1428 hin ?_
  refine G_aload_n rfl 0 rfl K dL_1429 ?_
  refine G_iload 4 rfl K dL_1430 ?_
  refine G_iconst (v := 2) rfl K dL_1432 ?_
  refine G_iadd K dL_1433 ?_
  obtain ⟨hin, h⟩ := wpO_g h
  refine G_sld K hX hbl hbA dL_1434 hin ?_
  refine G_aload_n rfl 0 rfl K dL_1435 ?_
  refine G_iload 4 rfl K dL_1436 ?_
  refine G_iconst (v := 3) rfl K dL_1438 ?_
  refine G_iadd K dL_1439 ?_
  obtain ⟨hin, h⟩ := wpO_g h
  refine G_sld K hX hbl hbA dL_1440 hin ?_
  refine G_aload_n rfl 0 rfl K dL_1441 ?_
  refine G_iload 4 rfl K dL_1442 ?_
  refine G_iconst (v := 4) rfl K dL_1444 ?_
  refine G_iadd K dL_1445 ?_
  obtain ⟨hin, h⟩ := wpO_g h
  refine G_sld K hX hbl hbA dL_1446 hin ?_
  refine G_aload_n rfl 3 rfl K dL_1447 ?_
  obtain ⟨r1, e1, h⟩ := wpO_bind h
  refine G_callH [.ref (g.2.1 0), .int (xs (x4 + 1).toNatClampNeg), .int (xs (x4 + 2).toNatClampNeg), .int (xs (x4 + 3).toNatClampNeg), .int (xs (x4 + 4).toNatClampNeg), .ref (g.2.1 121)] [] K dL_1448 wv_1144 yd_L_mild (by decide) ⟨by show C + 0 + 4 ≤ 601024; omega, by show S + 0 + 24 ≤ 7293034; omega⟩ rfl rfl (Nat.le_of_ble_eq_true rfl) (K_LAW_mild l g htr (xs (x4 + 1).toNatClampNeg) (xs (x4 + 2).toNatClampNeg) (xs (x4 + 3).toNatClampNeg) (xs (x4 + 4).toNatClampNeg) M _ _ e1) ?_
  refine G_istore K dL_1451 (Nat.le_of_ble_eq_true rfl) rfl ?_
  refine G_aload_n rfl 3 rfl K dL_1453 ?_
  refine G_aload_n rfl 1 rfl K dL_1454 ?_
  refine G_iload 5 rfl K dL_1455 ?_
  refine G_iconst (v := 1) rfl K dL_1457 ?_
  refine G_iadd K dL_1458 ?_
  obtain ⟨hin, h⟩ := wpO_g h
  refine G_sld K hX hbl hbA dL_1459 hin ?_
  refine G_aload_n rfl 1 rfl K dL_1460 ?_
  refine G_iload 5 rfl K dL_1461 ?_
  refine G_iconst (v := 2) rfl K dL_1463 ?_
  refine G_iadd K dL_1464 ?_
  obtain ⟨hin, h⟩ := wpO_g h
  refine G_sld K hX hbl hbA dL_1465 hin ?_
  refine G_aload_n rfl 1 rfl K dL_1466 ?_
  refine G_iload 5 rfl K dL_1467 ?_
  refine G_iconst (v := 3) rfl K dL_1469 ?_
  refine G_iadd K dL_1470 ?_
  obtain ⟨hin, h⟩ := wpO_g h
  refine G_sld K hX hbl hbA dL_1471 hin ?_
  refine G_aload_n rfl 1 rfl K dL_1472 ?_
  refine G_iload 5 rfl K dL_1473 ?_
  refine G_iconst (v := 4) rfl K dL_1475 ?_
  refine G_iadd K dL_1476 ?_
  obtain ⟨hin, h⟩ := wpO_g h
  refine G_sld K hX hbl hbA dL_1477 hin ?_
  obtain ⟨r2, e2, h⟩ := wpO_bind h
  refine G_callVi (ci := 12) [.int (xs (x4 + 1).toNatClampNeg), .int (xs (x4 + 2).toNatClampNeg), .int (xs (x4 + 3).toNatClampNeg), .int (xs (x4 + 4).toNatClampNeg)] [] K dL_1478 wv_1882 yd_X12_mild (Nat.le_of_ble_eq_true rfl) (sh_94 _ _) rfl (by decide) ⟨by show C + 4 + 0 ≤ 601024; omega, by show S + 24 + 0 ≤ 7293034; omega⟩ rfl rfl (Nat.le_of_ble_eq_true rfl) (K_MO_mild l g htr (xs (x4 + 1).toNatClampNeg) (xs (x4 + 2).toNatClampNeg) (xs (x4 + 3).toNatClampNeg) (xs (x4 + 4).toNatClampNeg) r1.2 _ _ e2) ?_
  refine G_istore K dL_1481 (Nat.le_of_ble_eq_true rfl) rfl ?_
  refine G_aload_n rfl 4 rfl K dL_1483 ?_
  obtain ⟨r3, e3, h⟩ := wpO_bind h
  refine G_callVi (ci := 12) [] [] K dL_1484 wv_1465 yd_X12_thrown (Nat.le_of_ble_eq_true rfl) (sh_94 _ _) rfl (by decide) ⟨by show C + 4 + 0 ≤ 601024; omega, by show S + 24 + 0 ≤ 7293034; omega⟩ rfl rfl (Nat.le_of_ble_eq_true rfl) (K_MO_thrown l g htr  r2.2 _ e3) ?_
  refine G_iload 1 rfl K dL_1487 ?_
  refine G_icmp_eq (tgt := 1494) K dL_1489 (by decide) (fun hc => ?_) (fun hc => ?_)
  · have h := wpO_t h hc
    refine G_iload 1 rfl K dL_1494 ?_
    refine G_if_ne (tgt := 1511) K dL_1496 (by decide) (fun hc => ?_) (fun hc => ?_)
    · have h := wpO_f h hc
      refine G_goto (tgt := 2782) K dL_1511 (by decide) ?_
      exact G_wide (k := C + 8) (n := S + 48) (by show C + 4 ≤ C + 8; omega) (by show S + 24 ≤ S + 48; omega) (G_lv (lv' := [(0, .ref b), (1, .ref (g.2.1 0)), (2, .ref (g.2.1 94)), (3, .ref (g.2.1 121)), (4, .int x4)]) [2, 3, 4, 5, 6] rfl (hnext r2.2 (wpO_some h)))
    · have h := wpO_t h hc
      refine G_aload_n rfl 5 rfl K dL_1499 ?_
      refine G_iconst (v := 0) rfl K dL_1500 ?_
      obtain ⟨hin, h⟩ := wpO_g h
      refine G_lald K dL_1501 (Nat.le_of_ble_eq_true rfl) (sh_121 _ _) hin ?_
      refine G_iload 0 rfl K dL_1502 ?_
      refine G_i2l K dL_1504 ?_
      refine G_lcmp_eq (tgt := 1511) K dL_1505 dL_1506 (by decide) (fun hc => ?_) (fun hc => ?_)
      · have h := wpO_t h hc
        refine G_goto (tgt := 2782) K dL_1511 (by decide) ?_
        exact G_wide (k := C + 8) (n := S + 48) (by show C + 4 ≤ C + 8; omega) (by show S + 24 ≤ S + 48; omega) (G_lv (lv' := [(0, .ref b), (1, .ref (g.2.1 0)), (2, .ref (g.2.1 94)), (3, .ref (g.2.1 121)), (4, .int x4)]) [2, 3, 4, 5, 6] rfl (hnext r2.2 (wpO_some h)))
      · have h := wpO_f h hc
        refine G_iconst (v := 0) rfl K dL_1509 ?_
        exact wpO_none h
  · have h := wpO_f h hc
    refine G_iconst (v := 0) rfl K dL_1492 ?_
    exact wpO_none h
def F_LAWc_1514 (xs : Nat → Int32) (L : Nat) (x4 : Int32) (M : Mem) : Option Mem :=
  if inb (x4 + 1) L then if inb (x4 + 2) L then if inb (x4 + 3) L then (F_LAW_edge (xs (x4 + 1).toNatClampNeg) (xs (x4 + 2).toNatClampNeg) (xs (x4 + 3).toNatClampNeg) M).bind fun r1 => if inb (x4 + 1) L then if inb (x4 + 2) L then if inb (x4 + 3) L then (F_MO_edge (xs (x4 + 1).toNatClampNeg) (xs (x4 + 2).toNatClampNeg) (xs (x4 + 3).toNatClampNeg) r1.2).bind fun r2 => (F_MO_thrown r2.2).bind fun r3 => if r3 = r1.1 then if r1.1 = 0 then if inb ((0 : Int32)) 1 then if (r2.2.2 121 ((0 : Int32)).toNatClampNeg) = r2.1.toInt64 then some r2.2 else none else none else some r2.2 else none else none else none else none else none else none else none
set_option maxRecDepth 100000 in
set_option maxHeartbeats 8000000 in
theorem K_LAWc_1514 {p : Program} {l : Launch} {e : Env} {s : State} {m : MethodId} {args : Array Value} {below : List Frame} {meth : Method} {c : Code} {g : GB} {Q : State → Prop} {b L : Nat} {xs : Nat → Int32} (K : KF p l s m args meth c g code 8 "KeptWellLaw") (htr : l.stackTraces = false) (hX : va_X b L xs s s.heap) (hbl : b < s.heap.size) (hbA : ¬ AS g s.heap.size b) (C S : Nat) (hC : C + 8 ≤ 601024) (hS : S + 48 ≤ 7293034) (x4 : Int32) (M : Mem) (PHI : Mem → Prop) (hnext : ∀ M, PHI M → GG p l e room_1 s m args below meth c g 8 Q (C + 8) (S + 48) 2782 [(0, .ref b), (1, .ref (g.2.1 0)), (2, .ref (g.2.1 94)), (3, .ref (g.2.1 121)), (4, .int x4)] [] M) (h : wpO (F_LAWc_1514 xs L x4 M) PHI) : GG p l e room_1 s m args below meth c g 8 Q C S 1514 [(0, .ref b), (1, .ref (g.2.1 0)), (2, .ref (g.2.1 94)), (3, .ref (g.2.1 121)), (4, .int x4)] [] M := by
  unfold F_LAWc_1514 at h
  refine G_aload_n rfl 1 rfl K dL_1514 ?_
  refine G_aload_n rfl 0 rfl K dL_1515 ?_
  refine G_iload 4 rfl K dL_1516 ?_
  refine G_iconst (v := 1) rfl K dL_1518 ?_
  refine G_iadd K dL_1519 ?_
  obtain ⟨hin, h⟩ := wpO_g h
  refine G_sld K hX hbl hbA dL_1520 hin ?_
  refine G_aload_n rfl 0 rfl K dL_1521 ?_
  refine G_iload 4 rfl K dL_1522 ?_
  refine G_iconst (v := 2) rfl K dL_1524 ?_
  refine G_iadd K dL_1525 ?_
  obtain ⟨hin, h⟩ := wpO_g h
  refine G_sld K hX hbl hbA dL_1526 hin ?_
  refine G_aload_n rfl 0 rfl K dL_1527 ?_
  refine G_iload 4 rfl K dL_1528 ?_
  refine G_iconst (v := 3) rfl K dL_1530 ?_
  refine G_iadd K dL_1531 ?_
  obtain ⟨hin, h⟩ := wpO_g h
  refine G_sld K hX hbl hbA dL_1532 hin ?_
  refine G_aload_n rfl 3 rfl K dL_1533 ?_
  obtain ⟨r1, e1, h⟩ := wpO_bind h
  refine G_callH [.ref (g.2.1 0), .int (xs (x4 + 1).toNatClampNeg), .int (xs (x4 + 2).toNatClampNeg), .int (xs (x4 + 3).toNatClampNeg), .ref (g.2.1 121)] [] K dL_1534 wv_1167 yd_L_edge (by decide) ⟨by show C + 0 + 5 ≤ 601024; omega, by show S + 0 + 30 ≤ 7293034; omega⟩ rfl rfl (Nat.le_of_ble_eq_true rfl) (K_LAW_edge l g htr (xs (x4 + 1).toNatClampNeg) (xs (x4 + 2).toNatClampNeg) (xs (x4 + 3).toNatClampNeg) M _ _ e1) ?_
  refine G_istore K dL_1537 (Nat.le_of_ble_eq_true rfl) rfl ?_
  refine G_aload_n rfl 3 rfl K dL_1539 ?_
  refine G_aload_n rfl 1 rfl K dL_1540 ?_
  refine G_iload 5 rfl K dL_1541 ?_
  refine G_iconst (v := 1) rfl K dL_1543 ?_
  refine G_iadd K dL_1544 ?_
  obtain ⟨hin, h⟩ := wpO_g h
  refine G_sld K hX hbl hbA dL_1545 hin ?_
  refine G_aload_n rfl 1 rfl K dL_1546 ?_
  refine G_iload 5 rfl K dL_1547 ?_
  refine G_iconst (v := 2) rfl K dL_1549 ?_
  refine G_iadd K dL_1550 ?_
  obtain ⟨hin, h⟩ := wpO_g h
  refine G_sld K hX hbl hbA dL_1551 hin ?_
  refine G_aload_n rfl 1 rfl K dL_1552 ?_
  refine G_iload 5 rfl K dL_1553 ?_
  refine G_iconst (v := 3) rfl K dL_1555 ?_
  refine G_iadd K dL_1556 ?_
  obtain ⟨hin, h⟩ := wpO_g h
  refine G_sld K hX hbl hbA dL_1557 hin ?_
  obtain ⟨r2, e2, h⟩ := wpO_bind h
  refine G_callVi (ci := 12) [.int (xs (x4 + 1).toNatClampNeg), .int (xs (x4 + 2).toNatClampNeg), .int (xs (x4 + 3).toNatClampNeg)] [] K dL_1558 wv_1897 yd_X12_edge (Nat.le_of_ble_eq_true rfl) (sh_94 _ _) rfl (by decide) ⟨by show C + 5 + 0 ≤ 601024; omega, by show S + 30 + 0 ≤ 7293034; omega⟩ rfl rfl (Nat.le_of_ble_eq_true rfl) (K_MO_edge l g htr (xs (x4 + 1).toNatClampNeg) (xs (x4 + 2).toNatClampNeg) (xs (x4 + 3).toNatClampNeg) r1.2 _ _ e2) ?_
  refine G_istore K dL_1561 (Nat.le_of_ble_eq_true rfl) rfl ?_
  refine G_aload_n rfl 4 rfl K dL_1563 ?_
  obtain ⟨r3, e3, h⟩ := wpO_bind h
  refine G_callVi (ci := 12) [] [] K dL_1564 wv_1465 yd_X12_thrown (Nat.le_of_ble_eq_true rfl) (sh_94 _ _) rfl (by decide) ⟨by show C + 5 + 0 ≤ 601024; omega, by show S + 30 + 0 ≤ 7293034; omega⟩ rfl rfl (Nat.le_of_ble_eq_true rfl) (K_MO_thrown l g htr  r2.2 _ e3) ?_
  refine G_iload 1 rfl K dL_1567 ?_
  refine G_icmp_eq (tgt := 1574) K dL_1569 (by decide) (fun hc => ?_) (fun hc => ?_)
  · have h := wpO_t h hc
    refine G_iload 1 rfl K dL_1574 ?_
    refine G_if_ne (tgt := 1591) K dL_1576 (by decide) (fun hc => ?_) (fun hc => ?_)
    · have h := wpO_f h hc
      refine G_goto (tgt := 2782) K dL_1591 (by decide) ?_
      exact G_wide (k := C + 8) (n := S + 48) (by show C + 5 ≤ C + 8; omega) (by show S + 30 ≤ S + 48; omega) (G_lv (lv' := [(0, .ref b), (1, .ref (g.2.1 0)), (2, .ref (g.2.1 94)), (3, .ref (g.2.1 121)), (4, .int x4)]) [2, 3, 4, 5, 6] rfl (hnext r2.2 (wpO_some h)))
    · have h := wpO_t h hc
      refine G_aload_n rfl 5 rfl K dL_1579 ?_
      refine G_iconst (v := 0) rfl K dL_1580 ?_
      obtain ⟨hin, h⟩ := wpO_g h
      refine G_lald K dL_1581 (Nat.le_of_ble_eq_true rfl) (sh_121 _ _) hin ?_
      refine G_iload 0 rfl K dL_1582 ?_
      refine G_i2l K dL_1584 ?_
      refine G_lcmp_eq (tgt := 1591) K dL_1585 dL_1586 (by decide) (fun hc => ?_) (fun hc => ?_)
      · have h := wpO_t h hc
        refine G_goto (tgt := 2782) K dL_1591 (by decide) ?_
        exact G_wide (k := C + 8) (n := S + 48) (by show C + 5 ≤ C + 8; omega) (by show S + 30 ≤ S + 48; omega) (G_lv (lv' := [(0, .ref b), (1, .ref (g.2.1 0)), (2, .ref (g.2.1 94)), (3, .ref (g.2.1 121)), (4, .int x4)]) [2, 3, 4, 5, 6] rfl (hnext r2.2 (wpO_some h)))
      · have h := wpO_f h hc
        refine G_iconst (v := 0) rfl K dL_1589 ?_
        exact wpO_none h
  · have h := wpO_f h hc
    refine G_iconst (v := 0) rfl K dL_1572 ?_
    exact wpO_none h
def F_LAWc_1594 (xs : Nat → Int32) (L : Nat) (x4 : Int32) (M : Mem) : Option Mem :=
  (F_KW_together M).bind fun r1 => (F_MO_together r1.2).bind fun r2 => if r1.1 = r2.1 then some r2.2 else none
set_option maxRecDepth 100000 in
set_option maxHeartbeats 8000000 in
theorem K_LAWc_1594 {p : Program} {l : Launch} {e : Env} {s : State} {m : MethodId} {args : Array Value} {below : List Frame} {meth : Method} {c : Code} {g : GB} {Q : State → Prop} {b L : Nat} {xs : Nat → Int32} (K : KF p l s m args meth c g code 8 "KeptWellLaw") (htr : l.stackTraces = false) (hX : va_X b L xs s s.heap) (hbl : b < s.heap.size) (hbA : ¬ AS g s.heap.size b) (C S : Nat) (hC : C + 8 ≤ 601024) (hS : S + 48 ≤ 7293034) (x4 : Int32) (M : Mem) (PHI : Mem → Prop) (hnext : ∀ M, PHI M → GG p l e room_1 s m args below meth c g 8 Q (C + 8) (S + 48) 2782 [(0, .ref b), (1, .ref (g.2.1 0)), (2, .ref (g.2.1 94)), (3, .ref (g.2.1 121)), (4, .int x4)] [] M) (h : wpO (F_LAWc_1594 xs L x4 M) PHI) : GG p l e room_1 s m args below meth c g 8 Q C S 1594 [(0, .ref b), (1, .ref (g.2.1 0)), (2, .ref (g.2.1 94)), (3, .ref (g.2.1 121)), (4, .int x4)] [] M := by
  unfold F_LAWc_1594 at h
  refine G_aload_n rfl 1 rfl K dL_1594 ?_
  obtain ⟨r1, e1, h⟩ := wpO_bind h
  refine G_callVi (ci := 11) [] [] K dL_1595 wv_463 yd_X11_together (Nat.le_of_ble_eq_true rfl) (sh_0 _ _) rfl (by decide) ⟨by show C + 0 + 0 ≤ 601024; omega, by show S + 0 + 0 ≤ 7293034; omega⟩ rfl rfl (Nat.le_of_ble_eq_true rfl) (K_KW_together l g htr  M _ _ e1) ?_
  refine G_aload_n rfl 2 rfl K dL_1598 ?_
  obtain ⟨r2, e2, h⟩ := wpO_bind h
  refine G_callVi (ci := 12) [] [.int r1.1] K dL_1599 wv_1901 yd_X12_together (Nat.le_of_ble_eq_true rfl) (sh_94 _ _) rfl (by decide) ⟨by show C + 0 + 0 ≤ 601024; omega, by show S + 0 + 0 ≤ 7293034; omega⟩ rfl rfl (Nat.le_of_ble_eq_true rfl) (K_MO_together l g htr  r1.2 _ _ e2) ?_
  refine G_icmp_eq (tgt := 2782) K dL_1602 (by decide) (fun hc => ?_) (fun hc => ?_)
  · have h := wpO_t h hc
    exact G_wide (k := C + 8) (n := S + 48) (by show C + 0 ≤ C + 8; omega) (by show S + 0 ≤ S + 48; omega) (hnext r2.2 (wpO_some h))
  · have h := wpO_f h hc
    refine G_iconst (v := 0) rfl K dL_1605 ?_
    exact wpO_none h
def F_LAWc_1607 (xs : Nat → Int32) (L : Nat) (x4 : Int32) (M : Mem) : Option Mem :=
  if inb (x4 + 1) L then if inb (x4 + 2) L then (F_LAW_mistakes (xs (x4 + 1).toNatClampNeg) (xs (x4 + 2).toNatClampNeg) M).bind fun r1 => if inb (x4 + 1) L then if inb (x4 + 2) L then (F_MO_mistakes (xs (x4 + 1).toNatClampNeg) (xs (x4 + 2).toNatClampNeg) r1.2).bind fun r2 => (F_MO_thrown r2).bind fun r3 => if r3 = r1.1 then some r2 else none else none else none else none else none
set_option maxRecDepth 100000 in
set_option maxHeartbeats 8000000 in
theorem K_LAWc_1607 {p : Program} {l : Launch} {e : Env} {s : State} {m : MethodId} {args : Array Value} {below : List Frame} {meth : Method} {c : Code} {g : GB} {Q : State → Prop} {b L : Nat} {xs : Nat → Int32} (K : KF p l s m args meth c g code 8 "KeptWellLaw") (htr : l.stackTraces = false) (hX : va_X b L xs s s.heap) (hbl : b < s.heap.size) (hbA : ¬ AS g s.heap.size b) (C S : Nat) (hC : C + 8 ≤ 601024) (hS : S + 48 ≤ 7293034) (x4 : Int32) (M : Mem) (PHI : Mem → Prop) (hnext : ∀ M, PHI M → GG p l e room_1 s m args below meth c g 8 Q (C + 8) (S + 48) 2782 [(0, .ref b), (1, .ref (g.2.1 0)), (2, .ref (g.2.1 94)), (3, .ref (g.2.1 121)), (4, .int x4)] [] M) (h : wpO (F_LAWc_1607 xs L x4 M) PHI) : GG p l e room_1 s m args below meth c g 8 Q C S 1607 [(0, .ref b), (1, .ref (g.2.1 0)), (2, .ref (g.2.1 94)), (3, .ref (g.2.1 121)), (4, .int x4)] [] M := by
  unfold F_LAWc_1607 at h
  refine G_aload_n rfl 1 rfl K dL_1607 ?_
  refine G_aload_n rfl 0 rfl K dL_1608 ?_
  refine G_iload 4 rfl K dL_1609 ?_
  refine G_iconst (v := 1) rfl K dL_1611 ?_
  refine G_iadd K dL_1612 ?_
  obtain ⟨hin, h⟩ := wpO_g h
  refine G_sld K hX hbl hbA dL_1613 hin ?_
  refine G_aload_n rfl 0 rfl K dL_1614 ?_
  refine G_iload 4 rfl K dL_1615 ?_
  refine G_iconst (v := 2) rfl K dL_1617 ?_
  refine G_iadd K dL_1618 ?_
  obtain ⟨hin, h⟩ := wpO_g h
  refine G_sld K hX hbl hbA dL_1619 hin ?_
  obtain ⟨r1, e1, h⟩ := wpO_bind h
  refine G_callH [.ref (g.2.1 0), .int (xs (x4 + 1).toNatClampNeg), .int (xs (x4 + 2).toNatClampNeg)] [] K dL_1620 wv_1179 yd_L_mistakes (by decide) ⟨by show C + 0 + 2 ≤ 601024; omega, by show S + 0 + 12 ≤ 7293034; omega⟩ rfl rfl (Nat.le_of_ble_eq_true rfl) (K_LAW_mistakes l g htr (xs (x4 + 1).toNatClampNeg) (xs (x4 + 2).toNatClampNeg) M _ _ e1) ?_
  refine G_istore K dL_1623 (Nat.le_of_ble_eq_true rfl) rfl ?_
  refine G_aload_n rfl 3 rfl K dL_1625 ?_
  refine G_aload_n rfl 1 rfl K dL_1626 ?_
  refine G_iload 5 rfl K dL_1627 ?_
  refine G_iconst (v := 1) rfl K dL_1629 ?_
  refine G_iadd K dL_1630 ?_
  obtain ⟨hin, h⟩ := wpO_g h
  refine G_sld K hX hbl hbA dL_1631 hin ?_
  refine G_aload_n rfl 1 rfl K dL_1632 ?_
  refine G_iload 5 rfl K dL_1633 ?_
  refine G_iconst (v := 2) rfl K dL_1635 ?_
  refine G_iadd K dL_1636 ?_
  obtain ⟨hin, h⟩ := wpO_g h
  refine G_sld K hX hbl hbA dL_1637 hin ?_
  obtain ⟨r2, e2, h⟩ := wpO_bind h
  refine G_callVv (ci := 12) [.int (xs (x4 + 1).toNatClampNeg), .int (xs (x4 + 2).toNatClampNeg)] [] K dL_1638 wv_1909 yd_X12_mistakes (Nat.le_of_ble_eq_true rfl) (sh_94 _ _) rfl (by decide) ⟨by show C + 2 + 0 ≤ 601024; omega, by show S + 12 + 0 ≤ 7293034; omega⟩ rfl rfl (Nat.le_of_ble_eq_true rfl) (K_MO_mistakes l g htr (xs (x4 + 1).toNatClampNeg) (xs (x4 + 2).toNatClampNeg) r1.2 _ e2) ?_
  refine G_aload_n rfl 3 rfl K dL_1641 ?_
  obtain ⟨r3, e3, h⟩ := wpO_bind h
  refine G_callVi (ci := 12) [] [] K dL_1642 wv_1465 yd_X12_thrown (Nat.le_of_ble_eq_true rfl) (sh_94 _ _) rfl (by decide) ⟨by show C + 2 + 0 ≤ 601024; omega, by show S + 12 + 0 ≤ 7293034; omega⟩ rfl rfl (Nat.le_of_ble_eq_true rfl) (K_MO_thrown l g htr  r2 _ e3) ?_
  refine G_iload 0 rfl K dL_1645 ?_
  refine G_icmp_eq (tgt := 1652) K dL_1647 (by decide) (fun hc => ?_) (fun hc => ?_)
  · have h := wpO_t h hc
    refine G_goto (tgt := 2782) K dL_1652 (by decide) ?_
    exact G_wide (k := C + 8) (n := S + 48) (by show C + 2 ≤ C + 8; omega) (by show S + 12 ≤ S + 48; omega) (G_lv (lv' := [(0, .ref b), (1, .ref (g.2.1 0)), (2, .ref (g.2.1 94)), (3, .ref (g.2.1 121)), (4, .int x4)]) [1, 2, 3, 4, 5] rfl (hnext r2 (wpO_some h)))
  · have h := wpO_f h hc
    refine G_iconst (v := 0) rfl K dL_1650 ?_
    exact wpO_none h
def F_LAWc_1655_j1755 (xs : Nat → Int32) (L : Nat) (x4 : Int32) (x5 : Int32) (s1 : Int32) (s2 : Int32) (s3 : Int32) (s4 : Bool) (s5 : Bool) (M : Mem) : Option (Mem) :=
  (F_MO_doubt s1 s2 s3 ((b2i s4)) ((b2i s5)) M).bind fun r2 => (F_MO_thrown r2.2).bind fun r3 => if r3 = x5 then if x5 = 0 then if inb ((0 : Int32)) 1 then if (r2.2.2 121 ((0 : Int32)).toNatClampNeg) = r2.1 then some r2.2 else none else none else some r2.2 else none
def F_LAWc_1655_j1741 (xs : Nat → Int32) (L : Nat) (x4 : Int32) (x5 : Int32) (s1 : Int32) (s2 : Int32) (s3 : Int32) (s4 : Bool) (M : Mem) : Option (Mem) :=
  if inb (x4 + 5) L then if (xs (x4 + 5).toNatClampNeg) = 0 then F_LAWc_1655_j1755 xs L x4 x5 s1 s2 s3 s4 false M else F_LAWc_1655_j1755 xs L x4 x5 s1 s2 s3 s4 true M else none
def F_LAWc_1655_j1702 (xs : Nat → Int32) (L : Nat) (x4 : Int32) (s1 : Int32) (s2 : Int32) (s3 : Int32) (s4 : Bool) (s5 : Bool) (M : Mem) : Option (Mem) :=
  (F_LAW_doubt s1 s2 s3 ((b2i s4)) ((b2i s5)) M).bind fun r1 => if inb (x4 + 1) L then if inb (x4 + 2) L then if inb (x4 + 3) L then if inb (x4 + 4) L then if (xs (x4 + 4).toNatClampNeg) = 0 then F_LAWc_1655_j1741 xs L x4 r1.1 (xs (x4 + 1).toNatClampNeg) (xs (x4 + 2).toNatClampNeg) (xs (x4 + 3).toNatClampNeg) false r1.2 else F_LAWc_1655_j1741 xs L x4 r1.1 (xs (x4 + 1).toNatClampNeg) (xs (x4 + 2).toNatClampNeg) (xs (x4 + 3).toNatClampNeg) true r1.2 else none else none else none else none
def F_LAWc_1655_j1688 (xs : Nat → Int32) (L : Nat) (x4 : Int32) (s1 : Int32) (s2 : Int32) (s3 : Int32) (s4 : Bool) (M : Mem) : Option (Mem) :=
  if inb (x4 + 5) L then if (xs (x4 + 5).toNatClampNeg) = 0 then F_LAWc_1655_j1702 xs L x4 s1 s2 s3 s4 false M else F_LAWc_1655_j1702 xs L x4 s1 s2 s3 s4 true M else none
def F_LAWc_1655 (xs : Nat → Int32) (L : Nat) (x4 : Int32) (M : Mem) : Option Mem :=
  if inb (x4 + 1) L then if inb (x4 + 2) L then if inb (x4 + 3) L then if inb (x4 + 4) L then if (xs (x4 + 4).toNatClampNeg) = 0 then F_LAWc_1655_j1688 xs L x4 (xs (x4 + 1).toNatClampNeg) (xs (x4 + 2).toNatClampNeg) (xs (x4 + 3).toNatClampNeg) false M else F_LAWc_1655_j1688 xs L x4 (xs (x4 + 1).toNatClampNeg) (xs (x4 + 2).toNatClampNeg) (xs (x4 + 3).toNatClampNeg) true M else none else none else none else none
set_option maxRecDepth 100000 in
set_option maxHeartbeats 8000000 in
theorem K_LAWc_1655 {p : Program} {l : Launch} {e : Env} {s : State} {m : MethodId} {args : Array Value} {below : List Frame} {meth : Method} {c : Code} {g : GB} {Q : State → Prop} {b L : Nat} {xs : Nat → Int32} (K : KF p l s m args meth c g code 8 "KeptWellLaw") (htr : l.stackTraces = false) (hX : va_X b L xs s s.heap) (hbl : b < s.heap.size) (hbA : ¬ AS g s.heap.size b) (C S : Nat) (hC : C + 8 ≤ 601024) (hS : S + 48 ≤ 7293034) (x4 : Int32) (M : Mem) (PHI : Mem → Prop) (hnext : ∀ M, PHI M → GG p l e room_1 s m args below meth c g 8 Q (C + 8) (S + 48) 2782 [(0, .ref b), (1, .ref (g.2.1 0)), (2, .ref (g.2.1 94)), (3, .ref (g.2.1 121)), (4, .int x4)] [] M) (h : wpO (F_LAWc_1655 xs L x4 M) PHI) : GG p l e room_1 s m args below meth c g 8 Q C S 1655 [(0, .ref b), (1, .ref (g.2.1 0)), (2, .ref (g.2.1 94)), (3, .ref (g.2.1 121)), (4, .int x4)] [] M := by
  have J1755 : ∀ (x5 : Int32) (s1 : Int32) (s2 : Int32) (s3 : Int32) (s4 : Bool) (s5 : Bool) (M : Mem), wpO (F_LAWc_1655_j1755 xs L x4 x5 s1 s2 s3 s4 s5 M) PHI → GG p l e room_1 s m args below meth c g 8 Q (C + 8) (S + 48) 1755 [(0, .ref b), (1, .ref (g.2.1 0)), (2, .ref (g.2.1 94)), (3, .ref (g.2.1 121)), (4, .int x4), (5, .int x5)] [.int ((b2i s5)), .int ((b2i s4)), .int s3, .int s2, .int s1, .ref (g.2.1 94)] M := by
    intro x5 s1 s2 s3 s4 s5 M h
    unfold F_LAWc_1655_j1755 at h
    obtain ⟨r2, e2, h⟩ := wpO_bind h
    refine G_callVl (ci := 12) [.int s1, .int s2, .int s3, .int ((b2i s4)), .int ((b2i s5))] [] K dL_1755 wv_1913 yd_X12_doubt (Nat.le_of_ble_eq_true rfl) (sh_94 _ _) rfl (by decide) ⟨by show C + 8 + 0 ≤ 601024; omega, by show S + 48 + 0 ≤ 7293034; omega⟩ rfl rfl (Nat.le_of_ble_eq_true rfl) (K_MO_doubt l g htr s1 s2 s3 ((b2i s4)) ((b2i s5)) M _ _ e2) ?_
    refine G_lstore K dL_1758 (Nat.le_of_ble_eq_true rfl) rfl ?_
    refine G_aload_n rfl 3 rfl K dL_1760 ?_
    obtain ⟨r3, e3, h⟩ := wpO_bind h
    refine G_callVi (ci := 12) [] [] K dL_1761 wv_1465 yd_X12_thrown (Nat.le_of_ble_eq_true rfl) (sh_94 _ _) rfl (by decide) ⟨by show C + 8 + 0 ≤ 601024; omega, by show S + 48 + 0 ≤ 7293034; omega⟩ rfl rfl (Nat.le_of_ble_eq_true rfl) (K_MO_thrown l g htr  r2.2 _ e3) ?_
    refine G_iload 6 rfl K dL_1764 ?_
    refine G_icmp_eq (tgt := 1771) K dL_1766 (by decide) (fun hc => ?_) (fun hc => ?_)
    · have h := wpO_t h hc
      refine G_iload 6 rfl K dL_1771 ?_
      refine G_if_ne (tgt := 1787) K dL_1773 (by decide) (fun hc => ?_) (fun hc => ?_)
      · have h := wpO_f h hc
        refine G_goto (tgt := 2782) K dL_1787 (by decide) ?_
        exact G_wide (k := C + 8) (n := S + 48) (by show C + 8 ≤ C + 8; omega) (by show S + 48 ≤ S + 48; omega) (G_lv (lv' := [(0, .ref b), (1, .ref (g.2.1 0)), (2, .ref (g.2.1 94)), (3, .ref (g.2.1 121)), (4, .int x4)]) [1, 2, 3, 4, 5] rfl (hnext r2.2 (wpO_some h)))
      · have h := wpO_t h hc
        refine G_aload_n rfl 4 rfl K dL_1776 ?_
        refine G_iconst (v := 0) rfl K dL_1777 ?_
        obtain ⟨hin, h⟩ := wpO_g h
        refine G_lald K dL_1778 (Nat.le_of_ble_eq_true rfl) (sh_121 _ _) hin ?_
        refine G_lload 0 rfl K dL_1779 ?_
        refine G_lcmp_eq (tgt := 1787) K dL_1781 dL_1782 (by decide) (fun hc => ?_) (fun hc => ?_)
        · have h := wpO_t h hc
          refine G_goto (tgt := 2782) K dL_1787 (by decide) ?_
          exact G_wide (k := C + 8) (n := S + 48) (by show C + 8 ≤ C + 8; omega) (by show S + 48 ≤ S + 48; omega) (G_lv (lv' := [(0, .ref b), (1, .ref (g.2.1 0)), (2, .ref (g.2.1 94)), (3, .ref (g.2.1 121)), (4, .int x4)]) [1, 2, 3, 4, 5] rfl (hnext r2.2 (wpO_some h)))
        · have h := wpO_f h hc
          refine G_iconst (v := 0) rfl K dL_1785 ?_
          exact wpO_none h
    · have h := wpO_f h hc
      refine G_iconst (v := 0) rfl K dL_1769 ?_
      exact wpO_none h
  have J1741 : ∀ (x5 : Int32) (s1 : Int32) (s2 : Int32) (s3 : Int32) (s4 : Bool) (M : Mem), wpO (F_LAWc_1655_j1741 xs L x4 x5 s1 s2 s3 s4 M) PHI → GG p l e room_1 s m args below meth c g 8 Q (C + 8) (S + 48) 1741 [(0, .ref b), (1, .ref (g.2.1 0)), (2, .ref (g.2.1 94)), (3, .ref (g.2.1 121)), (4, .int x4), (5, .int x5)] [.int ((b2i s4)), .int s3, .int s2, .int s1, .ref (g.2.1 94)] M := by
    intro x5 s1 s2 s3 s4 M h
    unfold F_LAWc_1655_j1741 at h
    refine G_aload_n rfl 0 rfl K dL_1741 ?_
    refine G_iload 4 rfl K dL_1742 ?_
    refine G_iconst (v := 5) rfl K dL_1744 ?_
    refine G_iadd K dL_1745 ?_
    obtain ⟨hin, h⟩ := wpO_g h
    refine G_sld K hX hbl hbA dL_1746 hin ?_
    refine G_if_eq (tgt := 1754) K dL_1747 (by decide) (fun hc => ?_) (fun hc => ?_)
    · have h := wpO_t h hc
      refine G_iconst (v := 0) rfl K dL_1754 ?_
      exact J1755 x5 s1 s2 s3 s4 false M h
    · have h := wpO_f h hc
      refine G_iconst (v := 1) rfl K dL_1750 ?_
      refine G_goto (tgt := 1755) K dL_1751 (by decide) ?_
      exact J1755 x5 s1 s2 s3 s4 true M h
  have J1702 : ∀ (s1 : Int32) (s2 : Int32) (s3 : Int32) (s4 : Bool) (s5 : Bool) (M : Mem), wpO (F_LAWc_1655_j1702 xs L x4 s1 s2 s3 s4 s5 M) PHI → GG p l e room_1 s m args below meth c g 8 Q (C + 0) (S + 0) 1702 [(0, .ref b), (1, .ref (g.2.1 0)), (2, .ref (g.2.1 94)), (3, .ref (g.2.1 121)), (4, .int x4)] [.int ((b2i s5)), .int ((b2i s4)), .int s3, .int s2, .int s1, .ref (g.2.1 0)] M := by
    intro s1 s2 s3 s4 s5 M h
    unfold F_LAWc_1655_j1702 at h
    refine G_aload_n rfl 3 rfl K dL_1702 ?_
    obtain ⟨r1, e1, h⟩ := wpO_bind h
    refine G_callH [.ref (g.2.1 0), .int s1, .int s2, .int s3, .int ((b2i s4)), .int ((b2i s5)), .ref (g.2.1 121)] [] K dL_1703 wv_1186 yd_L_doubt (by decide) ⟨by show C + 0 + 8 ≤ 601024; omega, by show S + 0 + 48 ≤ 7293034; omega⟩ rfl rfl (Nat.le_of_ble_eq_true rfl) (K_LAW_doubt l g htr s1 s2 s3 ((b2i s4)) ((b2i s5)) M _ _ e1) ?_
    refine G_istore K dL_1706 (Nat.le_of_ble_eq_true rfl) rfl ?_
    refine G_aload_n rfl 3 rfl K dL_1708 ?_
    refine G_aload_n rfl 1 rfl K dL_1709 ?_
    refine G_iload 5 rfl K dL_1710 ?_
    refine G_iconst (v := 1) rfl K dL_1712 ?_
    refine G_iadd K dL_1713 ?_
    obtain ⟨hin, h⟩ := wpO_g h
    refine G_sld K hX hbl hbA dL_1714 hin ?_
    refine G_aload_n rfl 1 rfl K dL_1715 ?_
    refine G_iload 5 rfl K dL_1716 ?_
    refine G_iconst (v := 2) rfl K dL_1718 ?_
    refine G_iadd K dL_1719 ?_
    obtain ⟨hin, h⟩ := wpO_g h
    refine G_sld K hX hbl hbA dL_1720 hin ?_
    refine G_aload_n rfl 1 rfl K dL_1721 ?_
    refine G_iload 5 rfl K dL_1722 ?_
    refine G_iconst (v := 3) rfl K dL_1724 ?_
    refine G_iadd K dL_1725 ?_
    obtain ⟨hin, h⟩ := wpO_g h
    refine G_sld K hX hbl hbA dL_1726 hin ?_
    refine G_aload_n rfl 1 rfl K dL_1727 ?_
    refine G_iload 5 rfl K dL_1728 ?_
    refine G_iconst (v := 4) rfl K dL_1730 ?_
    refine G_iadd K dL_1731 ?_
    obtain ⟨hin, h⟩ := wpO_g h
    refine G_sld K hX hbl hbA dL_1732 hin ?_
    refine G_if_eq (tgt := 1740) K dL_1733 (by decide) (fun hc => ?_) (fun hc => ?_)
    · have h := wpO_t h hc
      refine G_iconst (v := 0) rfl K dL_1740 ?_
      exact G_lv (lv' := [(0, .ref b), (1, .ref (g.2.1 0)), (2, .ref (g.2.1 94)), (3, .ref (g.2.1 121)), (4, .int x4), (5, .int r1.1)]) [1, 2, 3, 4, 5, 0] rfl (J1741 r1.1 (xs (x4 + 1).toNatClampNeg) (xs (x4 + 2).toNatClampNeg) (xs (x4 + 3).toNatClampNeg) false r1.2 h)
    · have h := wpO_f h hc
      refine G_iconst (v := 1) rfl K dL_1736 ?_
      refine G_goto (tgt := 1741) K dL_1737 (by decide) ?_
      exact G_lv (lv' := [(0, .ref b), (1, .ref (g.2.1 0)), (2, .ref (g.2.1 94)), (3, .ref (g.2.1 121)), (4, .int x4), (5, .int r1.1)]) [1, 2, 3, 4, 5, 0] rfl (J1741 r1.1 (xs (x4 + 1).toNatClampNeg) (xs (x4 + 2).toNatClampNeg) (xs (x4 + 3).toNatClampNeg) true r1.2 h)
  have J1688 : ∀ (s1 : Int32) (s2 : Int32) (s3 : Int32) (s4 : Bool) (M : Mem), wpO (F_LAWc_1655_j1688 xs L x4 s1 s2 s3 s4 M) PHI → GG p l e room_1 s m args below meth c g 8 Q (C + 0) (S + 0) 1688 [(0, .ref b), (1, .ref (g.2.1 0)), (2, .ref (g.2.1 94)), (3, .ref (g.2.1 121)), (4, .int x4)] [.int ((b2i s4)), .int s3, .int s2, .int s1, .ref (g.2.1 0)] M := by
    intro s1 s2 s3 s4 M h
    unfold F_LAWc_1655_j1688 at h
    refine G_aload_n rfl 0 rfl K dL_1688 ?_
    refine G_iload 4 rfl K dL_1689 ?_
    refine G_iconst (v := 5) rfl K dL_1691 ?_
    refine G_iadd K dL_1692 ?_
    obtain ⟨hin, h⟩ := wpO_g h
    refine G_sld K hX hbl hbA dL_1693 hin ?_
    refine G_if_eq (tgt := 1701) K dL_1694 (by decide) (fun hc => ?_) (fun hc => ?_)
    · have h := wpO_t h hc
      refine G_iconst (v := 0) rfl K dL_1701 ?_
      exact J1702 s1 s2 s3 s4 false M h
    · have h := wpO_f h hc
      refine G_iconst (v := 1) rfl K dL_1697 ?_
      refine G_goto (tgt := 1702) K dL_1698 (by decide) ?_
      exact J1702 s1 s2 s3 s4 true M h
  unfold F_LAWc_1655 at h
  refine G_aload_n rfl 1 rfl K dL_1655 ?_
  refine G_aload_n rfl 0 rfl K dL_1656 ?_
  refine G_iload 4 rfl K dL_1657 ?_
  refine G_iconst (v := 1) rfl K dL_1659 ?_
  refine G_iadd K dL_1660 ?_
  obtain ⟨hin, h⟩ := wpO_g h
  refine G_sld K hX hbl hbA dL_1661 hin ?_
  refine G_aload_n rfl 0 rfl K dL_1662 ?_
  refine G_iload 4 rfl K dL_1663 ?_
  refine G_iconst (v := 2) rfl K dL_1665 ?_
  refine G_iadd K dL_1666 ?_
  obtain ⟨hin, h⟩ := wpO_g h
  refine G_sld K hX hbl hbA dL_1667 hin ?_
  refine G_aload_n rfl 0 rfl K dL_1668 ?_
  refine G_iload 4 rfl K dL_1669 ?_
  refine G_iconst (v := 3) rfl K dL_1671 ?_
  refine G_iadd K dL_1672 ?_
  obtain ⟨hin, h⟩ := wpO_g h
  refine G_sld K hX hbl hbA dL_1673 hin ?_
  refine G_aload_n rfl 0 rfl K dL_1674 ?_
  refine G_iload 4 rfl K dL_1675 ?_
  refine G_iconst (v := 4) rfl K dL_1677 ?_
  refine G_iadd K dL_1678 ?_
  obtain ⟨hin, h⟩ := wpO_g h
  refine G_sld K hX hbl hbA dL_1679 hin ?_
  refine G_if_eq (tgt := 1687) K dL_1680 (by decide) (fun hc => ?_) (fun hc => ?_)
  · have h := wpO_t h hc
    refine G_iconst (v := 0) rfl K dL_1687 ?_
    exact J1688 (xs (x4 + 1).toNatClampNeg) (xs (x4 + 2).toNatClampNeg) (xs (x4 + 3).toNatClampNeg) false M h
  · have h := wpO_f h hc
    refine G_iconst (v := 1) rfl K dL_1683 ?_
    refine G_goto (tgt := 1688) K dL_1684 (by decide) ?_
    exact J1688 (xs (x4 + 1).toNatClampNeg) (xs (x4 + 2).toNatClampNeg) (xs (x4 + 3).toNatClampNeg) true M h
def F_LAWc_1790 (xs : Nat → Int32) (L : Nat) (x4 : Int32) (M : Mem) : Option Mem :=
  (F_LAW_row M).bind fun r1 => (F_MO_row r1.2).bind fun r2 => (F_MO_thrown r2.2).bind fun r3 => if r3 = r1.1 then if r1.1 = 0 then if inb ((0 : Int32)) 1 then if (r2.2.2 121 ((0 : Int32)).toNatClampNeg) = r2.1.toInt64 then some r2.2 else none else none else some r2.2 else none
set_option maxRecDepth 100000 in
set_option maxHeartbeats 8000000 in
theorem K_LAWc_1790 {p : Program} {l : Launch} {e : Env} {s : State} {m : MethodId} {args : Array Value} {below : List Frame} {meth : Method} {c : Code} {g : GB} {Q : State → Prop} {b L : Nat} {xs : Nat → Int32} (K : KF p l s m args meth c g code 8 "KeptWellLaw") (htr : l.stackTraces = false) (hX : va_X b L xs s s.heap) (hbl : b < s.heap.size) (hbA : ¬ AS g s.heap.size b) (C S : Nat) (hC : C + 8 ≤ 601024) (hS : S + 48 ≤ 7293034) (x4 : Int32) (M : Mem) (PHI : Mem → Prop) (hnext : ∀ M, PHI M → GG p l e room_1 s m args below meth c g 8 Q (C + 8) (S + 48) 2782 [(0, .ref b), (1, .ref (g.2.1 0)), (2, .ref (g.2.1 94)), (3, .ref (g.2.1 121)), (4, .int x4)] [] M) (h : wpO (F_LAWc_1790 xs L x4 M) PHI) : GG p l e room_1 s m args below meth c g 8 Q C S 1790 [(0, .ref b), (1, .ref (g.2.1 0)), (2, .ref (g.2.1 94)), (3, .ref (g.2.1 121)), (4, .int x4)] [] M := by
  unfold F_LAWc_1790 at h
  refine G_aload_n rfl 1 rfl K dL_1790 ?_
  refine G_aload_n rfl 3 rfl K dL_1791 ?_
  obtain ⟨r1, e1, h⟩ := wpO_bind h
  refine G_callH [.ref (g.2.1 0), .ref (g.2.1 121)] [] K dL_1792 wv_1225 yd_L_row (by decide) ⟨by show C + 0 + 1 ≤ 601024; omega, by show S + 0 + 6 ≤ 7293034; omega⟩ rfl rfl (Nat.le_of_ble_eq_true rfl) (K_LAW_row l g htr  M _ _ e1) ?_
  refine G_istore K dL_1795 (Nat.le_of_ble_eq_true rfl) rfl ?_
  refine G_aload_n rfl 3 rfl K dL_1797 ?_
  obtain ⟨r2, e2, h⟩ := wpO_bind h
  refine G_callVi (ci := 12) [] [] K dL_1798 wv_1921 yd_X12_row (Nat.le_of_ble_eq_true rfl) (sh_94 _ _) rfl (by decide) ⟨by show C + 1 + 0 ≤ 601024; omega, by show S + 6 + 0 ≤ 7293034; omega⟩ rfl rfl (Nat.le_of_ble_eq_true rfl) (K_MO_row l g htr  r1.2 _ _ e2) ?_
  refine G_istore K dL_1801 (Nat.le_of_ble_eq_true rfl) rfl ?_
  refine G_aload_n rfl 4 rfl K dL_1803 ?_
  obtain ⟨r3, e3, h⟩ := wpO_bind h
  refine G_callVi (ci := 12) [] [] K dL_1804 wv_1465 yd_X12_thrown (Nat.le_of_ble_eq_true rfl) (sh_94 _ _) rfl (by decide) ⟨by show C + 1 + 0 ≤ 601024; omega, by show S + 6 + 0 ≤ 7293034; omega⟩ rfl rfl (Nat.le_of_ble_eq_true rfl) (K_MO_thrown l g htr  r2.2 _ e3) ?_
  refine G_iload 1 rfl K dL_1807 ?_
  refine G_icmp_eq (tgt := 1814) K dL_1809 (by decide) (fun hc => ?_) (fun hc => ?_)
  · have h := wpO_t h hc
    refine G_iload 1 rfl K dL_1814 ?_
    refine G_if_ne (tgt := 1831) K dL_1816 (by decide) (fun hc => ?_) (fun hc => ?_)
    · have h := wpO_f h hc
      refine G_goto (tgt := 2782) K dL_1831 (by decide) ?_
      exact G_wide (k := C + 8) (n := S + 48) (by show C + 1 ≤ C + 8; omega) (by show S + 6 ≤ S + 48; omega) (G_lv (lv' := [(0, .ref b), (1, .ref (g.2.1 0)), (2, .ref (g.2.1 94)), (3, .ref (g.2.1 121)), (4, .int x4)]) [2, 3, 4, 5, 6] rfl (hnext r2.2 (wpO_some h)))
    · have h := wpO_t h hc
      refine G_aload_n rfl 5 rfl K dL_1819 ?_
      refine G_iconst (v := 0) rfl K dL_1820 ?_
      obtain ⟨hin, h⟩ := wpO_g h
      refine G_lald K dL_1821 (Nat.le_of_ble_eq_true rfl) (sh_121 _ _) hin ?_
      refine G_iload 0 rfl K dL_1822 ?_
      refine G_i2l K dL_1824 ?_
      refine G_lcmp_eq (tgt := 1831) K dL_1825 dL_1826 (by decide) (fun hc => ?_) (fun hc => ?_)
      · have h := wpO_t h hc
        refine G_goto (tgt := 2782) K dL_1831 (by decide) ?_
        exact G_wide (k := C + 8) (n := S + 48) (by show C + 1 ≤ C + 8; omega) (by show S + 6 ≤ S + 48; omega) (G_lv (lv' := [(0, .ref b), (1, .ref (g.2.1 0)), (2, .ref (g.2.1 94)), (3, .ref (g.2.1 121)), (4, .int x4)]) [2, 3, 4, 5, 6] rfl (hnext r2.2 (wpO_some h)))
      · have h := wpO_f h hc
        refine G_iconst (v := 0) rfl K dL_1829 ?_
        exact wpO_none h
  · have h := wpO_f h hc
    refine G_iconst (v := 0) rfl K dL_1812 ?_
    exact wpO_none h
def F_LAWc_1834 (xs : Nat → Int32) (L : Nat) (x4 : Int32) (M : Mem) : Option Mem :=
  if inb (x4 + 1) L then if inb (x4 + 2) L then (F_LAW_judge (xs (x4 + 1).toNatClampNeg) (xs (x4 + 2).toNatClampNeg) M).bind fun r1 => if inb (x4 + 1) L then if inb (x4 + 2) L then (F_MO_judge (xs (x4 + 1).toNatClampNeg) (xs (x4 + 2).toNatClampNeg) r1.2).bind fun r2 => (F_MO_thrown r2.2).bind fun r3 => if r3 = r1.1 then if r1.1 = 0 then if inb ((0 : Int32)) 1 then if (r2.2.2 121 ((0 : Int32)).toNatClampNeg) = r2.1.toInt64 then some r2.2 else none else none else some r2.2 else none else none else none else none else none
set_option maxRecDepth 100000 in
set_option maxHeartbeats 8000000 in
theorem K_LAWc_1834 {p : Program} {l : Launch} {e : Env} {s : State} {m : MethodId} {args : Array Value} {below : List Frame} {meth : Method} {c : Code} {g : GB} {Q : State → Prop} {b L : Nat} {xs : Nat → Int32} (K : KF p l s m args meth c g code 8 "KeptWellLaw") (htr : l.stackTraces = false) (hX : va_X b L xs s s.heap) (hbl : b < s.heap.size) (hbA : ¬ AS g s.heap.size b) (C S : Nat) (hC : C + 8 ≤ 601024) (hS : S + 48 ≤ 7293034) (x4 : Int32) (M : Mem) (PHI : Mem → Prop) (hnext : ∀ M, PHI M → GG p l e room_1 s m args below meth c g 8 Q (C + 8) (S + 48) 2782 [(0, .ref b), (1, .ref (g.2.1 0)), (2, .ref (g.2.1 94)), (3, .ref (g.2.1 121)), (4, .int x4)] [] M) (h : wpO (F_LAWc_1834 xs L x4 M) PHI) : GG p l e room_1 s m args below meth c g 8 Q C S 1834 [(0, .ref b), (1, .ref (g.2.1 0)), (2, .ref (g.2.1 94)), (3, .ref (g.2.1 121)), (4, .int x4)] [] M := by
  unfold F_LAWc_1834 at h
  refine G_aload_n rfl 1 rfl K dL_1834 ?_
  refine G_aload_n rfl 0 rfl K dL_1835 ?_
  refine G_iload 4 rfl K dL_1836 ?_
  refine G_iconst (v := 1) rfl K dL_1838 ?_
  refine G_iadd K dL_1839 ?_
  obtain ⟨hin, h⟩ := wpO_g h
  refine G_sld K hX hbl hbA dL_1840 hin ?_
  refine G_aload_n rfl 0 rfl K dL_1841 ?_
  refine G_iload 4 rfl K dL_1842 ?_
  refine G_iconst (v := 2) rfl K dL_1844 ?_
  refine G_iadd K dL_1845 ?_
  obtain ⟨hin, h⟩ := wpO_g h
  refine G_sld K hX hbl hbA dL_1846 hin ?_
  refine G_aload_n rfl 3 rfl K dL_1847 ?_
  obtain ⟨r1, e1, h⟩ := wpO_bind h
  refine G_callH [.ref (g.2.1 0), .int (xs (x4 + 1).toNatClampNeg), .int (xs (x4 + 2).toNatClampNeg), .ref (g.2.1 121)] [] K dL_1848 wv_1237 yd_L_judge (by decide) ⟨by show C + 0 + 5 ≤ 601024; omega, by show S + 0 + 30 ≤ 7293034; omega⟩ rfl rfl (Nat.le_of_ble_eq_true rfl) (K_LAW_judge l g htr (xs (x4 + 1).toNatClampNeg) (xs (x4 + 2).toNatClampNeg) M _ _ e1) ?_
  refine G_istore K dL_1851 (Nat.le_of_ble_eq_true rfl) rfl ?_
  refine G_aload_n rfl 3 rfl K dL_1853 ?_
  refine G_aload_n rfl 1 rfl K dL_1854 ?_
  refine G_iload 5 rfl K dL_1855 ?_
  refine G_iconst (v := 1) rfl K dL_1857 ?_
  refine G_iadd K dL_1858 ?_
  obtain ⟨hin, h⟩ := wpO_g h
  refine G_sld K hX hbl hbA dL_1859 hin ?_
  refine G_aload_n rfl 1 rfl K dL_1860 ?_
  refine G_iload 5 rfl K dL_1861 ?_
  refine G_iconst (v := 2) rfl K dL_1863 ?_
  refine G_iadd K dL_1864 ?_
  obtain ⟨hin, h⟩ := wpO_g h
  refine G_sld K hX hbl hbA dL_1865 hin ?_
  obtain ⟨r2, e2, h⟩ := wpO_bind h
  refine G_callVi (ci := 12) [.int (xs (x4 + 1).toNatClampNeg), .int (xs (x4 + 2).toNatClampNeg)] [] K dL_1866 wv_1925 yd_X12_judge (Nat.le_of_ble_eq_true rfl) (sh_94 _ _) rfl (by decide) ⟨by show C + 5 + 0 ≤ 601024; omega, by show S + 30 + 0 ≤ 7293034; omega⟩ rfl rfl (Nat.le_of_ble_eq_true rfl) (K_MO_judge l g htr (xs (x4 + 1).toNatClampNeg) (xs (x4 + 2).toNatClampNeg) r1.2 _ _ e2) ?_
  refine G_istore K dL_1869 (Nat.le_of_ble_eq_true rfl) rfl ?_
  refine G_aload_n rfl 4 rfl K dL_1871 ?_
  obtain ⟨r3, e3, h⟩ := wpO_bind h
  refine G_callVi (ci := 12) [] [] K dL_1872 wv_1465 yd_X12_thrown (Nat.le_of_ble_eq_true rfl) (sh_94 _ _) rfl (by decide) ⟨by show C + 5 + 0 ≤ 601024; omega, by show S + 30 + 0 ≤ 7293034; omega⟩ rfl rfl (Nat.le_of_ble_eq_true rfl) (K_MO_thrown l g htr  r2.2 _ e3) ?_
  refine G_iload 1 rfl K dL_1875 ?_
  refine G_icmp_eq (tgt := 1882) K dL_1877 (by decide) (fun hc => ?_) (fun hc => ?_)
  · have h := wpO_t h hc
    refine G_iload 1 rfl K dL_1882 ?_
    refine G_if_ne (tgt := 1899) K dL_1884 (by decide) (fun hc => ?_) (fun hc => ?_)
    · have h := wpO_f h hc
      refine G_goto (tgt := 2782) K dL_1899 (by decide) ?_
      exact G_wide (k := C + 8) (n := S + 48) (by show C + 5 ≤ C + 8; omega) (by show S + 30 ≤ S + 48; omega) (G_lv (lv' := [(0, .ref b), (1, .ref (g.2.1 0)), (2, .ref (g.2.1 94)), (3, .ref (g.2.1 121)), (4, .int x4)]) [2, 3, 4, 5, 6] rfl (hnext r2.2 (wpO_some h)))
    · have h := wpO_t h hc
      refine G_aload_n rfl 5 rfl K dL_1887 ?_
      refine G_iconst (v := 0) rfl K dL_1888 ?_
      obtain ⟨hin, h⟩ := wpO_g h
      refine G_lald K dL_1889 (Nat.le_of_ble_eq_true rfl) (sh_121 _ _) hin ?_
      refine G_iload 0 rfl K dL_1890 ?_
      refine G_i2l K dL_1892 ?_
      refine G_lcmp_eq (tgt := 1899) K dL_1893 dL_1894 (by decide) (fun hc => ?_) (fun hc => ?_)
      · have h := wpO_t h hc
        refine G_goto (tgt := 2782) K dL_1899 (by decide) ?_
        exact G_wide (k := C + 8) (n := S + 48) (by show C + 5 ≤ C + 8; omega) (by show S + 30 ≤ S + 48; omega) (G_lv (lv' := [(0, .ref b), (1, .ref (g.2.1 0)), (2, .ref (g.2.1 94)), (3, .ref (g.2.1 121)), (4, .int x4)]) [2, 3, 4, 5, 6] rfl (hnext r2.2 (wpO_some h)))
      · have h := wpO_f h hc
        refine G_iconst (v := 0) rfl K dL_1897 ?_
        exact wpO_none h
  · have h := wpO_f h hc
    refine G_iconst (v := 0) rfl K dL_1880 ?_
    exact wpO_none h
def F_LAWc_1902 (xs : Nat → Int32) (L : Nat) (x4 : Int32) (M : Mem) : Option Mem :=
  if inb (x4 + 1) L then (F_LAW_brought (xs (x4 + 1).toNatClampNeg) M).bind fun r1 => if inb (x4 + 1) L then (F_MO_brought (xs (x4 + 1).toNatClampNeg) r1.2).bind fun r2 => (F_MO_thrown r2.2).bind fun r3 => if r3 = r1.1 then if r1.1 = 0 then if inb ((0 : Int32)) 1 then if (r2.2.2 121 ((0 : Int32)).toNatClampNeg) = r2.1.toInt64 then some r2.2 else none else none else some r2.2 else none else none else none
set_option maxRecDepth 100000 in
set_option maxHeartbeats 8000000 in
theorem K_LAWc_1902 {p : Program} {l : Launch} {e : Env} {s : State} {m : MethodId} {args : Array Value} {below : List Frame} {meth : Method} {c : Code} {g : GB} {Q : State → Prop} {b L : Nat} {xs : Nat → Int32} (K : KF p l s m args meth c g code 8 "KeptWellLaw") (htr : l.stackTraces = false) (hX : va_X b L xs s s.heap) (hbl : b < s.heap.size) (hbA : ¬ AS g s.heap.size b) (C S : Nat) (hC : C + 8 ≤ 601024) (hS : S + 48 ≤ 7293034) (x4 : Int32) (M : Mem) (PHI : Mem → Prop) (hnext : ∀ M, PHI M → GG p l e room_1 s m args below meth c g 8 Q (C + 8) (S + 48) 2782 [(0, .ref b), (1, .ref (g.2.1 0)), (2, .ref (g.2.1 94)), (3, .ref (g.2.1 121)), (4, .int x4)] [] M) (h : wpO (F_LAWc_1902 xs L x4 M) PHI) : GG p l e room_1 s m args below meth c g 8 Q C S 1902 [(0, .ref b), (1, .ref (g.2.1 0)), (2, .ref (g.2.1 94)), (3, .ref (g.2.1 121)), (4, .int x4)] [] M := by
  unfold F_LAWc_1902 at h
  refine G_aload_n rfl 1 rfl K dL_1902 ?_
  refine G_aload_n rfl 0 rfl K dL_1903 ?_
  refine G_iload 4 rfl K dL_1904 ?_
  refine G_iconst (v := 1) rfl K dL_1906 ?_
  refine G_iadd K dL_1907 ?_
  obtain ⟨hin, h⟩ := wpO_g h
  refine G_sld K hX hbl hbA dL_1908 hin ?_
  refine G_aload_n rfl 3 rfl K dL_1909 ?_
  obtain ⟨r1, e1, h⟩ := wpO_bind h
  refine G_callH [.ref (g.2.1 0), .int (xs (x4 + 1).toNatClampNeg), .ref (g.2.1 121)] [] K dL_1910 wv_1263 yd_L_brought (by decide) ⟨by show C + 0 + 1 ≤ 601024; omega, by show S + 0 + 6 ≤ 7293034; omega⟩ rfl rfl (Nat.le_of_ble_eq_true rfl) (K_LAW_brought l g htr (xs (x4 + 1).toNatClampNeg) M _ _ e1) ?_
  refine G_istore K dL_1913 (Nat.le_of_ble_eq_true rfl) rfl ?_
  refine G_aload_n rfl 3 rfl K dL_1915 ?_
  refine G_aload_n rfl 1 rfl K dL_1916 ?_
  refine G_iload 5 rfl K dL_1917 ?_
  refine G_iconst (v := 1) rfl K dL_1919 ?_
  refine G_iadd K dL_1920 ?_
  obtain ⟨hin, h⟩ := wpO_g h
  refine G_sld K hX hbl hbA dL_1921 hin ?_
  obtain ⟨r2, e2, h⟩ := wpO_bind h
  refine G_callVi (ci := 12) [.int (xs (x4 + 1).toNatClampNeg)] [] K dL_1922 wv_1933 yd_X12_brought (Nat.le_of_ble_eq_true rfl) (sh_94 _ _) rfl (by decide) ⟨by show C + 1 + 0 ≤ 601024; omega, by show S + 6 + 0 ≤ 7293034; omega⟩ rfl rfl (Nat.le_of_ble_eq_true rfl) (K_MO_brought l g htr (xs (x4 + 1).toNatClampNeg) r1.2 _ _ e2) ?_
  refine G_istore K dL_1925 (Nat.le_of_ble_eq_true rfl) rfl ?_
  refine G_aload_n rfl 4 rfl K dL_1927 ?_
  obtain ⟨r3, e3, h⟩ := wpO_bind h
  refine G_callVi (ci := 12) [] [] K dL_1928 wv_1465 yd_X12_thrown (Nat.le_of_ble_eq_true rfl) (sh_94 _ _) rfl (by decide) ⟨by show C + 1 + 0 ≤ 601024; omega, by show S + 6 + 0 ≤ 7293034; omega⟩ rfl rfl (Nat.le_of_ble_eq_true rfl) (K_MO_thrown l g htr  r2.2 _ e3) ?_
  refine G_iload 1 rfl K dL_1931 ?_
  refine G_icmp_eq (tgt := 1938) K dL_1933 (by decide) (fun hc => ?_) (fun hc => ?_)
  · have h := wpO_t h hc
    refine G_iload 1 rfl K dL_1938 ?_
    refine G_if_ne (tgt := 1955) K dL_1940 (by decide) (fun hc => ?_) (fun hc => ?_)
    · have h := wpO_f h hc
      refine G_goto (tgt := 2782) K dL_1955 (by decide) ?_
      exact G_wide (k := C + 8) (n := S + 48) (by show C + 1 ≤ C + 8; omega) (by show S + 6 ≤ S + 48; omega) (G_lv (lv' := [(0, .ref b), (1, .ref (g.2.1 0)), (2, .ref (g.2.1 94)), (3, .ref (g.2.1 121)), (4, .int x4)]) [2, 3, 4, 5, 6] rfl (hnext r2.2 (wpO_some h)))
    · have h := wpO_t h hc
      refine G_aload_n rfl 5 rfl K dL_1943 ?_
      refine G_iconst (v := 0) rfl K dL_1944 ?_
      obtain ⟨hin, h⟩ := wpO_g h
      refine G_lald K dL_1945 (Nat.le_of_ble_eq_true rfl) (sh_121 _ _) hin ?_
      refine G_iload 0 rfl K dL_1946 ?_
      refine G_i2l K dL_1948 ?_
      refine G_lcmp_eq (tgt := 1955) K dL_1949 dL_1950 (by decide) (fun hc => ?_) (fun hc => ?_)
      · have h := wpO_t h hc
        refine G_goto (tgt := 2782) K dL_1955 (by decide) ?_
        exact G_wide (k := C + 8) (n := S + 48) (by show C + 1 ≤ C + 8; omega) (by show S + 6 ≤ S + 48; omega) (G_lv (lv' := [(0, .ref b), (1, .ref (g.2.1 0)), (2, .ref (g.2.1 94)), (3, .ref (g.2.1 121)), (4, .int x4)]) [2, 3, 4, 5, 6] rfl (hnext r2.2 (wpO_some h)))
      · have h := wpO_f h hc
        refine G_iconst (v := 0) rfl K dL_1953 ?_
        exact wpO_none h
  · have h := wpO_f h hc
    refine G_iconst (v := 0) rfl K dL_1936 ?_
    exact wpO_none h
def F_LAWc_1958 (xs : Nat → Int32) (L : Nat) (x4 : Int32) (M : Mem) : Option Mem :=
  if inb (x4 + 1) L then if inb (x4 + 2) L then if inb (x4 + 3) L then if inb (x4 + 4) L then if inb (x4 + 5) L then (F_LAW_drawn (xs (x4 + 1).toNatClampNeg) (xs (x4 + 2).toNatClampNeg) (xs (x4 + 3).toNatClampNeg) (xs (x4 + 4).toNatClampNeg) (xs (x4 + 5).toNatClampNeg) M).bind fun r1 => if inb (x4 + 1) L then if inb (x4 + 2) L then if inb (x4 + 3) L then if inb (x4 + 4) L then if inb (x4 + 5) L then (F_MO_drawn (xs (x4 + 1).toNatClampNeg) (xs (x4 + 2).toNatClampNeg) (xs (x4 + 3).toNatClampNeg) (xs (x4 + 4).toNatClampNeg) (xs (x4 + 5).toNatClampNeg) r1.2).bind fun r2 => (F_MO_thrown r2.2).bind fun r3 => if r3 = r1.1 then if r1.1 = 0 then if inb ((0 : Int32)) 1 then if (r2.2.2 121 ((0 : Int32)).toNatClampNeg) = r2.1.toInt64 then some r2.2 else none else none else some r2.2 else none else none else none else none else none else none else none else none else none else none else none
set_option maxRecDepth 100000 in
set_option maxHeartbeats 8000000 in
theorem K_LAWc_1958 {p : Program} {l : Launch} {e : Env} {s : State} {m : MethodId} {args : Array Value} {below : List Frame} {meth : Method} {c : Code} {g : GB} {Q : State → Prop} {b L : Nat} {xs : Nat → Int32} (K : KF p l s m args meth c g code 8 "KeptWellLaw") (htr : l.stackTraces = false) (hX : va_X b L xs s s.heap) (hbl : b < s.heap.size) (hbA : ¬ AS g s.heap.size b) (C S : Nat) (hC : C + 8 ≤ 601024) (hS : S + 48 ≤ 7293034) (x4 : Int32) (M : Mem) (PHI : Mem → Prop) (hnext : ∀ M, PHI M → GG p l e room_1 s m args below meth c g 8 Q (C + 8) (S + 48) 2782 [(0, .ref b), (1, .ref (g.2.1 0)), (2, .ref (g.2.1 94)), (3, .ref (g.2.1 121)), (4, .int x4)] [] M) (h : wpO (F_LAWc_1958 xs L x4 M) PHI) : GG p l e room_1 s m args below meth c g 8 Q C S 1958 [(0, .ref b), (1, .ref (g.2.1 0)), (2, .ref (g.2.1 94)), (3, .ref (g.2.1 121)), (4, .int x4)] [] M := by
  unfold F_LAWc_1958 at h
  refine G_aload_n rfl 1 rfl K dL_1958 ?_
  refine G_aload_n rfl 0 rfl K dL_1959 ?_
  refine G_iload 4 rfl K dL_1960 ?_
  refine G_iconst (v := 1) rfl K dL_1962 ?_
  refine G_iadd K dL_1963 ?_
  obtain ⟨hin, h⟩ := wpO_g h
  refine G_sld K hX hbl hbA dL_1964 hin ?_
  refine G_aload_n rfl 0 rfl K dL_1965 ?_
  refine G_iload 4 rfl K dL_1966 ?_
  refine G_iconst (v := 2) rfl K dL_1968 ?_
  refine G_iadd K dL_1969 ?_
  obtain ⟨hin, h⟩ := wpO_g h
  refine G_sld K hX hbl hbA dL_1970 hin ?_
  refine G_aload_n rfl 0 rfl K dL_1971 ?_
  refine G_iload 4 rfl K dL_1972 ?_
  refine G_iconst (v := 3) rfl K dL_1974 ?_
  refine G_iadd K dL_1975 ?_
  obtain ⟨hin, h⟩ := wpO_g h
  refine G_sld K hX hbl hbA dL_1976 hin ?_
  refine G_aload_n rfl 0 rfl K dL_1977 ?_
  refine G_iload 4 rfl K dL_1978 ?_
  refine G_iconst (v := 4) rfl K dL_1980 ?_
  refine G_iadd K dL_1981 ?_
  obtain ⟨hin, h⟩ := wpO_g h
  refine G_sld K hX hbl hbA dL_1982 hin ?_
  refine G_aload_n rfl 0 rfl K dL_1983 ?_
  refine G_iload 4 rfl K dL_1984 ?_
  refine G_iconst (v := 5) rfl K dL_1986 ?_
  refine G_iadd K dL_1987 ?_
  obtain ⟨hin, h⟩ := wpO_g h
  refine G_sld K hX hbl hbA dL_1988 hin ?_
  refine G_aload_n rfl 3 rfl K dL_1989 ?_
  obtain ⟨r1, e1, h⟩ := wpO_bind h
  refine G_callH [.ref (g.2.1 0), .int (xs (x4 + 1).toNatClampNeg), .int (xs (x4 + 2).toNatClampNeg), .int (xs (x4 + 3).toNatClampNeg), .int (xs (x4 + 4).toNatClampNeg), .int (xs (x4 + 5).toNatClampNeg), .ref (g.2.1 121)] [] K dL_1990 wv_1275 yd_L_drawn (by decide) ⟨by show C + 0 + 7 ≤ 601024; omega, by show S + 0 + 42 ≤ 7293034; omega⟩ rfl rfl (Nat.le_of_ble_eq_true rfl) (K_LAW_drawn l g htr (xs (x4 + 1).toNatClampNeg) (xs (x4 + 2).toNatClampNeg) (xs (x4 + 3).toNatClampNeg) (xs (x4 + 4).toNatClampNeg) (xs (x4 + 5).toNatClampNeg) M _ _ e1) ?_
  refine G_istore K dL_1993 (Nat.le_of_ble_eq_true rfl) rfl ?_
  refine G_aload_n rfl 3 rfl K dL_1995 ?_
  refine G_aload_n rfl 1 rfl K dL_1996 ?_
  refine G_iload 5 rfl K dL_1997 ?_
  refine G_iconst (v := 1) rfl K dL_1999 ?_
  refine G_iadd K dL_2000 ?_
  obtain ⟨hin, h⟩ := wpO_g h
  refine G_sld K hX hbl hbA dL_2001 hin ?_
  refine G_aload_n rfl 1 rfl K dL_2002 ?_
  refine G_iload 5 rfl K dL_2003 ?_
  refine G_iconst (v := 2) rfl K dL_2005 ?_
  refine G_iadd K dL_2006 ?_
  obtain ⟨hin, h⟩ := wpO_g h
  refine G_sld K hX hbl hbA dL_2007 hin ?_
  refine G_aload_n rfl 1 rfl K dL_2008 ?_
  refine G_iload 5 rfl K dL_2009 ?_
  refine G_iconst (v := 3) rfl K dL_2011 ?_
  refine G_iadd K dL_2012 ?_
  obtain ⟨hin, h⟩ := wpO_g h
  refine G_sld K hX hbl hbA dL_2013 hin ?_
  refine G_aload_n rfl 1 rfl K dL_2014 ?_
  refine G_iload 5 rfl K dL_2015 ?_
  refine G_iconst (v := 4) rfl K dL_2017 ?_
  refine G_iadd K dL_2018 ?_
  obtain ⟨hin, h⟩ := wpO_g h
  refine G_sld K hX hbl hbA dL_2019 hin ?_
  refine G_aload_n rfl 1 rfl K dL_2020 ?_
  refine G_iload 5 rfl K dL_2021 ?_
  refine G_iconst (v := 5) rfl K dL_2023 ?_
  refine G_iadd K dL_2024 ?_
  obtain ⟨hin, h⟩ := wpO_g h
  refine G_sld K hX hbl hbA dL_2025 hin ?_
  obtain ⟨r2, e2, h⟩ := wpO_bind h
  refine G_callVi (ci := 12) [.int (xs (x4 + 1).toNatClampNeg), .int (xs (x4 + 2).toNatClampNeg), .int (xs (x4 + 3).toNatClampNeg), .int (xs (x4 + 4).toNatClampNeg), .int (xs (x4 + 5).toNatClampNeg)] [] K dL_2026 wv_1937 yd_X12_drawn (Nat.le_of_ble_eq_true rfl) (sh_94 _ _) rfl (by decide) ⟨by show C + 7 + 0 ≤ 601024; omega, by show S + 42 + 0 ≤ 7293034; omega⟩ rfl rfl (Nat.le_of_ble_eq_true rfl) (K_MO_drawn l g htr (xs (x4 + 1).toNatClampNeg) (xs (x4 + 2).toNatClampNeg) (xs (x4 + 3).toNatClampNeg) (xs (x4 + 4).toNatClampNeg) (xs (x4 + 5).toNatClampNeg) r1.2 _ _ e2) ?_
  refine G_istore K dL_2029 (Nat.le_of_ble_eq_true rfl) rfl ?_
  refine G_aload_n rfl 4 rfl K dL_2031 ?_
  obtain ⟨r3, e3, h⟩ := wpO_bind h
  refine G_callVi (ci := 12) [] [] K dL_2032 wv_1465 yd_X12_thrown (Nat.le_of_ble_eq_true rfl) (sh_94 _ _) rfl (by decide) ⟨by show C + 7 + 0 ≤ 601024; omega, by show S + 42 + 0 ≤ 7293034; omega⟩ rfl rfl (Nat.le_of_ble_eq_true rfl) (K_MO_thrown l g htr  r2.2 _ e3) ?_
  refine G_iload 1 rfl K dL_2035 ?_
  refine G_icmp_eq (tgt := 2042) K dL_2037 (by decide) (fun hc => ?_) (fun hc => ?_)
  · have h := wpO_t h hc
    refine G_iload 1 rfl K dL_2042 ?_
    refine G_if_ne (tgt := 2059) K dL_2044 (by decide) (fun hc => ?_) (fun hc => ?_)
    · have h := wpO_f h hc
      refine G_goto (tgt := 2782) K dL_2059 (by decide) ?_
      exact G_wide (k := C + 8) (n := S + 48) (by show C + 7 ≤ C + 8; omega) (by show S + 42 ≤ S + 48; omega) (G_lv (lv' := [(0, .ref b), (1, .ref (g.2.1 0)), (2, .ref (g.2.1 94)), (3, .ref (g.2.1 121)), (4, .int x4)]) [2, 3, 4, 5, 6] rfl (hnext r2.2 (wpO_some h)))
    · have h := wpO_t h hc
      refine G_aload_n rfl 5 rfl K dL_2047 ?_
      refine G_iconst (v := 0) rfl K dL_2048 ?_
      obtain ⟨hin, h⟩ := wpO_g h
      refine G_lald K dL_2049 (Nat.le_of_ble_eq_true rfl) (sh_121 _ _) hin ?_
      refine G_iload 0 rfl K dL_2050 ?_
      refine G_i2l K dL_2052 ?_
      refine G_lcmp_eq (tgt := 2059) K dL_2053 dL_2054 (by decide) (fun hc => ?_) (fun hc => ?_)
      · have h := wpO_t h hc
        refine G_goto (tgt := 2782) K dL_2059 (by decide) ?_
        exact G_wide (k := C + 8) (n := S + 48) (by show C + 7 ≤ C + 8; omega) (by show S + 42 ≤ S + 48; omega) (G_lv (lv' := [(0, .ref b), (1, .ref (g.2.1 0)), (2, .ref (g.2.1 94)), (3, .ref (g.2.1 121)), (4, .int x4)]) [2, 3, 4, 5, 6] rfl (hnext r2.2 (wpO_some h)))
      · have h := wpO_f h hc
        refine G_iconst (v := 0) rfl K dL_2057 ?_
        exact wpO_none h
  · have h := wpO_f h hc
    refine G_iconst (v := 0) rfl K dL_2040 ?_
    exact wpO_none h
def F_LAWc_2062 (xs : Nat → Int32) (L : Nat) (x4 : Int32) (M : Mem) : Option Mem :=
  if inb (x4 + 1) L then if inb (x4 + 2) L then (F_LAW_field (xs (x4 + 1).toNatClampNeg) (xs (x4 + 2).toNatClampNeg) M).bind fun r1 => if inb (x4 + 1) L then if inb (x4 + 2) L then (F_MO_field (xs (x4 + 1).toNatClampNeg) (xs (x4 + 2).toNatClampNeg) r1.2).bind fun r2 => (F_MO_thrown r2).bind fun r3 => if r3 = r1.1 then some r2 else none else none else none else none else none
set_option maxRecDepth 100000 in
set_option maxHeartbeats 8000000 in
theorem K_LAWc_2062 {p : Program} {l : Launch} {e : Env} {s : State} {m : MethodId} {args : Array Value} {below : List Frame} {meth : Method} {c : Code} {g : GB} {Q : State → Prop} {b L : Nat} {xs : Nat → Int32} (K : KF p l s m args meth c g code 8 "KeptWellLaw") (htr : l.stackTraces = false) (hX : va_X b L xs s s.heap) (hbl : b < s.heap.size) (hbA : ¬ AS g s.heap.size b) (C S : Nat) (hC : C + 8 ≤ 601024) (hS : S + 48 ≤ 7293034) (x4 : Int32) (M : Mem) (PHI : Mem → Prop) (hnext : ∀ M, PHI M → GG p l e room_1 s m args below meth c g 8 Q (C + 8) (S + 48) 2782 [(0, .ref b), (1, .ref (g.2.1 0)), (2, .ref (g.2.1 94)), (3, .ref (g.2.1 121)), (4, .int x4)] [] M) (h : wpO (F_LAWc_2062 xs L x4 M) PHI) : GG p l e room_1 s m args below meth c g 8 Q C S 2062 [(0, .ref b), (1, .ref (g.2.1 0)), (2, .ref (g.2.1 94)), (3, .ref (g.2.1 121)), (4, .int x4)] [] M := by
  unfold F_LAWc_2062 at h
  refine G_aload_n rfl 1 rfl K dL_2062 ?_
  refine G_aload_n rfl 0 rfl K dL_2063 ?_
  refine G_iload 4 rfl K dL_2064 ?_
  refine G_iconst (v := 1) rfl K dL_2066 ?_
  refine G_iadd K dL_2067 ?_
  obtain ⟨hin, h⟩ := wpO_g h
  refine G_sld K hX hbl hbA dL_2068 hin ?_
  refine G_aload_n rfl 0 rfl K dL_2069 ?_
  refine G_iload 4 rfl K dL_2070 ?_
  refine G_iconst (v := 2) rfl K dL_2072 ?_
  refine G_iadd K dL_2073 ?_
  obtain ⟨hin, h⟩ := wpO_g h
  refine G_sld K hX hbl hbA dL_2074 hin ?_
  obtain ⟨r1, e1, h⟩ := wpO_bind h
  refine G_callH [.ref (g.2.1 0), .int (xs (x4 + 1).toNatClampNeg), .int (xs (x4 + 2).toNatClampNeg)] [] K dL_2075 wv_1291 yd_L_field (by decide) ⟨by show C + 0 + 2 ≤ 601024; omega, by show S + 0 + 12 ≤ 7293034; omega⟩ rfl rfl (Nat.le_of_ble_eq_true rfl) (K_LAW_field l g htr (xs (x4 + 1).toNatClampNeg) (xs (x4 + 2).toNatClampNeg) M _ _ e1) ?_
  refine G_istore K dL_2078 (Nat.le_of_ble_eq_true rfl) rfl ?_
  refine G_aload_n rfl 3 rfl K dL_2080 ?_
  refine G_aload_n rfl 1 rfl K dL_2081 ?_
  refine G_iload 5 rfl K dL_2082 ?_
  refine G_iconst (v := 1) rfl K dL_2084 ?_
  refine G_iadd K dL_2085 ?_
  obtain ⟨hin, h⟩ := wpO_g h
  refine G_sld K hX hbl hbA dL_2086 hin ?_
  refine G_aload_n rfl 1 rfl K dL_2087 ?_
  refine G_iload 5 rfl K dL_2088 ?_
  refine G_iconst (v := 2) rfl K dL_2090 ?_
  refine G_iadd K dL_2091 ?_
  obtain ⟨hin, h⟩ := wpO_g h
  refine G_sld K hX hbl hbA dL_2092 hin ?_
  obtain ⟨r2, e2, h⟩ := wpO_bind h
  refine G_callVv (ci := 12) [.int (xs (x4 + 1).toNatClampNeg), .int (xs (x4 + 2).toNatClampNeg)] [] K dL_2093 wv_1946 yd_X12_field (Nat.le_of_ble_eq_true rfl) (sh_94 _ _) rfl (by decide) ⟨by show C + 2 + 0 ≤ 601024; omega, by show S + 12 + 0 ≤ 7293034; omega⟩ rfl rfl (Nat.le_of_ble_eq_true rfl) (K_MO_field l g htr (xs (x4 + 1).toNatClampNeg) (xs (x4 + 2).toNatClampNeg) r1.2 _ e2) ?_
  refine G_aload_n rfl 3 rfl K dL_2096 ?_
  obtain ⟨r3, e3, h⟩ := wpO_bind h
  refine G_callVi (ci := 12) [] [] K dL_2097 wv_1465 yd_X12_thrown (Nat.le_of_ble_eq_true rfl) (sh_94 _ _) rfl (by decide) ⟨by show C + 2 + 0 ≤ 601024; omega, by show S + 12 + 0 ≤ 7293034; omega⟩ rfl rfl (Nat.le_of_ble_eq_true rfl) (K_MO_thrown l g htr  r2 _ e3) ?_
  refine G_iload 0 rfl K dL_2100 ?_
  refine G_icmp_eq (tgt := 2107) K dL_2102 (by decide) (fun hc => ?_) (fun hc => ?_)
  · have h := wpO_t h hc
    refine G_goto (tgt := 2782) K dL_2107 (by decide) ?_
    exact G_wide (k := C + 8) (n := S + 48) (by show C + 2 ≤ C + 8; omega) (by show S + 12 ≤ S + 48; omega) (G_lv (lv' := [(0, .ref b), (1, .ref (g.2.1 0)), (2, .ref (g.2.1 94)), (3, .ref (g.2.1 121)), (4, .int x4)]) [1, 2, 3, 4, 5] rfl (hnext r2 (wpO_some h)))
  · have h := wpO_f h hc
    refine G_iconst (v := 0) rfl K dL_2105 ?_
    exact wpO_none h
def F_LAWc_2110 (xs : Nat → Int32) (L : Nat) (x4 : Int32) (M : Mem) : Option Mem :=
  if inb (x4 + 1) L then (F_LAW_rounds (xs (x4 + 1).toNatClampNeg) M).bind fun r1 => if inb (x4 + 1) L then (F_MO_rounds (xs (x4 + 1).toNatClampNeg) r1.2).bind fun r2 => (F_MO_thrown r2).bind fun r3 => if r3 = r1.1 then some r2 else none else none else none
set_option maxRecDepth 100000 in
set_option maxHeartbeats 8000000 in
theorem K_LAWc_2110 {p : Program} {l : Launch} {e : Env} {s : State} {m : MethodId} {args : Array Value} {below : List Frame} {meth : Method} {c : Code} {g : GB} {Q : State → Prop} {b L : Nat} {xs : Nat → Int32} (K : KF p l s m args meth c g code 8 "KeptWellLaw") (htr : l.stackTraces = false) (hX : va_X b L xs s s.heap) (hbl : b < s.heap.size) (hbA : ¬ AS g s.heap.size b) (C S : Nat) (hC : C + 8 ≤ 601024) (hS : S + 48 ≤ 7293034) (x4 : Int32) (M : Mem) (PHI : Mem → Prop) (hnext : ∀ M, PHI M → GG p l e room_1 s m args below meth c g 8 Q (C + 8) (S + 48) 2782 [(0, .ref b), (1, .ref (g.2.1 0)), (2, .ref (g.2.1 94)), (3, .ref (g.2.1 121)), (4, .int x4)] [] M) (h : wpO (F_LAWc_2110 xs L x4 M) PHI) : GG p l e room_1 s m args below meth c g 8 Q C S 2110 [(0, .ref b), (1, .ref (g.2.1 0)), (2, .ref (g.2.1 94)), (3, .ref (g.2.1 121)), (4, .int x4)] [] M := by
  unfold F_LAWc_2110 at h
  refine G_aload_n rfl 1 rfl K dL_2110 ?_
  refine G_aload_n rfl 0 rfl K dL_2111 ?_
  refine G_iload 4 rfl K dL_2112 ?_
  refine G_iconst (v := 1) rfl K dL_2114 ?_
  refine G_iadd K dL_2115 ?_
  obtain ⟨hin, h⟩ := wpO_g h
  refine G_sld K hX hbl hbA dL_2116 hin ?_
  obtain ⟨r1, e1, h⟩ := wpO_bind h
  refine G_callH [.ref (g.2.1 0), .int (xs (x4 + 1).toNatClampNeg)] [] K dL_2117 wv_1299 yd_L_rounds (by decide) ⟨by show C + 0 + 1 ≤ 601024; omega, by show S + 0 + 6 ≤ 7293034; omega⟩ rfl rfl (Nat.le_of_ble_eq_true rfl) (K_LAW_rounds l g htr (xs (x4 + 1).toNatClampNeg) M _ _ e1) ?_
  refine G_istore K dL_2120 (Nat.le_of_ble_eq_true rfl) rfl ?_
  refine G_aload_n rfl 3 rfl K dL_2122 ?_
  refine G_aload_n rfl 1 rfl K dL_2123 ?_
  refine G_iload 5 rfl K dL_2124 ?_
  refine G_iconst (v := 1) rfl K dL_2126 ?_
  refine G_iadd K dL_2127 ?_
  obtain ⟨hin, h⟩ := wpO_g h
  refine G_sld K hX hbl hbA dL_2128 hin ?_
  obtain ⟨r2, e2, h⟩ := wpO_bind h
  refine G_callVv (ci := 12) [.int (xs (x4 + 1).toNatClampNeg)] [] K dL_2129 wv_1950 yd_X12_rounds (Nat.le_of_ble_eq_true rfl) (sh_94 _ _) rfl (by decide) ⟨by show C + 1 + 0 ≤ 601024; omega, by show S + 6 + 0 ≤ 7293034; omega⟩ rfl rfl (Nat.le_of_ble_eq_true rfl) (K_MO_rounds l g htr (xs (x4 + 1).toNatClampNeg) r1.2 _ e2) ?_
  refine G_aload_n rfl 3 rfl K dL_2132 ?_
  obtain ⟨r3, e3, h⟩ := wpO_bind h
  refine G_callVi (ci := 12) [] [] K dL_2133 wv_1465 yd_X12_thrown (Nat.le_of_ble_eq_true rfl) (sh_94 _ _) rfl (by decide) ⟨by show C + 1 + 0 ≤ 601024; omega, by show S + 6 + 0 ≤ 7293034; omega⟩ rfl rfl (Nat.le_of_ble_eq_true rfl) (K_MO_thrown l g htr  r2 _ e3) ?_
  refine G_iload 0 rfl K dL_2136 ?_
  refine G_icmp_eq (tgt := 2143) K dL_2138 (by decide) (fun hc => ?_) (fun hc => ?_)
  · have h := wpO_t h hc
    refine G_goto (tgt := 2782) K dL_2143 (by decide) ?_
    exact G_wide (k := C + 8) (n := S + 48) (by show C + 1 ≤ C + 8; omega) (by show S + 6 ≤ S + 48; omega) (G_lv (lv' := [(0, .ref b), (1, .ref (g.2.1 0)), (2, .ref (g.2.1 94)), (3, .ref (g.2.1 121)), (4, .int x4)]) [1, 2, 3, 4, 5] rfl (hnext r2 (wpO_some h)))
  · have h := wpO_f h hc
    refine G_iconst (v := 0) rfl K dL_2141 ?_
    exact wpO_none h
def F_LAWc_2146 (xs : Nat → Int32) (L : Nat) (x4 : Int32) (M : Mem) : Option Mem :=
  if inb (x4 + 1) L then if inb (x4 + 2) L then (F_LAW_meet (xs (x4 + 1).toNatClampNeg) (xs (x4 + 2).toNatClampNeg) M).bind fun r1 => if inb (x4 + 1) L then if inb (x4 + 2) L then (F_MO_meet (xs (x4 + 1).toNatClampNeg) (xs (x4 + 2).toNatClampNeg) r1.2).bind fun r2 => (F_MO_thrown r2.2).bind fun r3 => if r3 = r1.1 then if r1.1 = 0 then if inb ((0 : Int32)) 1 then if (r2.2.2 121 ((0 : Int32)).toNatClampNeg) = r2.1.toInt64 then some r2.2 else none else none else some r2.2 else none else none else none else none else none
set_option maxRecDepth 100000 in
set_option maxHeartbeats 8000000 in
theorem K_LAWc_2146 {p : Program} {l : Launch} {e : Env} {s : State} {m : MethodId} {args : Array Value} {below : List Frame} {meth : Method} {c : Code} {g : GB} {Q : State → Prop} {b L : Nat} {xs : Nat → Int32} (K : KF p l s m args meth c g code 8 "KeptWellLaw") (htr : l.stackTraces = false) (hX : va_X b L xs s s.heap) (hbl : b < s.heap.size) (hbA : ¬ AS g s.heap.size b) (C S : Nat) (hC : C + 8 ≤ 601024) (hS : S + 48 ≤ 7293034) (x4 : Int32) (M : Mem) (PHI : Mem → Prop) (hnext : ∀ M, PHI M → GG p l e room_1 s m args below meth c g 8 Q (C + 8) (S + 48) 2782 [(0, .ref b), (1, .ref (g.2.1 0)), (2, .ref (g.2.1 94)), (3, .ref (g.2.1 121)), (4, .int x4)] [] M) (h : wpO (F_LAWc_2146 xs L x4 M) PHI) : GG p l e room_1 s m args below meth c g 8 Q C S 2146 [(0, .ref b), (1, .ref (g.2.1 0)), (2, .ref (g.2.1 94)), (3, .ref (g.2.1 121)), (4, .int x4)] [] M := by
  unfold F_LAWc_2146 at h
  refine G_aload_n rfl 1 rfl K dL_2146 ?_
  refine G_aload_n rfl 0 rfl K dL_2147 ?_
  refine G_iload 4 rfl K dL_2148 ?_
  refine G_iconst (v := 1) rfl K dL_2150 ?_
  refine G_iadd K dL_2151 ?_
  obtain ⟨hin, h⟩ := wpO_g h
  refine G_sld K hX hbl hbA dL_2152 hin ?_
  refine G_aload_n rfl 0 rfl K dL_2153 ?_
  refine G_iload 4 rfl K dL_2154 ?_
  refine G_iconst (v := 2) rfl K dL_2156 ?_
  refine G_iadd K dL_2157 ?_
  obtain ⟨hin, h⟩ := wpO_g h
  refine G_sld K hX hbl hbA dL_2158 hin ?_
  refine G_aload_n rfl 3 rfl K dL_2159 ?_
  obtain ⟨r1, e1, h⟩ := wpO_bind h
  refine G_callH [.ref (g.2.1 0), .int (xs (x4 + 1).toNatClampNeg), .int (xs (x4 + 2).toNatClampNeg), .ref (g.2.1 121)] [] K dL_2160 wv_1306 yd_L_meet (by decide) ⟨by show C + 0 + 4 ≤ 601024; omega, by show S + 0 + 24 ≤ 7293034; omega⟩ rfl rfl (Nat.le_of_ble_eq_true rfl) (K_LAW_meet l g htr (xs (x4 + 1).toNatClampNeg) (xs (x4 + 2).toNatClampNeg) M _ _ e1) ?_
  refine G_istore K dL_2163 (Nat.le_of_ble_eq_true rfl) rfl ?_
  refine G_aload_n rfl 3 rfl K dL_2165 ?_
  refine G_aload_n rfl 1 rfl K dL_2166 ?_
  refine G_iload 5 rfl K dL_2167 ?_
  refine G_iconst (v := 1) rfl K dL_2169 ?_
  refine G_iadd K dL_2170 ?_
  obtain ⟨hin, h⟩ := wpO_g h
  refine G_sld K hX hbl hbA dL_2171 hin ?_
  refine G_aload_n rfl 1 rfl K dL_2172 ?_
  refine G_iload 5 rfl K dL_2173 ?_
  refine G_iconst (v := 2) rfl K dL_2175 ?_
  refine G_iadd K dL_2176 ?_
  obtain ⟨hin, h⟩ := wpO_g h
  refine G_sld K hX hbl hbA dL_2177 hin ?_
  obtain ⟨r2, e2, h⟩ := wpO_bind h
  refine G_callVi (ci := 12) [.int (xs (x4 + 1).toNatClampNeg), .int (xs (x4 + 2).toNatClampNeg)] [] K dL_2178 wv_1954 yd_X12_meet (Nat.le_of_ble_eq_true rfl) (sh_94 _ _) rfl (by decide) ⟨by show C + 4 + 0 ≤ 601024; omega, by show S + 24 + 0 ≤ 7293034; omega⟩ rfl rfl (Nat.le_of_ble_eq_true rfl) (K_MO_meet l g htr (xs (x4 + 1).toNatClampNeg) (xs (x4 + 2).toNatClampNeg) r1.2 _ _ e2) ?_
  refine G_istore K dL_2181 (Nat.le_of_ble_eq_true rfl) rfl ?_
  refine G_aload_n rfl 4 rfl K dL_2183 ?_
  obtain ⟨r3, e3, h⟩ := wpO_bind h
  refine G_callVi (ci := 12) [] [] K dL_2184 wv_1465 yd_X12_thrown (Nat.le_of_ble_eq_true rfl) (sh_94 _ _) rfl (by decide) ⟨by show C + 4 + 0 ≤ 601024; omega, by show S + 24 + 0 ≤ 7293034; omega⟩ rfl rfl (Nat.le_of_ble_eq_true rfl) (K_MO_thrown l g htr  r2.2 _ e3) ?_
  refine G_iload 1 rfl K dL_2187 ?_
  refine G_icmp_eq (tgt := 2194) K dL_2189 (by decide) (fun hc => ?_) (fun hc => ?_)
  · have h := wpO_t h hc
    refine G_iload 1 rfl K dL_2194 ?_
    refine G_if_ne (tgt := 2211) K dL_2196 (by decide) (fun hc => ?_) (fun hc => ?_)
    · have h := wpO_f h hc
      refine G_goto (tgt := 2782) K dL_2211 (by decide) ?_
      exact G_wide (k := C + 8) (n := S + 48) (by show C + 4 ≤ C + 8; omega) (by show S + 24 ≤ S + 48; omega) (G_lv (lv' := [(0, .ref b), (1, .ref (g.2.1 0)), (2, .ref (g.2.1 94)), (3, .ref (g.2.1 121)), (4, .int x4)]) [2, 3, 4, 5, 6] rfl (hnext r2.2 (wpO_some h)))
    · have h := wpO_t h hc
      refine G_aload_n rfl 5 rfl K dL_2199 ?_
      refine G_iconst (v := 0) rfl K dL_2200 ?_
      obtain ⟨hin, h⟩ := wpO_g h
      refine G_lald K dL_2201 (Nat.le_of_ble_eq_true rfl) (sh_121 _ _) hin ?_
      refine G_iload 0 rfl K dL_2202 ?_
      refine G_i2l K dL_2204 ?_
      refine G_lcmp_eq (tgt := 2211) K dL_2205 dL_2206 (by decide) (fun hc => ?_) (fun hc => ?_)
      · have h := wpO_t h hc
        refine G_goto (tgt := 2782) K dL_2211 (by decide) ?_
        exact G_wide (k := C + 8) (n := S + 48) (by show C + 4 ≤ C + 8; omega) (by show S + 24 ≤ S + 48; omega) (G_lv (lv' := [(0, .ref b), (1, .ref (g.2.1 0)), (2, .ref (g.2.1 94)), (3, .ref (g.2.1 121)), (4, .int x4)]) [2, 3, 4, 5, 6] rfl (hnext r2.2 (wpO_some h)))
      · have h := wpO_f h hc
        refine G_iconst (v := 0) rfl K dL_2209 ?_
        exact wpO_none h
  · have h := wpO_f h hc
    refine G_iconst (v := 0) rfl K dL_2192 ?_
    exact wpO_none h
def F_LAWc_2214 (xs : Nat → Int32) (L : Nat) (x4 : Int32) (M : Mem) : Option Mem :=
  if inb (x4 + 1) L then (F_LAW_grow (xs (x4 + 1).toNatClampNeg) M).bind fun r1 => if inb (x4 + 1) L then (F_MO_grow (xs (x4 + 1).toNatClampNeg) r1.2).bind fun r2 => (F_MO_thrown r2.2).bind fun r3 => if r3 = r1.1 then if r1.1 = 0 then if inb ((0 : Int32)) 1 then if (r2.2.2 121 ((0 : Int32)).toNatClampNeg) = r2.1.toInt64 then some r2.2 else none else none else some r2.2 else none else none else none
set_option maxRecDepth 100000 in
set_option maxHeartbeats 8000000 in
theorem K_LAWc_2214 {p : Program} {l : Launch} {e : Env} {s : State} {m : MethodId} {args : Array Value} {below : List Frame} {meth : Method} {c : Code} {g : GB} {Q : State → Prop} {b L : Nat} {xs : Nat → Int32} (K : KF p l s m args meth c g code 8 "KeptWellLaw") (htr : l.stackTraces = false) (hX : va_X b L xs s s.heap) (hbl : b < s.heap.size) (hbA : ¬ AS g s.heap.size b) (C S : Nat) (hC : C + 8 ≤ 601024) (hS : S + 48 ≤ 7293034) (x4 : Int32) (M : Mem) (PHI : Mem → Prop) (hnext : ∀ M, PHI M → GG p l e room_1 s m args below meth c g 8 Q (C + 8) (S + 48) 2782 [(0, .ref b), (1, .ref (g.2.1 0)), (2, .ref (g.2.1 94)), (3, .ref (g.2.1 121)), (4, .int x4)] [] M) (h : wpO (F_LAWc_2214 xs L x4 M) PHI) : GG p l e room_1 s m args below meth c g 8 Q C S 2214 [(0, .ref b), (1, .ref (g.2.1 0)), (2, .ref (g.2.1 94)), (3, .ref (g.2.1 121)), (4, .int x4)] [] M := by
  unfold F_LAWc_2214 at h
  refine G_aload_n rfl 1 rfl K dL_2214 ?_
  refine G_aload_n rfl 0 rfl K dL_2215 ?_
  refine G_iload 4 rfl K dL_2216 ?_
  refine G_iconst (v := 1) rfl K dL_2218 ?_
  refine G_iadd K dL_2219 ?_
  obtain ⟨hin, h⟩ := wpO_g h
  refine G_sld K hX hbl hbA dL_2220 hin ?_
  refine G_aload_n rfl 3 rfl K dL_2221 ?_
  obtain ⟨r1, e1, h⟩ := wpO_bind h
  refine G_callH [.ref (g.2.1 0), .int (xs (x4 + 1).toNatClampNeg), .ref (g.2.1 121)] [] K dL_2222 wv_1317 yd_L_grow (by decide) ⟨by show C + 0 + 1 ≤ 601024; omega, by show S + 0 + 6 ≤ 7293034; omega⟩ rfl rfl (Nat.le_of_ble_eq_true rfl) (K_LAW_grow l g htr (xs (x4 + 1).toNatClampNeg) M _ _ e1) ?_
  refine G_istore K dL_2225 (Nat.le_of_ble_eq_true rfl) rfl ?_
  refine G_aload_n rfl 3 rfl K dL_2227 ?_
  refine G_aload_n rfl 1 rfl K dL_2228 ?_
  refine G_iload 5 rfl K dL_2229 ?_
  refine G_iconst (v := 1) rfl K dL_2231 ?_
  refine G_iadd K dL_2232 ?_
  obtain ⟨hin, h⟩ := wpO_g h
  refine G_sld K hX hbl hbA dL_2233 hin ?_
  obtain ⟨r2, e2, h⟩ := wpO_bind h
  refine G_callVi (ci := 12) [.int (xs (x4 + 1).toNatClampNeg)] [] K dL_2234 wv_1962 yd_X12_grow (Nat.le_of_ble_eq_true rfl) (sh_94 _ _) rfl (by decide) ⟨by show C + 1 + 0 ≤ 601024; omega, by show S + 6 + 0 ≤ 7293034; omega⟩ rfl rfl (Nat.le_of_ble_eq_true rfl) (K_MO_grow l g htr (xs (x4 + 1).toNatClampNeg) r1.2 _ _ e2) ?_
  refine G_istore K dL_2237 (Nat.le_of_ble_eq_true rfl) rfl ?_
  refine G_aload_n rfl 4 rfl K dL_2239 ?_
  obtain ⟨r3, e3, h⟩ := wpO_bind h
  refine G_callVi (ci := 12) [] [] K dL_2240 wv_1465 yd_X12_thrown (Nat.le_of_ble_eq_true rfl) (sh_94 _ _) rfl (by decide) ⟨by show C + 1 + 0 ≤ 601024; omega, by show S + 6 + 0 ≤ 7293034; omega⟩ rfl rfl (Nat.le_of_ble_eq_true rfl) (K_MO_thrown l g htr  r2.2 _ e3) ?_
  refine G_iload 1 rfl K dL_2243 ?_
  refine G_icmp_eq (tgt := 2250) K dL_2245 (by decide) (fun hc => ?_) (fun hc => ?_)
  · have h := wpO_t h hc
    refine G_iload 1 rfl K dL_2250 ?_
    refine G_if_ne (tgt := 2267) K dL_2252 (by decide) (fun hc => ?_) (fun hc => ?_)
    · have h := wpO_f h hc
      refine G_goto (tgt := 2782) K dL_2267 (by decide) ?_
      exact G_wide (k := C + 8) (n := S + 48) (by show C + 1 ≤ C + 8; omega) (by show S + 6 ≤ S + 48; omega) (G_lv (lv' := [(0, .ref b), (1, .ref (g.2.1 0)), (2, .ref (g.2.1 94)), (3, .ref (g.2.1 121)), (4, .int x4)]) [2, 3, 4, 5, 6] rfl (hnext r2.2 (wpO_some h)))
    · have h := wpO_t h hc
      refine G_aload_n rfl 5 rfl K dL_2255 ?_
      refine G_iconst (v := 0) rfl K dL_2256 ?_
      obtain ⟨hin, h⟩ := wpO_g h
      refine G_lald K dL_2257 (Nat.le_of_ble_eq_true rfl) (sh_121 _ _) hin ?_
      refine G_iload 0 rfl K dL_2258 ?_
      refine G_i2l K dL_2260 ?_
      refine G_lcmp_eq (tgt := 2267) K dL_2261 dL_2262 (by decide) (fun hc => ?_) (fun hc => ?_)
      · have h := wpO_t h hc
        refine G_goto (tgt := 2782) K dL_2267 (by decide) ?_
        exact G_wide (k := C + 8) (n := S + 48) (by show C + 1 ≤ C + 8; omega) (by show S + 6 ≤ S + 48; omega) (G_lv (lv' := [(0, .ref b), (1, .ref (g.2.1 0)), (2, .ref (g.2.1 94)), (3, .ref (g.2.1 121)), (4, .int x4)]) [2, 3, 4, 5, 6] rfl (hnext r2.2 (wpO_some h)))
      · have h := wpO_f h hc
        refine G_iconst (v := 0) rfl K dL_2265 ?_
        exact wpO_none h
  · have h := wpO_f h hc
    refine G_iconst (v := 0) rfl K dL_2248 ?_
    exact wpO_none h
def F_LAWc_2270 (xs : Nat → Int32) (L : Nat) (x4 : Int32) (M : Mem) : Option Mem :=
  if inb (x4 + 1) L then (F_LAW_beings (xs (x4 + 1).toNatClampNeg) M).bind fun r1 => if inb (x4 + 1) L then (F_MO_beings (xs (x4 + 1).toNatClampNeg) r1.2).bind fun r2 => (F_MO_thrown r2.2).bind fun r3 => if r3 = r1.1 then if r1.1 = 0 then if inb ((0 : Int32)) 1 then if (r2.2.2 121 ((0 : Int32)).toNatClampNeg) = r2.1.toInt64 then some r2.2 else none else none else some r2.2 else none else none else none
set_option maxRecDepth 100000 in
set_option maxHeartbeats 8000000 in
theorem K_LAWc_2270 {p : Program} {l : Launch} {e : Env} {s : State} {m : MethodId} {args : Array Value} {below : List Frame} {meth : Method} {c : Code} {g : GB} {Q : State → Prop} {b L : Nat} {xs : Nat → Int32} (K : KF p l s m args meth c g code 8 "KeptWellLaw") (htr : l.stackTraces = false) (hX : va_X b L xs s s.heap) (hbl : b < s.heap.size) (hbA : ¬ AS g s.heap.size b) (C S : Nat) (hC : C + 8 ≤ 601024) (hS : S + 48 ≤ 7293034) (x4 : Int32) (M : Mem) (PHI : Mem → Prop) (hnext : ∀ M, PHI M → GG p l e room_1 s m args below meth c g 8 Q (C + 8) (S + 48) 2782 [(0, .ref b), (1, .ref (g.2.1 0)), (2, .ref (g.2.1 94)), (3, .ref (g.2.1 121)), (4, .int x4)] [] M) (h : wpO (F_LAWc_2270 xs L x4 M) PHI) : GG p l e room_1 s m args below meth c g 8 Q C S 2270 [(0, .ref b), (1, .ref (g.2.1 0)), (2, .ref (g.2.1 94)), (3, .ref (g.2.1 121)), (4, .int x4)] [] M := by
  unfold F_LAWc_2270 at h
  refine G_aload_n rfl 1 rfl K dL_2270 ?_
  refine G_aload_n rfl 0 rfl K dL_2271 ?_
  refine G_iload 4 rfl K dL_2272 ?_
  refine G_iconst (v := 1) rfl K dL_2274 ?_
  refine G_iadd K dL_2275 ?_
  obtain ⟨hin, h⟩ := wpO_g h
  refine G_sld K hX hbl hbA dL_2276 hin ?_
  refine G_aload_n rfl 3 rfl K dL_2277 ?_
  obtain ⟨r1, e1, h⟩ := wpO_bind h
  refine G_callH [.ref (g.2.1 0), .int (xs (x4 + 1).toNatClampNeg), .ref (g.2.1 121)] [] K dL_2278 wv_1362 yd_L_beings (by decide) ⟨by show C + 0 + 1 ≤ 601024; omega, by show S + 0 + 6 ≤ 7293034; omega⟩ rfl rfl (Nat.le_of_ble_eq_true rfl) (K_LAW_beings l g htr (xs (x4 + 1).toNatClampNeg) M _ _ e1) ?_
  refine G_istore K dL_2281 (Nat.le_of_ble_eq_true rfl) rfl ?_
  refine G_aload_n rfl 3 rfl K dL_2283 ?_
  refine G_aload_n rfl 1 rfl K dL_2284 ?_
  refine G_iload 5 rfl K dL_2285 ?_
  refine G_iconst (v := 1) rfl K dL_2287 ?_
  refine G_iadd K dL_2288 ?_
  obtain ⟨hin, h⟩ := wpO_g h
  refine G_sld K hX hbl hbA dL_2289 hin ?_
  obtain ⟨r2, e2, h⟩ := wpO_bind h
  refine G_callVi (ci := 12) [.int (xs (x4 + 1).toNatClampNeg)] [] K dL_2290 wv_1970 yd_X12_beings (Nat.le_of_ble_eq_true rfl) (sh_94 _ _) rfl (by decide) ⟨by show C + 1 + 0 ≤ 601024; omega, by show S + 6 + 0 ≤ 7293034; omega⟩ rfl rfl (Nat.le_of_ble_eq_true rfl) (K_MO_beings l g htr (xs (x4 + 1).toNatClampNeg) r1.2 _ _ e2) ?_
  refine G_istore K dL_2293 (Nat.le_of_ble_eq_true rfl) rfl ?_
  refine G_aload_n rfl 4 rfl K dL_2295 ?_
  obtain ⟨r3, e3, h⟩ := wpO_bind h
  refine G_callVi (ci := 12) [] [] K dL_2296 wv_1465 yd_X12_thrown (Nat.le_of_ble_eq_true rfl) (sh_94 _ _) rfl (by decide) ⟨by show C + 1 + 0 ≤ 601024; omega, by show S + 6 + 0 ≤ 7293034; omega⟩ rfl rfl (Nat.le_of_ble_eq_true rfl) (K_MO_thrown l g htr  r2.2 _ e3) ?_
  refine G_iload 1 rfl K dL_2299 ?_
  refine G_icmp_eq (tgt := 2306) K dL_2301 (by decide) (fun hc => ?_) (fun hc => ?_)
  · have h := wpO_t h hc
    refine G_iload 1 rfl K dL_2306 ?_
    refine G_if_ne (tgt := 2323) K dL_2308 (by decide) (fun hc => ?_) (fun hc => ?_)
    · have h := wpO_f h hc
      refine G_goto (tgt := 2782) K dL_2323 (by decide) ?_
      exact G_wide (k := C + 8) (n := S + 48) (by show C + 1 ≤ C + 8; omega) (by show S + 6 ≤ S + 48; omega) (G_lv (lv' := [(0, .ref b), (1, .ref (g.2.1 0)), (2, .ref (g.2.1 94)), (3, .ref (g.2.1 121)), (4, .int x4)]) [2, 3, 4, 5, 6] rfl (hnext r2.2 (wpO_some h)))
    · have h := wpO_t h hc
      refine G_aload_n rfl 5 rfl K dL_2311 ?_
      refine G_iconst (v := 0) rfl K dL_2312 ?_
      obtain ⟨hin, h⟩ := wpO_g h
      refine G_lald K dL_2313 (Nat.le_of_ble_eq_true rfl) (sh_121 _ _) hin ?_
      refine G_iload 0 rfl K dL_2314 ?_
      refine G_i2l K dL_2316 ?_
      refine G_lcmp_eq (tgt := 2323) K dL_2317 dL_2318 (by decide) (fun hc => ?_) (fun hc => ?_)
      · have h := wpO_t h hc
        refine G_goto (tgt := 2782) K dL_2323 (by decide) ?_
        exact G_wide (k := C + 8) (n := S + 48) (by show C + 1 ≤ C + 8; omega) (by show S + 6 ≤ S + 48; omega) (G_lv (lv' := [(0, .ref b), (1, .ref (g.2.1 0)), (2, .ref (g.2.1 94)), (3, .ref (g.2.1 121)), (4, .int x4)]) [2, 3, 4, 5, 6] rfl (hnext r2.2 (wpO_some h)))
      · have h := wpO_f h hc
        refine G_iconst (v := 0) rfl K dL_2321 ?_
        exact wpO_none h
  · have h := wpO_f h hc
    refine G_iconst (v := 0) rfl K dL_2304 ?_
    exact wpO_none h
def F_LAWc_2326_j2380 (xs : Nat → Int32) (L : Nat) (x4 : Int32) (s0 : Int64) (s1 : Int64) (M : Mem) : Option (Mem) :=
  if s0 = s1 then some M else none
def F_LAWc_2326 (xs : Nat → Int32) (L : Nat) (x4 : Int32) (M : Mem) : Option Mem :=
  if inb (x4 + 1) L then (F_LAW_stays (xs (x4 + 1).toNatClampNeg) M).bind fun r1 => if inb (x4 + 1) L then (F_MO_stays (xs (x4 + 1).toNatClampNeg) r1.2).bind fun r2 => (F_MO_thrown r2.2).bind fun r3 => if r3 = r1.1 then if r1.1 = 0 then if inb ((0 : Int32)) 1 then if r2.1 = true then F_LAWc_2326_j2380 xs L x4 (r2.2.2 121 ((0 : Int32)).toNatClampNeg) 1 r2.2 else F_LAWc_2326_j2380 xs L x4 (r2.2.2 121 ((0 : Int32)).toNatClampNeg) 0 r2.2 else none else some r2.2 else none else none else none
set_option maxRecDepth 100000 in
set_option maxHeartbeats 8000000 in
theorem K_LAWc_2326 {p : Program} {l : Launch} {e : Env} {s : State} {m : MethodId} {args : Array Value} {below : List Frame} {meth : Method} {c : Code} {g : GB} {Q : State → Prop} {b L : Nat} {xs : Nat → Int32} (K : KF p l s m args meth c g code 8 "KeptWellLaw") (htr : l.stackTraces = false) (hX : va_X b L xs s s.heap) (hbl : b < s.heap.size) (hbA : ¬ AS g s.heap.size b) (C S : Nat) (hC : C + 8 ≤ 601024) (hS : S + 48 ≤ 7293034) (x4 : Int32) (M : Mem) (PHI : Mem → Prop) (hnext : ∀ M, PHI M → GG p l e room_1 s m args below meth c g 8 Q (C + 8) (S + 48) 2782 [(0, .ref b), (1, .ref (g.2.1 0)), (2, .ref (g.2.1 94)), (3, .ref (g.2.1 121)), (4, .int x4)] [] M) (h : wpO (F_LAWc_2326 xs L x4 M) PHI) : GG p l e room_1 s m args below meth c g 8 Q C S 2326 [(0, .ref b), (1, .ref (g.2.1 0)), (2, .ref (g.2.1 94)), (3, .ref (g.2.1 121)), (4, .int x4)] [] M := by
  have J2380 : ∀ (s0 : Int64) (s1 : Int64) (M : Mem), wpO (F_LAWc_2326_j2380 xs L x4 s0 s1 M) PHI → GG p l e room_1 s m args below meth c g 8 Q (C + 2) (S + 12) 2380 [(0, .ref b), (1, .ref (g.2.1 0)), (2, .ref (g.2.1 94)), (3, .ref (g.2.1 121)), (4, .int x4)] [.long s1, .long s0] M := by
    intro s0 s1 M h
    unfold F_LAWc_2326_j2380 at h
    refine G_lcmp_eq (tgt := 2386) K dL_2380 dL_2381 (by decide) (fun hc => ?_) (fun hc => ?_)
    · have h := wpO_t h hc
      refine G_goto (tgt := 2782) K dL_2386 (by decide) ?_
      exact G_wide (k := C + 8) (n := S + 48) (by show C + 2 ≤ C + 8; omega) (by show S + 12 ≤ S + 48; omega) (hnext M (wpO_some h))
    · have h := wpO_f h hc
      refine G_iconst (v := 0) rfl K dL_2384 ?_
      exact wpO_none h
  unfold F_LAWc_2326 at h
  refine G_aload_n rfl 1 rfl K dL_2326 ?_
  refine G_aload_n rfl 0 rfl K dL_2327 ?_
  refine G_iload 4 rfl K dL_2328 ?_
  refine G_iconst (v := 1) rfl K dL_2330 ?_
  refine G_iadd K dL_2331 ?_
  obtain ⟨hin, h⟩ := wpO_g h
  refine G_sld K hX hbl hbA dL_2332 hin ?_
  refine G_aload_n rfl 3 rfl K dL_2333 ?_
  obtain ⟨r1, e1, h⟩ := wpO_bind h
  refine G_callH [.ref (g.2.1 0), .int (xs (x4 + 1).toNatClampNeg), .ref (g.2.1 121)] [] K dL_2334 wv_1369 yd_L_stays (by decide) ⟨by show C + 0 + 2 ≤ 601024; omega, by show S + 0 + 12 ≤ 7293034; omega⟩ rfl rfl (Nat.le_of_ble_eq_true rfl) (K_LAW_stays l g htr (xs (x4 + 1).toNatClampNeg) M _ _ e1) ?_
  refine G_istore K dL_2337 (Nat.le_of_ble_eq_true rfl) rfl ?_
  refine G_aload_n rfl 3 rfl K dL_2339 ?_
  refine G_aload_n rfl 1 rfl K dL_2340 ?_
  refine G_iload 5 rfl K dL_2341 ?_
  refine G_iconst (v := 1) rfl K dL_2343 ?_
  refine G_iadd K dL_2344 ?_
  obtain ⟨hin, h⟩ := wpO_g h
  refine G_sld K hX hbl hbA dL_2345 hin ?_
  obtain ⟨r2, e2, h⟩ := wpO_bind h
  refine G_callVi (ci := 12) [.int (xs (x4 + 1).toNatClampNeg)] [] K dL_2346 wv_1974 yd_X12_stays (Nat.le_of_ble_eq_true rfl) (sh_94 _ _) rfl (by decide) ⟨by show C + 2 + 0 ≤ 601024; omega, by show S + 12 + 0 ≤ 7293034; omega⟩ rfl rfl (Nat.le_of_ble_eq_true rfl) (K_MO_stays l g htr (xs (x4 + 1).toNatClampNeg) r1.2 _ _ e2) ?_
  refine G_istore K dL_2349 (Nat.le_of_ble_eq_true rfl) rfl ?_
  refine G_aload_n rfl 4 rfl K dL_2351 ?_
  obtain ⟨r3, e3, h⟩ := wpO_bind h
  refine G_callVi (ci := 12) [] [] K dL_2352 wv_1465 yd_X12_thrown (Nat.le_of_ble_eq_true rfl) (sh_94 _ _) rfl (by decide) ⟨by show C + 2 + 0 ≤ 601024; omega, by show S + 12 + 0 ≤ 7293034; omega⟩ rfl rfl (Nat.le_of_ble_eq_true rfl) (K_MO_thrown l g htr  r2.2 _ e3) ?_
  refine G_iload 1 rfl K dL_2355 ?_
  refine G_icmp_eq (tgt := 2362) K dL_2357 (by decide) (fun hc => ?_) (fun hc => ?_)
  · have h := wpO_t h hc
    refine G_iload 1 rfl K dL_2362 ?_
    refine G_if_ne (tgt := 2386) K dL_2364 (by decide) (fun hc => ?_) (fun hc => ?_)
    · have h := wpO_f h hc
      refine G_goto (tgt := 2782) K dL_2386 (by decide) ?_
      exact G_wide (k := C + 8) (n := S + 48) (by show C + 2 ≤ C + 8; omega) (by show S + 12 ≤ S + 48; omega) (G_lv (lv' := [(0, .ref b), (1, .ref (g.2.1 0)), (2, .ref (g.2.1 94)), (3, .ref (g.2.1 121)), (4, .int x4)]) [2, 3, 4, 5, 6] rfl (hnext r2.2 (wpO_some h)))
    · have h := wpO_t h hc
      refine G_aload_n rfl 5 rfl K dL_2367 ?_
      refine G_iconst (v := 0) rfl K dL_2368 ?_
      obtain ⟨hin, h⟩ := wpO_g h
      refine G_lald K dL_2369 (Nat.le_of_ble_eq_true rfl) (sh_121 _ _) hin ?_
      refine G_iload 0 rfl K dL_2370 ?_
      refine G_ifb_eq (tgt := 2379) K dL_2372 (by decide) (fun hc => ?_) (fun hc => ?_)
      · have h := wpO_bf h hc
        refine G_lconst (v := 0) rfl K dL_2379 ?_
        exact G_lv (lv' := [(0, .ref b), (1, .ref (g.2.1 0)), (2, .ref (g.2.1 94)), (3, .ref (g.2.1 121)), (4, .int x4)]) [2, 3, 4, 5, 6] rfl (J2380 (r2.2.2 121 ((0 : Int32)).toNatClampNeg) 0 r2.2 h)
      · have h := wpO_t h hc
        refine G_lconst (v := 1) rfl K dL_2375 ?_
        refine G_goto (tgt := 2380) K dL_2376 (by decide) ?_
        exact G_lv (lv' := [(0, .ref b), (1, .ref (g.2.1 0)), (2, .ref (g.2.1 94)), (3, .ref (g.2.1 121)), (4, .int x4)]) [2, 3, 4, 5, 6] rfl (J2380 (r2.2.2 121 ((0 : Int32)).toNatClampNeg) 1 r2.2 h)
  · have h := wpO_f h hc
    refine G_iconst (v := 0) rfl K dL_2360 ?_
    exact wpO_none h
def F_LAWc_2389 (xs : Nat → Int32) (L : Nat) (x4 : Int32) (M : Mem) : Option Mem :=
  if inb (x4 + 1) L then if inb (x4 + 2) L then (F_LAW_all (xs (x4 + 1).toNatClampNeg) (xs (x4 + 2).toNatClampNeg) M).bind fun r1 => if inb (x4 + 1) L then if inb (x4 + 2) L then (F_MO_all (xs (x4 + 1).toNatClampNeg) (xs (x4 + 2).toNatClampNeg) r1.2).bind fun r2 => (F_MO_thrown r2.2).bind fun r3 => if r3 = r1.1 then if r1.1 = 0 then if inb ((0 : Int32)) 1 then if (r2.2.2 121 ((0 : Int32)).toNatClampNeg) = r2.1.toInt64 then some r2.2 else none else none else some r2.2 else none else none else none else none else none
set_option maxRecDepth 100000 in
set_option maxHeartbeats 8000000 in
theorem K_LAWc_2389 {p : Program} {l : Launch} {e : Env} {s : State} {m : MethodId} {args : Array Value} {below : List Frame} {meth : Method} {c : Code} {g : GB} {Q : State → Prop} {b L : Nat} {xs : Nat → Int32} (K : KF p l s m args meth c g code 8 "KeptWellLaw") (htr : l.stackTraces = false) (hX : va_X b L xs s s.heap) (hbl : b < s.heap.size) (hbA : ¬ AS g s.heap.size b) (C S : Nat) (hC : C + 8 ≤ 601024) (hS : S + 48 ≤ 7293034) (x4 : Int32) (M : Mem) (PHI : Mem → Prop) (hnext : ∀ M, PHI M → GG p l e room_1 s m args below meth c g 8 Q (C + 8) (S + 48) 2782 [(0, .ref b), (1, .ref (g.2.1 0)), (2, .ref (g.2.1 94)), (3, .ref (g.2.1 121)), (4, .int x4)] [] M) (h : wpO (F_LAWc_2389 xs L x4 M) PHI) : GG p l e room_1 s m args below meth c g 8 Q C S 2389 [(0, .ref b), (1, .ref (g.2.1 0)), (2, .ref (g.2.1 94)), (3, .ref (g.2.1 121)), (4, .int x4)] [] M := by
  unfold F_LAWc_2389 at h
  refine G_aload_n rfl 1 rfl K dL_2389 ?_
  refine G_aload_n rfl 0 rfl K dL_2390 ?_
  refine G_iload 4 rfl K dL_2391 ?_
  refine G_iconst (v := 1) rfl K dL_2393 ?_
  refine G_iadd K dL_2394 ?_
  obtain ⟨hin, h⟩ := wpO_g h
  refine G_sld K hX hbl hbA dL_2395 hin ?_
  refine G_aload_n rfl 0 rfl K dL_2396 ?_
  refine G_iload 4 rfl K dL_2397 ?_
  refine G_iconst (v := 2) rfl K dL_2399 ?_
  refine G_iadd K dL_2400 ?_
  obtain ⟨hin, h⟩ := wpO_g h
  refine G_sld K hX hbl hbA dL_2401 hin ?_
  refine G_aload_n rfl 3 rfl K dL_2402 ?_
  obtain ⟨r1, e1, h⟩ := wpO_bind h
  refine G_callH [.ref (g.2.1 0), .int (xs (x4 + 1).toNatClampNeg), .int (xs (x4 + 2).toNatClampNeg), .ref (g.2.1 121)] [] K dL_2403 wv_1384 yd_L_all (by decide) ⟨by show C + 0 + 4 ≤ 601024; omega, by show S + 0 + 24 ≤ 7293034; omega⟩ rfl rfl (Nat.le_of_ble_eq_true rfl) (K_LAW_all l g htr (xs (x4 + 1).toNatClampNeg) (xs (x4 + 2).toNatClampNeg) M _ _ e1) ?_
  refine G_istore K dL_2406 (Nat.le_of_ble_eq_true rfl) rfl ?_
  refine G_aload_n rfl 3 rfl K dL_2408 ?_
  refine G_aload_n rfl 1 rfl K dL_2409 ?_
  refine G_iload 5 rfl K dL_2410 ?_
  refine G_iconst (v := 1) rfl K dL_2412 ?_
  refine G_iadd K dL_2413 ?_
  obtain ⟨hin, h⟩ := wpO_g h
  refine G_sld K hX hbl hbA dL_2414 hin ?_
  refine G_aload_n rfl 1 rfl K dL_2415 ?_
  refine G_iload 5 rfl K dL_2416 ?_
  refine G_iconst (v := 2) rfl K dL_2418 ?_
  refine G_iadd K dL_2419 ?_
  obtain ⟨hin, h⟩ := wpO_g h
  refine G_sld K hX hbl hbA dL_2420 hin ?_
  obtain ⟨r2, e2, h⟩ := wpO_bind h
  refine G_callVi (ci := 12) [.int (xs (x4 + 1).toNatClampNeg), .int (xs (x4 + 2).toNatClampNeg)] [] K dL_2421 wv_1978 yd_X12_all (Nat.le_of_ble_eq_true rfl) (sh_94 _ _) rfl (by decide) ⟨by show C + 4 + 0 ≤ 601024; omega, by show S + 24 + 0 ≤ 7293034; omega⟩ rfl rfl (Nat.le_of_ble_eq_true rfl) (K_MO_all l g htr (xs (x4 + 1).toNatClampNeg) (xs (x4 + 2).toNatClampNeg) r1.2 _ _ e2) ?_
  refine G_istore K dL_2424 (Nat.le_of_ble_eq_true rfl) rfl ?_
  refine G_aload_n rfl 4 rfl K dL_2426 ?_
  obtain ⟨r3, e3, h⟩ := wpO_bind h
  refine G_callVi (ci := 12) [] [] K dL_2427 wv_1465 yd_X12_thrown (Nat.le_of_ble_eq_true rfl) (sh_94 _ _) rfl (by decide) ⟨by show C + 4 + 0 ≤ 601024; omega, by show S + 24 + 0 ≤ 7293034; omega⟩ rfl rfl (Nat.le_of_ble_eq_true rfl) (K_MO_thrown l g htr  r2.2 _ e3) ?_
  refine G_iload 1 rfl K dL_2430 ?_
  refine G_icmp_eq (tgt := 2437) K dL_2432 (by decide) (fun hc => ?_) (fun hc => ?_)
  · have h := wpO_t h hc
    refine G_iload 1 rfl K dL_2437 ?_
    refine G_if_ne (tgt := 2454) K dL_2439 (by decide) (fun hc => ?_) (fun hc => ?_)
    · have h := wpO_f h hc
      refine G_goto (tgt := 2782) K dL_2454 (by decide) ?_
      exact G_wide (k := C + 8) (n := S + 48) (by show C + 4 ≤ C + 8; omega) (by show S + 24 ≤ S + 48; omega) (G_lv (lv' := [(0, .ref b), (1, .ref (g.2.1 0)), (2, .ref (g.2.1 94)), (3, .ref (g.2.1 121)), (4, .int x4)]) [2, 3, 4, 5, 6] rfl (hnext r2.2 (wpO_some h)))
    · have h := wpO_t h hc
      refine G_aload_n rfl 5 rfl K dL_2442 ?_
      refine G_iconst (v := 0) rfl K dL_2443 ?_
      obtain ⟨hin, h⟩ := wpO_g h
      refine G_lald K dL_2444 (Nat.le_of_ble_eq_true rfl) (sh_121 _ _) hin ?_
      refine G_iload 0 rfl K dL_2445 ?_
      refine G_i2l K dL_2447 ?_
      refine G_lcmp_eq (tgt := 2454) K dL_2448 dL_2449 (by decide) (fun hc => ?_) (fun hc => ?_)
      · have h := wpO_t h hc
        refine G_goto (tgt := 2782) K dL_2454 (by decide) ?_
        exact G_wide (k := C + 8) (n := S + 48) (by show C + 4 ≤ C + 8; omega) (by show S + 24 ≤ S + 48; omega) (G_lv (lv' := [(0, .ref b), (1, .ref (g.2.1 0)), (2, .ref (g.2.1 94)), (3, .ref (g.2.1 121)), (4, .int x4)]) [2, 3, 4, 5, 6] rfl (hnext r2.2 (wpO_some h)))
      · have h := wpO_f h hc
        refine G_iconst (v := 0) rfl K dL_2452 ?_
        exact wpO_none h
  · have h := wpO_f h hc
    refine G_iconst (v := 0) rfl K dL_2435 ?_
    exact wpO_none h
def F_LAWc_2457 (xs : Nat → Int32) (L : Nat) (x4 : Int32) (M : Mem) : Option Mem :=
  if inb (x4 + 1) L then if inb (x4 + 2) L then (F_LAW_begin (xs (x4 + 1).toNatClampNeg) (xs (x4 + 2).toNatClampNeg) M).bind fun r1 => if inb (x4 + 1) L then if inb (x4 + 2) L then (F_MO_begin (xs (x4 + 1).toNatClampNeg) (xs (x4 + 2).toNatClampNeg) r1.2).bind fun r2 => (F_MO_thrown r2.2).bind fun r3 => if r3 = r1.1 then if r1.1 = 0 then if inb ((0 : Int32)) 1 then if (r2.2.2 121 ((0 : Int32)).toNatClampNeg) = r2.1.toInt64 then some r2.2 else none else none else some r2.2 else none else none else none else none else none
set_option maxRecDepth 100000 in
set_option maxHeartbeats 8000000 in
theorem K_LAWc_2457 {p : Program} {l : Launch} {e : Env} {s : State} {m : MethodId} {args : Array Value} {below : List Frame} {meth : Method} {c : Code} {g : GB} {Q : State → Prop} {b L : Nat} {xs : Nat → Int32} (K : KF p l s m args meth c g code 8 "KeptWellLaw") (htr : l.stackTraces = false) (hX : va_X b L xs s s.heap) (hbl : b < s.heap.size) (hbA : ¬ AS g s.heap.size b) (C S : Nat) (hC : C + 8 ≤ 601024) (hS : S + 48 ≤ 7293034) (x4 : Int32) (M : Mem) (PHI : Mem → Prop) (hnext : ∀ M, PHI M → GG p l e room_1 s m args below meth c g 8 Q (C + 8) (S + 48) 2782 [(0, .ref b), (1, .ref (g.2.1 0)), (2, .ref (g.2.1 94)), (3, .ref (g.2.1 121)), (4, .int x4)] [] M) (h : wpO (F_LAWc_2457 xs L x4 M) PHI) : GG p l e room_1 s m args below meth c g 8 Q C S 2457 [(0, .ref b), (1, .ref (g.2.1 0)), (2, .ref (g.2.1 94)), (3, .ref (g.2.1 121)), (4, .int x4)] [] M := by
  unfold F_LAWc_2457 at h
  refine G_aload_n rfl 1 rfl K dL_2457 ?_
  refine G_aload_n rfl 0 rfl K dL_2458 ?_
  refine G_iload 4 rfl K dL_2459 ?_
  refine G_iconst (v := 1) rfl K dL_2461 ?_
  refine G_iadd K dL_2462 ?_
  obtain ⟨hin, h⟩ := wpO_g h
  refine G_sld K hX hbl hbA dL_2463 hin ?_
  refine G_aload_n rfl 0 rfl K dL_2464 ?_
  refine G_iload 4 rfl K dL_2465 ?_
  refine G_iconst (v := 2) rfl K dL_2467 ?_
  refine G_iadd K dL_2468 ?_
  obtain ⟨hin, h⟩ := wpO_g h
  refine G_sld K hX hbl hbA dL_2469 hin ?_
  refine G_aload_n rfl 3 rfl K dL_2470 ?_
  obtain ⟨r1, e1, h⟩ := wpO_bind h
  refine G_callH [.ref (g.2.1 0), .int (xs (x4 + 1).toNatClampNeg), .int (xs (x4 + 2).toNatClampNeg), .ref (g.2.1 121)] [] K dL_2471 wv_1400 yd_L_begin (by decide) ⟨by show C + 0 + 4 ≤ 601024; omega, by show S + 0 + 24 ≤ 7293034; omega⟩ rfl rfl (Nat.le_of_ble_eq_true rfl) (K_LAW_begin l g htr (xs (x4 + 1).toNatClampNeg) (xs (x4 + 2).toNatClampNeg) M _ _ e1) ?_
  refine G_istore K dL_2474 (Nat.le_of_ble_eq_true rfl) rfl ?_
  refine G_aload_n rfl 3 rfl K dL_2476 ?_
  refine G_aload_n rfl 1 rfl K dL_2477 ?_
  refine G_iload 5 rfl K dL_2478 ?_
  refine G_iconst (v := 1) rfl K dL_2480 ?_
  refine G_iadd K dL_2481 ?_
  obtain ⟨hin, h⟩ := wpO_g h
  refine G_sld K hX hbl hbA dL_2482 hin ?_
  refine G_aload_n rfl 1 rfl K dL_2483 ?_
  refine G_iload 5 rfl K dL_2484 ?_
  refine G_iconst (v := 2) rfl K dL_2486 ?_
  refine G_iadd K dL_2487 ?_
  obtain ⟨hin, h⟩ := wpO_g h
  refine G_sld K hX hbl hbA dL_2488 hin ?_
  obtain ⟨r2, e2, h⟩ := wpO_bind h
  refine G_callVi (ci := 12) [.int (xs (x4 + 1).toNatClampNeg), .int (xs (x4 + 2).toNatClampNeg)] [] K dL_2489 wv_1986 yd_X12_begin (Nat.le_of_ble_eq_true rfl) (sh_94 _ _) rfl (by decide) ⟨by show C + 4 + 0 ≤ 601024; omega, by show S + 24 + 0 ≤ 7293034; omega⟩ rfl rfl (Nat.le_of_ble_eq_true rfl) (K_MO_begin l g htr (xs (x4 + 1).toNatClampNeg) (xs (x4 + 2).toNatClampNeg) r1.2 _ _ e2) ?_
  refine G_istore K dL_2492 (Nat.le_of_ble_eq_true rfl) rfl ?_
  refine G_aload_n rfl 4 rfl K dL_2494 ?_
  obtain ⟨r3, e3, h⟩ := wpO_bind h
  refine G_callVi (ci := 12) [] [] K dL_2495 wv_1465 yd_X12_thrown (Nat.le_of_ble_eq_true rfl) (sh_94 _ _) rfl (by decide) ⟨by show C + 4 + 0 ≤ 601024; omega, by show S + 24 + 0 ≤ 7293034; omega⟩ rfl rfl (Nat.le_of_ble_eq_true rfl) (K_MO_thrown l g htr  r2.2 _ e3) ?_
  refine G_iload 1 rfl K dL_2498 ?_
  refine G_icmp_eq (tgt := 2505) K dL_2500 (by decide) (fun hc => ?_) (fun hc => ?_)
  · have h := wpO_t h hc
    refine G_iload 1 rfl K dL_2505 ?_
    refine G_if_ne (tgt := 2522) K dL_2507 (by decide) (fun hc => ?_) (fun hc => ?_)
    · have h := wpO_f h hc
      refine G_goto (tgt := 2782) K dL_2522 (by decide) ?_
      exact G_wide (k := C + 8) (n := S + 48) (by show C + 4 ≤ C + 8; omega) (by show S + 24 ≤ S + 48; omega) (G_lv (lv' := [(0, .ref b), (1, .ref (g.2.1 0)), (2, .ref (g.2.1 94)), (3, .ref (g.2.1 121)), (4, .int x4)]) [2, 3, 4, 5, 6] rfl (hnext r2.2 (wpO_some h)))
    · have h := wpO_t h hc
      refine G_aload_n rfl 5 rfl K dL_2510 ?_
      refine G_iconst (v := 0) rfl K dL_2511 ?_
      obtain ⟨hin, h⟩ := wpO_g h
      refine G_lald K dL_2512 (Nat.le_of_ble_eq_true rfl) (sh_121 _ _) hin ?_
      refine G_iload 0 rfl K dL_2513 ?_
      refine G_i2l K dL_2515 ?_
      refine G_lcmp_eq (tgt := 2522) K dL_2516 dL_2517 (by decide) (fun hc => ?_) (fun hc => ?_)
      · have h := wpO_t h hc
        refine G_goto (tgt := 2782) K dL_2522 (by decide) ?_
        exact G_wide (k := C + 8) (n := S + 48) (by show C + 4 ≤ C + 8; omega) (by show S + 24 ≤ S + 48; omega) (G_lv (lv' := [(0, .ref b), (1, .ref (g.2.1 0)), (2, .ref (g.2.1 94)), (3, .ref (g.2.1 121)), (4, .int x4)]) [2, 3, 4, 5, 6] rfl (hnext r2.2 (wpO_some h)))
      · have h := wpO_f h hc
        refine G_iconst (v := 0) rfl K dL_2520 ?_
        exact wpO_none h
  · have h := wpO_f h hc
    refine G_iconst (v := 0) rfl K dL_2503 ?_
    exact wpO_none h
def F_LAWc_2525 (xs : Nat → Int32) (L : Nat) (x4 : Int32) (M : Mem) : Option Mem :=
  if inb (x4 + 1) L then if inb (x4 + 2) L then (F_LAW_villager (xs (x4 + 1).toNatClampNeg) (xs (x4 + 2).toNatClampNeg) M).bind fun r1 => if inb (x4 + 1) L then if inb (x4 + 2) L then (F_MO_villager (xs (x4 + 1).toNatClampNeg) (xs (x4 + 2).toNatClampNeg) r1.2).bind fun r2 => (F_MO_thrown r2.2).bind fun r3 => if r3 = r1.1 then if r1.1 = 0 then if inb ((0 : Int32)) 1 then if (r2.2.2 121 ((0 : Int32)).toNatClampNeg) = r2.1.toInt64 then some r2.2 else none else none else some r2.2 else none else none else none else none else none
set_option maxRecDepth 100000 in
set_option maxHeartbeats 8000000 in
theorem K_LAWc_2525 {p : Program} {l : Launch} {e : Env} {s : State} {m : MethodId} {args : Array Value} {below : List Frame} {meth : Method} {c : Code} {g : GB} {Q : State → Prop} {b L : Nat} {xs : Nat → Int32} (K : KF p l s m args meth c g code 8 "KeptWellLaw") (htr : l.stackTraces = false) (hX : va_X b L xs s s.heap) (hbl : b < s.heap.size) (hbA : ¬ AS g s.heap.size b) (C S : Nat) (hC : C + 8 ≤ 601024) (hS : S + 48 ≤ 7293034) (x4 : Int32) (M : Mem) (PHI : Mem → Prop) (hnext : ∀ M, PHI M → GG p l e room_1 s m args below meth c g 8 Q (C + 8) (S + 48) 2782 [(0, .ref b), (1, .ref (g.2.1 0)), (2, .ref (g.2.1 94)), (3, .ref (g.2.1 121)), (4, .int x4)] [] M) (h : wpO (F_LAWc_2525 xs L x4 M) PHI) : GG p l e room_1 s m args below meth c g 8 Q C S 2525 [(0, .ref b), (1, .ref (g.2.1 0)), (2, .ref (g.2.1 94)), (3, .ref (g.2.1 121)), (4, .int x4)] [] M := by
  unfold F_LAWc_2525 at h
  refine G_aload_n rfl 1 rfl K dL_2525 ?_
  refine G_aload_n rfl 0 rfl K dL_2526 ?_
  refine G_iload 4 rfl K dL_2527 ?_
  refine G_iconst (v := 1) rfl K dL_2529 ?_
  refine G_iadd K dL_2530 ?_
  obtain ⟨hin, h⟩ := wpO_g h
  refine G_sld K hX hbl hbA dL_2531 hin ?_
  refine G_aload_n rfl 0 rfl K dL_2532 ?_
  refine G_iload 4 rfl K dL_2533 ?_
  refine G_iconst (v := 2) rfl K dL_2535 ?_
  refine G_iadd K dL_2536 ?_
  obtain ⟨hin, h⟩ := wpO_g h
  refine G_sld K hX hbl hbA dL_2537 hin ?_
  refine G_aload_n rfl 3 rfl K dL_2538 ?_
  obtain ⟨r1, e1, h⟩ := wpO_bind h
  refine G_callH [.ref (g.2.1 0), .int (xs (x4 + 1).toNatClampNeg), .int (xs (x4 + 2).toNatClampNeg), .ref (g.2.1 121)] [] K dL_2539 wv_1418 yd_L_villager (by decide) ⟨by show C + 0 + 3 ≤ 601024; omega, by show S + 0 + 18 ≤ 7293034; omega⟩ rfl rfl (Nat.le_of_ble_eq_true rfl) (K_LAW_villager l g htr (xs (x4 + 1).toNatClampNeg) (xs (x4 + 2).toNatClampNeg) M _ _ e1) ?_
  refine G_istore K dL_2542 (Nat.le_of_ble_eq_true rfl) rfl ?_
  refine G_aload_n rfl 3 rfl K dL_2544 ?_
  refine G_aload_n rfl 1 rfl K dL_2545 ?_
  refine G_iload 5 rfl K dL_2546 ?_
  refine G_iconst (v := 1) rfl K dL_2548 ?_
  refine G_iadd K dL_2549 ?_
  obtain ⟨hin, h⟩ := wpO_g h
  refine G_sld K hX hbl hbA dL_2550 hin ?_
  refine G_aload_n rfl 1 rfl K dL_2551 ?_
  refine G_iload 5 rfl K dL_2552 ?_
  refine G_iconst (v := 2) rfl K dL_2554 ?_
  refine G_iadd K dL_2555 ?_
  obtain ⟨hin, h⟩ := wpO_g h
  refine G_sld K hX hbl hbA dL_2556 hin ?_
  obtain ⟨r2, e2, h⟩ := wpO_bind h
  refine G_callVi (ci := 12) [.int (xs (x4 + 1).toNatClampNeg), .int (xs (x4 + 2).toNatClampNeg)] [] K dL_2557 wv_1990 yd_X12_villager (Nat.le_of_ble_eq_true rfl) (sh_94 _ _) rfl (by decide) ⟨by show C + 3 + 0 ≤ 601024; omega, by show S + 18 + 0 ≤ 7293034; omega⟩ rfl rfl (Nat.le_of_ble_eq_true rfl) (K_MO_villager l g htr (xs (x4 + 1).toNatClampNeg) (xs (x4 + 2).toNatClampNeg) r1.2 _ _ e2) ?_
  refine G_istore K dL_2560 (Nat.le_of_ble_eq_true rfl) rfl ?_
  refine G_aload_n rfl 4 rfl K dL_2562 ?_
  obtain ⟨r3, e3, h⟩ := wpO_bind h
  refine G_callVi (ci := 12) [] [] K dL_2563 wv_1465 yd_X12_thrown (Nat.le_of_ble_eq_true rfl) (sh_94 _ _) rfl (by decide) ⟨by show C + 3 + 0 ≤ 601024; omega, by show S + 18 + 0 ≤ 7293034; omega⟩ rfl rfl (Nat.le_of_ble_eq_true rfl) (K_MO_thrown l g htr  r2.2 _ e3) ?_
  refine G_iload 1 rfl K dL_2566 ?_
  refine G_icmp_eq (tgt := 2573) K dL_2568 (by decide) (fun hc => ?_) (fun hc => ?_)
  · have h := wpO_t h hc
    refine G_iload 1 rfl K dL_2573 ?_
    refine G_if_ne (tgt := 2590) K dL_2575 (by decide) (fun hc => ?_) (fun hc => ?_)
    · have h := wpO_f h hc
      refine G_goto (tgt := 2782) K dL_2590 (by decide) ?_
      exact G_wide (k := C + 8) (n := S + 48) (by show C + 3 ≤ C + 8; omega) (by show S + 18 ≤ S + 48; omega) (G_lv (lv' := [(0, .ref b), (1, .ref (g.2.1 0)), (2, .ref (g.2.1 94)), (3, .ref (g.2.1 121)), (4, .int x4)]) [2, 3, 4, 5, 6] rfl (hnext r2.2 (wpO_some h)))
    · have h := wpO_t h hc
      refine G_aload_n rfl 5 rfl K dL_2578 ?_
      refine G_iconst (v := 0) rfl K dL_2579 ?_
      obtain ⟨hin, h⟩ := wpO_g h
      refine G_lald K dL_2580 (Nat.le_of_ble_eq_true rfl) (sh_121 _ _) hin ?_
      refine G_iload 0 rfl K dL_2581 ?_
      refine G_i2l K dL_2583 ?_
      refine G_lcmp_eq (tgt := 2590) K dL_2584 dL_2585 (by decide) (fun hc => ?_) (fun hc => ?_)
      · have h := wpO_t h hc
        refine G_goto (tgt := 2782) K dL_2590 (by decide) ?_
        exact G_wide (k := C + 8) (n := S + 48) (by show C + 3 ≤ C + 8; omega) (by show S + 18 ≤ S + 48; omega) (G_lv (lv' := [(0, .ref b), (1, .ref (g.2.1 0)), (2, .ref (g.2.1 94)), (3, .ref (g.2.1 121)), (4, .int x4)]) [2, 3, 4, 5, 6] rfl (hnext r2.2 (wpO_some h)))
      · have h := wpO_f h hc
        refine G_iconst (v := 0) rfl K dL_2588 ?_
        exact wpO_none h
  · have h := wpO_f h hc
    refine G_iconst (v := 0) rfl K dL_2571 ?_
    exact wpO_none h
def F_LAWc_2593_j2641 (xs : Nat → Int32) (L : Nat) (x4 : Int32) (x5 : Int32) (s1 : Int32) (s2 : Bool) (M : Mem) : Option (Mem) :=
  (F_MO_villageEdge s1 ((b2i s2)) M).bind fun r2 => (F_MO_thrown r2.2).bind fun r3 => if r3 = x5 then if x5 = 0 then if inb ((0 : Int32)) 1 then if (r2.2.2 121 ((0 : Int32)).toNatClampNeg) = r2.1.toInt64 then some r2.2 else none else none else some r2.2 else none
def F_LAWc_2593_j2614 (xs : Nat → Int32) (L : Nat) (x4 : Int32) (s1 : Int32) (s2 : Bool) (M : Mem) : Option (Mem) :=
  (F_LAW_villageEdge s1 ((b2i s2)) M).bind fun r1 => if inb (x4 + 1) L then if inb (x4 + 2) L then if (xs (x4 + 2).toNatClampNeg) = 0 then F_LAWc_2593_j2641 xs L x4 r1.1 (xs (x4 + 1).toNatClampNeg) false r1.2 else F_LAWc_2593_j2641 xs L x4 r1.1 (xs (x4 + 1).toNatClampNeg) true r1.2 else none else none
def F_LAWc_2593 (xs : Nat → Int32) (L : Nat) (x4 : Int32) (M : Mem) : Option Mem :=
  if inb (x4 + 1) L then if inb (x4 + 2) L then if (xs (x4 + 2).toNatClampNeg) = 0 then F_LAWc_2593_j2614 xs L x4 (xs (x4 + 1).toNatClampNeg) false M else F_LAWc_2593_j2614 xs L x4 (xs (x4 + 1).toNatClampNeg) true M else none else none
set_option maxRecDepth 100000 in
set_option maxHeartbeats 8000000 in
theorem K_LAWc_2593 {p : Program} {l : Launch} {e : Env} {s : State} {m : MethodId} {args : Array Value} {below : List Frame} {meth : Method} {c : Code} {g : GB} {Q : State → Prop} {b L : Nat} {xs : Nat → Int32} (K : KF p l s m args meth c g code 8 "KeptWellLaw") (htr : l.stackTraces = false) (hX : va_X b L xs s s.heap) (hbl : b < s.heap.size) (hbA : ¬ AS g s.heap.size b) (C S : Nat) (hC : C + 8 ≤ 601024) (hS : S + 48 ≤ 7293034) (x4 : Int32) (M : Mem) (PHI : Mem → Prop) (hnext : ∀ M, PHI M → GG p l e room_1 s m args below meth c g 8 Q (C + 8) (S + 48) 2782 [(0, .ref b), (1, .ref (g.2.1 0)), (2, .ref (g.2.1 94)), (3, .ref (g.2.1 121)), (4, .int x4)] [] M) (h : wpO (F_LAWc_2593 xs L x4 M) PHI) : GG p l e room_1 s m args below meth c g 8 Q C S 2593 [(0, .ref b), (1, .ref (g.2.1 0)), (2, .ref (g.2.1 94)), (3, .ref (g.2.1 121)), (4, .int x4)] [] M := by
  have J2641 : ∀ (x5 : Int32) (s1 : Int32) (s2 : Bool) (M : Mem), wpO (F_LAWc_2593_j2641 xs L x4 x5 s1 s2 M) PHI → GG p l e room_1 s m args below meth c g 8 Q (C + 1) (S + 6) 2641 [(0, .ref b), (1, .ref (g.2.1 0)), (2, .ref (g.2.1 94)), (3, .ref (g.2.1 121)), (4, .int x4), (5, .int x5)] [.int ((b2i s2)), .int s1, .ref (g.2.1 94)] M := by
    intro x5 s1 s2 M h
    unfold F_LAWc_2593_j2641 at h
    obtain ⟨r2, e2, h⟩ := wpO_bind h
    refine G_callVi (ci := 12) [.int s1, .int ((b2i s2))] [] K dL_2641 wv_1994 yd_X12_villageEdge (Nat.le_of_ble_eq_true rfl) (sh_94 _ _) rfl (by decide) ⟨by show C + 1 + 0 ≤ 601024; omega, by show S + 6 + 0 ≤ 7293034; omega⟩ rfl rfl (Nat.le_of_ble_eq_true rfl) (K_MO_villageEdge l g htr s1 ((b2i s2)) M _ _ e2) ?_
    refine G_istore K dL_2644 (Nat.le_of_ble_eq_true rfl) rfl ?_
    refine G_aload_n rfl 3 rfl K dL_2646 ?_
    obtain ⟨r3, e3, h⟩ := wpO_bind h
    refine G_callVi (ci := 12) [] [] K dL_2647 wv_1465 yd_X12_thrown (Nat.le_of_ble_eq_true rfl) (sh_94 _ _) rfl (by decide) ⟨by show C + 1 + 0 ≤ 601024; omega, by show S + 6 + 0 ≤ 7293034; omega⟩ rfl rfl (Nat.le_of_ble_eq_true rfl) (K_MO_thrown l g htr  r2.2 _ e3) ?_
    refine G_iload 6 rfl K dL_2650 ?_
    refine G_icmp_eq (tgt := 2657) K dL_2652 (by decide) (fun hc => ?_) (fun hc => ?_)
    · have h := wpO_t h hc
      refine G_iload 6 rfl K dL_2657 ?_
      refine G_if_ne (tgt := 2674) K dL_2659 (by decide) (fun hc => ?_) (fun hc => ?_)
      · have h := wpO_f h hc
        refine G_goto (tgt := 2782) K dL_2674 (by decide) ?_
        exact G_wide (k := C + 8) (n := S + 48) (by show C + 1 ≤ C + 8; omega) (by show S + 6 ≤ S + 48; omega) (G_lv (lv' := [(0, .ref b), (1, .ref (g.2.1 0)), (2, .ref (g.2.1 94)), (3, .ref (g.2.1 121)), (4, .int x4)]) [1, 2, 3, 4, 5] rfl (hnext r2.2 (wpO_some h)))
      · have h := wpO_t h hc
        refine G_aload_n rfl 4 rfl K dL_2662 ?_
        refine G_iconst (v := 0) rfl K dL_2663 ?_
        obtain ⟨hin, h⟩ := wpO_g h
        refine G_lald K dL_2664 (Nat.le_of_ble_eq_true rfl) (sh_121 _ _) hin ?_
        refine G_iload 0 rfl K dL_2665 ?_
        refine G_i2l K dL_2667 ?_
        refine G_lcmp_eq (tgt := 2674) K dL_2668 dL_2669 (by decide) (fun hc => ?_) (fun hc => ?_)
        · have h := wpO_t h hc
          refine G_goto (tgt := 2782) K dL_2674 (by decide) ?_
          exact G_wide (k := C + 8) (n := S + 48) (by show C + 1 ≤ C + 8; omega) (by show S + 6 ≤ S + 48; omega) (G_lv (lv' := [(0, .ref b), (1, .ref (g.2.1 0)), (2, .ref (g.2.1 94)), (3, .ref (g.2.1 121)), (4, .int x4)]) [1, 2, 3, 4, 5] rfl (hnext r2.2 (wpO_some h)))
        · have h := wpO_f h hc
          refine G_iconst (v := 0) rfl K dL_2672 ?_
          exact wpO_none h
    · have h := wpO_f h hc
      refine G_iconst (v := 0) rfl K dL_2655 ?_
      exact wpO_none h
  have J2614 : ∀ (s1 : Int32) (s2 : Bool) (M : Mem), wpO (F_LAWc_2593_j2614 xs L x4 s1 s2 M) PHI → GG p l e room_1 s m args below meth c g 8 Q (C + 0) (S + 0) 2614 [(0, .ref b), (1, .ref (g.2.1 0)), (2, .ref (g.2.1 94)), (3, .ref (g.2.1 121)), (4, .int x4)] [.int ((b2i s2)), .int s1, .ref (g.2.1 0)] M := by
    intro s1 s2 M h
    unfold F_LAWc_2593_j2614 at h
    refine G_aload_n rfl 3 rfl K dL_2614 ?_
    obtain ⟨r1, e1, h⟩ := wpO_bind h
    refine G_callH [.ref (g.2.1 0), .int s1, .int ((b2i s2)), .ref (g.2.1 121)] [] K dL_2615 wv_1425 yd_L_villageEdge (by decide) ⟨by show C + 0 + 1 ≤ 601024; omega, by show S + 0 + 6 ≤ 7293034; omega⟩ rfl rfl (Nat.le_of_ble_eq_true rfl) (K_LAW_villageEdge l g htr s1 ((b2i s2)) M _ _ e1) ?_
    refine G_istore K dL_2618 (Nat.le_of_ble_eq_true rfl) rfl ?_
    refine G_aload_n rfl 3 rfl K dL_2620 ?_
    refine G_aload_n rfl 1 rfl K dL_2621 ?_
    refine G_iload 5 rfl K dL_2622 ?_
    refine G_iconst (v := 1) rfl K dL_2624 ?_
    refine G_iadd K dL_2625 ?_
    obtain ⟨hin, h⟩ := wpO_g h
    refine G_sld K hX hbl hbA dL_2626 hin ?_
    refine G_aload_n rfl 1 rfl K dL_2627 ?_
    refine G_iload 5 rfl K dL_2628 ?_
    refine G_iconst (v := 2) rfl K dL_2630 ?_
    refine G_iadd K dL_2631 ?_
    obtain ⟨hin, h⟩ := wpO_g h
    refine G_sld K hX hbl hbA dL_2632 hin ?_
    refine G_if_eq (tgt := 2640) K dL_2633 (by decide) (fun hc => ?_) (fun hc => ?_)
    · have h := wpO_t h hc
      refine G_iconst (v := 0) rfl K dL_2640 ?_
      exact G_lv (lv' := [(0, .ref b), (1, .ref (g.2.1 0)), (2, .ref (g.2.1 94)), (3, .ref (g.2.1 121)), (4, .int x4), (5, .int r1.1)]) [1, 2, 3, 4, 5, 0] rfl (J2641 r1.1 (xs (x4 + 1).toNatClampNeg) false r1.2 h)
    · have h := wpO_f h hc
      refine G_iconst (v := 1) rfl K dL_2636 ?_
      refine G_goto (tgt := 2641) K dL_2637 (by decide) ?_
      exact G_lv (lv' := [(0, .ref b), (1, .ref (g.2.1 0)), (2, .ref (g.2.1 94)), (3, .ref (g.2.1 121)), (4, .int x4), (5, .int r1.1)]) [1, 2, 3, 4, 5, 0] rfl (J2641 r1.1 (xs (x4 + 1).toNatClampNeg) true r1.2 h)
  unfold F_LAWc_2593 at h
  refine G_aload_n rfl 1 rfl K dL_2593 ?_
  refine G_aload_n rfl 0 rfl K dL_2594 ?_
  refine G_iload 4 rfl K dL_2595 ?_
  refine G_iconst (v := 1) rfl K dL_2597 ?_
  refine G_iadd K dL_2598 ?_
  obtain ⟨hin, h⟩ := wpO_g h
  refine G_sld K hX hbl hbA dL_2599 hin ?_
  refine G_aload_n rfl 0 rfl K dL_2600 ?_
  refine G_iload 4 rfl K dL_2601 ?_
  refine G_iconst (v := 2) rfl K dL_2603 ?_
  refine G_iadd K dL_2604 ?_
  obtain ⟨hin, h⟩ := wpO_g h
  refine G_sld K hX hbl hbA dL_2605 hin ?_
  refine G_if_eq (tgt := 2613) K dL_2606 (by decide) (fun hc => ?_) (fun hc => ?_)
  · have h := wpO_t h hc
    refine G_iconst (v := 0) rfl K dL_2613 ?_
    exact J2614 (xs (x4 + 1).toNatClampNeg) false M h
  · have h := wpO_f h hc
    refine G_iconst (v := 1) rfl K dL_2609 ?_
    refine G_goto (tgt := 2614) K dL_2610 (by decide) ?_
    exact J2614 (xs (x4 + 1).toNatClampNeg) true M h
def F_LAWc_2677 (xs : Nat → Int32) (L : Nat) (x4 : Int32) (M : Mem) : Option Mem :=
  if inb (x4 + 1) L then (F_LAW_village (xs (x4 + 1).toNatClampNeg) M).bind fun r1 => if inb (x4 + 1) L then (F_MO_village (xs (x4 + 1).toNatClampNeg) r1.2).bind fun r2 => (F_MO_thrown r2.2).bind fun r3 => if r3 = r1.1 then if r1.1 = 0 then if inb ((0 : Int32)) 1 then if (r2.2.2 121 ((0 : Int32)).toNatClampNeg) = r2.1.toInt64 then some r2.2 else none else none else some r2.2 else none else none else none
set_option maxRecDepth 100000 in
set_option maxHeartbeats 8000000 in
theorem K_LAWc_2677 {p : Program} {l : Launch} {e : Env} {s : State} {m : MethodId} {args : Array Value} {below : List Frame} {meth : Method} {c : Code} {g : GB} {Q : State → Prop} {b L : Nat} {xs : Nat → Int32} (K : KF p l s m args meth c g code 8 "KeptWellLaw") (htr : l.stackTraces = false) (hX : va_X b L xs s s.heap) (hbl : b < s.heap.size) (hbA : ¬ AS g s.heap.size b) (C S : Nat) (hC : C + 8 ≤ 601024) (hS : S + 48 ≤ 7293034) (x4 : Int32) (M : Mem) (PHI : Mem → Prop) (hnext : ∀ M, PHI M → GG p l e room_1 s m args below meth c g 8 Q (C + 8) (S + 48) 2782 [(0, .ref b), (1, .ref (g.2.1 0)), (2, .ref (g.2.1 94)), (3, .ref (g.2.1 121)), (4, .int x4)] [] M) (h : wpO (F_LAWc_2677 xs L x4 M) PHI) : GG p l e room_1 s m args below meth c g 8 Q C S 2677 [(0, .ref b), (1, .ref (g.2.1 0)), (2, .ref (g.2.1 94)), (3, .ref (g.2.1 121)), (4, .int x4)] [] M := by
  unfold F_LAWc_2677 at h
  refine G_aload_n rfl 1 rfl K dL_2677 ?_
  refine G_aload_n rfl 0 rfl K dL_2678 ?_
  refine G_iload 4 rfl K dL_2679 ?_
  refine G_iconst (v := 1) rfl K dL_2681 ?_
  refine G_iadd K dL_2682 ?_
  obtain ⟨hin, h⟩ := wpO_g h
  refine G_sld K hX hbl hbA dL_2683 hin ?_
  refine G_aload_n rfl 3 rfl K dL_2684 ?_
  obtain ⟨r1, e1, h⟩ := wpO_bind h
  refine G_callH [.ref (g.2.1 0), .int (xs (x4 + 1).toNatClampNeg), .ref (g.2.1 121)] [] K dL_2685 wv_1438 yd_L_village (by decide) ⟨by show C + 0 + 1 ≤ 601024; omega, by show S + 0 + 6 ≤ 7293034; omega⟩ rfl rfl (Nat.le_of_ble_eq_true rfl) (K_LAW_village l g htr (xs (x4 + 1).toNatClampNeg) M _ _ e1) ?_
  refine G_istore K dL_2688 (Nat.le_of_ble_eq_true rfl) rfl ?_
  refine G_aload_n rfl 3 rfl K dL_2690 ?_
  refine G_aload_n rfl 1 rfl K dL_2691 ?_
  refine G_iload 5 rfl K dL_2692 ?_
  refine G_iconst (v := 1) rfl K dL_2694 ?_
  refine G_iadd K dL_2695 ?_
  obtain ⟨hin, h⟩ := wpO_g h
  refine G_sld K hX hbl hbA dL_2696 hin ?_
  obtain ⟨r2, e2, h⟩ := wpO_bind h
  refine G_callVi (ci := 12) [.int (xs (x4 + 1).toNatClampNeg)] [] K dL_2697 wv_2002 yd_X12_village (Nat.le_of_ble_eq_true rfl) (sh_94 _ _) rfl (by decide) ⟨by show C + 1 + 0 ≤ 601024; omega, by show S + 6 + 0 ≤ 7293034; omega⟩ rfl rfl (Nat.le_of_ble_eq_true rfl) (K_MO_village l g htr (xs (x4 + 1).toNatClampNeg) r1.2 _ _ e2) ?_
  refine G_istore K dL_2700 (Nat.le_of_ble_eq_true rfl) rfl ?_
  refine G_aload_n rfl 4 rfl K dL_2702 ?_
  obtain ⟨r3, e3, h⟩ := wpO_bind h
  refine G_callVi (ci := 12) [] [] K dL_2703 wv_1465 yd_X12_thrown (Nat.le_of_ble_eq_true rfl) (sh_94 _ _) rfl (by decide) ⟨by show C + 1 + 0 ≤ 601024; omega, by show S + 6 + 0 ≤ 7293034; omega⟩ rfl rfl (Nat.le_of_ble_eq_true rfl) (K_MO_thrown l g htr  r2.2 _ e3) ?_
  refine G_iload 1 rfl K dL_2706 ?_
  refine G_icmp_eq (tgt := 2713) K dL_2708 (by decide) (fun hc => ?_) (fun hc => ?_)
  · have h := wpO_t h hc
    refine G_iload 1 rfl K dL_2713 ?_
    refine G_if_ne (tgt := 2730) K dL_2715 (by decide) (fun hc => ?_) (fun hc => ?_)
    · have h := wpO_f h hc
      refine G_goto (tgt := 2782) K dL_2730 (by decide) ?_
      exact G_wide (k := C + 8) (n := S + 48) (by show C + 1 ≤ C + 8; omega) (by show S + 6 ≤ S + 48; omega) (G_lv (lv' := [(0, .ref b), (1, .ref (g.2.1 0)), (2, .ref (g.2.1 94)), (3, .ref (g.2.1 121)), (4, .int x4)]) [2, 3, 4, 5, 6] rfl (hnext r2.2 (wpO_some h)))
    · have h := wpO_t h hc
      refine G_aload_n rfl 5 rfl K dL_2718 ?_
      refine G_iconst (v := 0) rfl K dL_2719 ?_
      obtain ⟨hin, h⟩ := wpO_g h
      refine G_lald K dL_2720 (Nat.le_of_ble_eq_true rfl) (sh_121 _ _) hin ?_
      refine G_iload 0 rfl K dL_2721 ?_
      refine G_i2l K dL_2723 ?_
      refine G_lcmp_eq (tgt := 2730) K dL_2724 dL_2725 (by decide) (fun hc => ?_) (fun hc => ?_)
      · have h := wpO_t h hc
        refine G_goto (tgt := 2782) K dL_2730 (by decide) ?_
        exact G_wide (k := C + 8) (n := S + 48) (by show C + 1 ≤ C + 8; omega) (by show S + 6 ≤ S + 48; omega) (G_lv (lv' := [(0, .ref b), (1, .ref (g.2.1 0)), (2, .ref (g.2.1 94)), (3, .ref (g.2.1 121)), (4, .int x4)]) [2, 3, 4, 5, 6] rfl (hnext r2.2 (wpO_some h)))
      · have h := wpO_f h hc
        refine G_iconst (v := 0) rfl K dL_2728 ?_
        exact wpO_none h
  · have h := wpO_f h hc
    refine G_iconst (v := 0) rfl K dL_2711 ?_
    exact wpO_none h
def F_LAWc_2733 (xs : Nat → Int32) (L : Nat) (x4 : Int32) (M : Mem) : Option Mem :=
  (F_KW_image M).bind fun r1 => (F_MO_image r1).bind fun r2 => some r2
set_option maxRecDepth 100000 in
set_option maxHeartbeats 8000000 in
theorem K_LAWc_2733 {p : Program} {l : Launch} {e : Env} {s : State} {m : MethodId} {args : Array Value} {below : List Frame} {meth : Method} {c : Code} {g : GB} {Q : State → Prop} {b L : Nat} {xs : Nat → Int32} (K : KF p l s m args meth c g code 8 "KeptWellLaw") (htr : l.stackTraces = false) (hX : va_X b L xs s s.heap) (hbl : b < s.heap.size) (hbA : ¬ AS g s.heap.size b) (C S : Nat) (hC : C + 8 ≤ 601024) (hS : S + 48 ≤ 7293034) (x4 : Int32) (M : Mem) (PHI : Mem → Prop) (hnext : ∀ M, PHI M → GG p l e room_1 s m args below meth c g 8 Q (C + 8) (S + 48) 2782 [(0, .ref b), (1, .ref (g.2.1 0)), (2, .ref (g.2.1 94)), (3, .ref (g.2.1 121)), (4, .int x4)] [] M) (h : wpO (F_LAWc_2733 xs L x4 M) PHI) : GG p l e room_1 s m args below meth c g 8 Q C S 2733 [(0, .ref b), (1, .ref (g.2.1 0)), (2, .ref (g.2.1 94)), (3, .ref (g.2.1 121)), (4, .int x4)] [] M := by
  unfold F_LAWc_2733 at h
  refine G_aload_n rfl 1 rfl K dL_2733 ?_
  obtain ⟨r1, e1, h⟩ := wpO_bind h
  refine G_callVv (ci := 11) [] [] K dL_2734 wv_616 yd_X11_image (Nat.le_of_ble_eq_true rfl) (sh_0 _ _) rfl (by decide) ⟨by show C + 0 + 0 ≤ 601024; omega, by show S + 0 + 0 ≤ 7293034; omega⟩ rfl rfl (Nat.le_of_ble_eq_true rfl) (K_KW_image l g htr  M _ e1) ?_
  refine G_aload_n rfl 2 rfl K dL_2737 ?_
  obtain ⟨r2, e2, h⟩ := wpO_bind h
  refine G_callVv (ci := 12) [] [] K dL_2738 wv_1600 yd_X12_image (Nat.le_of_ble_eq_true rfl) (sh_94 _ _) rfl (by decide) ⟨by show C + 0 + 0 ≤ 601024; omega, by show S + 0 + 0 ≤ 7293034; omega⟩ rfl rfl (Nat.le_of_ble_eq_true rfl) (K_MO_image l g htr  r1 _ e2) ?_
  refine G_goto (tgt := 2782) K dL_2741 (by decide) ?_
  exact G_wide (k := C + 8) (n := S + 48) (by show C + 0 ≤ C + 8; omega) (by show S + 0 ≤ S + 48; omega) (hnext r2 (wpO_some h))
def F_LAWc_2744 (xs : Nat → Int32) (L : Nat) (x4 : Int32) (M : Mem) : Option Mem :=
  (F_KW_back M).bind fun r1 => (F_MO_back r1.2).bind fun r2 => if ((b2i r1.1)) = ((b2i r2.1)) then some r2.2 else none
set_option maxRecDepth 100000 in
set_option maxHeartbeats 8000000 in
theorem K_LAWc_2744 {p : Program} {l : Launch} {e : Env} {s : State} {m : MethodId} {args : Array Value} {below : List Frame} {meth : Method} {c : Code} {g : GB} {Q : State → Prop} {b L : Nat} {xs : Nat → Int32} (K : KF p l s m args meth c g code 8 "KeptWellLaw") (htr : l.stackTraces = false) (hX : va_X b L xs s s.heap) (hbl : b < s.heap.size) (hbA : ¬ AS g s.heap.size b) (C S : Nat) (hC : C + 8 ≤ 601024) (hS : S + 48 ≤ 7293034) (x4 : Int32) (M : Mem) (PHI : Mem → Prop) (hnext : ∀ M, PHI M → GG p l e room_1 s m args below meth c g 8 Q (C + 8) (S + 48) 2782 [(0, .ref b), (1, .ref (g.2.1 0)), (2, .ref (g.2.1 94)), (3, .ref (g.2.1 121)), (4, .int x4)] [] M) (h : wpO (F_LAWc_2744 xs L x4 M) PHI) : GG p l e room_1 s m args below meth c g 8 Q C S 2744 [(0, .ref b), (1, .ref (g.2.1 0)), (2, .ref (g.2.1 94)), (3, .ref (g.2.1 121)), (4, .int x4)] [] M := by
  unfold F_LAWc_2744 at h
  refine G_aload_n rfl 1 rfl K dL_2744 ?_
  obtain ⟨r1, e1, h⟩ := wpO_bind h
  refine G_callVi (ci := 11) [] [] K dL_2745 wv_629 yd_X11_back (Nat.le_of_ble_eq_true rfl) (sh_0 _ _) rfl (by decide) ⟨by show C + 0 + 0 ≤ 601024; omega, by show S + 0 + 0 ≤ 7293034; omega⟩ rfl rfl (Nat.le_of_ble_eq_true rfl) (K_KW_back l g htr  M _ _ e1) ?_
  refine G_aload_n rfl 2 rfl K dL_2748 ?_
  obtain ⟨r2, e2, h⟩ := wpO_bind h
  refine G_callVi (ci := 12) [] [.int ((b2i r1.1))] K dL_2749 wv_1604 yd_X12_back (Nat.le_of_ble_eq_true rfl) (sh_94 _ _) rfl (by decide) ⟨by show C + 0 + 0 ≤ 601024; omega, by show S + 0 + 0 ≤ 7293034; omega⟩ rfl rfl (Nat.le_of_ble_eq_true rfl) (K_MO_back l g htr  r1.2 _ _ e2) ?_
  refine G_icmp_eq (tgt := 2782) K dL_2752 (by decide) (fun hc => ?_) (fun hc => ?_)
  · have h := wpO_t h hc
    exact G_wide (k := C + 8) (n := S + 48) (by show C + 0 ≤ C + 8; omega) (by show S + 0 ≤ S + 48; omega) (hnext r2.2 (wpO_some h))
  · have h := wpO_f h hc
    refine G_iconst (v := 0) rfl K dL_2755 ?_
    exact wpO_none h
def F_LAWc_2757 (xs : Nat → Int32) (L : Nat) (x4 : Int32) (M : Mem) : Option Mem :=
  if inb (x4 + 1) L then (F_KW_count (xs (x4 + 1).toNatClampNeg) M).bind fun r1 => if inb (x4 + 1) L then (F_MO_count (xs (x4 + 1).toNatClampNeg) r1.2).bind fun r2 => if r1.1 = r2.1 then some r2.2 else none else none else none
set_option maxRecDepth 100000 in
set_option maxHeartbeats 8000000 in
theorem K_LAWc_2757 {p : Program} {l : Launch} {e : Env} {s : State} {m : MethodId} {args : Array Value} {below : List Frame} {meth : Method} {c : Code} {g : GB} {Q : State → Prop} {b L : Nat} {xs : Nat → Int32} (K : KF p l s m args meth c g code 8 "KeptWellLaw") (htr : l.stackTraces = false) (hX : va_X b L xs s s.heap) (hbl : b < s.heap.size) (hbA : ¬ AS g s.heap.size b) (C S : Nat) (hC : C + 8 ≤ 601024) (hS : S + 48 ≤ 7293034) (x4 : Int32) (M : Mem) (PHI : Mem → Prop) (hnext : ∀ M, PHI M → GG p l e room_1 s m args below meth c g 8 Q (C + 8) (S + 48) 2782 [(0, .ref b), (1, .ref (g.2.1 0)), (2, .ref (g.2.1 94)), (3, .ref (g.2.1 121)), (4, .int x4)] [] M) (h : wpO (F_LAWc_2757 xs L x4 M) PHI) : GG p l e room_1 s m args below meth c g 8 Q C S 2757 [(0, .ref b), (1, .ref (g.2.1 0)), (2, .ref (g.2.1 94)), (3, .ref (g.2.1 121)), (4, .int x4)] [] M := by
  unfold F_LAWc_2757 at h
  refine G_aload_n rfl 1 rfl K dL_2757 ?_
  refine G_aload_n rfl 0 rfl K dL_2758 ?_
  refine G_iload 4 rfl K dL_2759 ?_
  refine G_iconst (v := 1) rfl K dL_2761 ?_
  refine G_iadd K dL_2762 ?_
  obtain ⟨hin, h⟩ := wpO_g h
  refine G_sld K hX hbl hbA dL_2763 hin ?_
  obtain ⟨r1, e1, h⟩ := wpO_bind h
  refine G_callVi (ci := 11) [.int (xs (x4 + 1).toNatClampNeg)] [] K dL_2764 wv_633 yd_X11_count (Nat.le_of_ble_eq_true rfl) (sh_0 _ _) rfl (by decide) ⟨by show C + 0 + 0 ≤ 601024; omega, by show S + 0 + 0 ≤ 7293034; omega⟩ rfl rfl (Nat.le_of_ble_eq_true rfl) (K_KW_count l g htr (xs (x4 + 1).toNatClampNeg) M _ _ e1) ?_
  refine G_aload_n rfl 2 rfl K dL_2767 ?_
  refine G_aload_n rfl 0 rfl K dL_2768 ?_
  refine G_iload 4 rfl K dL_2769 ?_
  refine G_iconst (v := 1) rfl K dL_2771 ?_
  refine G_iadd K dL_2772 ?_
  obtain ⟨hin, h⟩ := wpO_g h
  refine G_sld K hX hbl hbA dL_2773 hin ?_
  obtain ⟨r2, e2, h⟩ := wpO_bind h
  refine G_callVi (ci := 12) [.int (xs (x4 + 1).toNatClampNeg)] [.int r1.1] K dL_2774 wv_2014 yd_X12_count (Nat.le_of_ble_eq_true rfl) (sh_94 _ _) rfl (by decide) ⟨by show C + 0 + 0 ≤ 601024; omega, by show S + 0 + 0 ≤ 7293034; omega⟩ rfl rfl (Nat.le_of_ble_eq_true rfl) (K_MO_count l g htr (xs (x4 + 1).toNatClampNeg) r1.2 _ _ e2) ?_
  refine G_icmp_eq (tgt := 2782) K dL_2777 (by decide) (fun hc => ?_) (fun hc => ?_)
  · have h := wpO_t h hc
    exact G_wide (k := C + 8) (n := S + 48) (by show C + 0 ≤ C + 8; omega) (by show S + 0 ≤ S + 48; omega) (hnext r2.2 (wpO_some h))
  · have h := wpO_f h hc
    refine G_iconst (v := 0) rfl K dL_2780 ?_
    exact wpO_none h
