theorem wq_948 : Cond.methodLink RL 74 yL_feed ∈ lw_g := lw_g_mk (tb_4 (List.mem_of_getElem? (i := 104) rfl)) rfl
theorem wq_1470 : Cond.methodLink RL 79 yX8_feed ∈ lw_g := lw_g_mk (tb_6 (List.mem_of_getElem? (i := 146) rfl)) rfl
theorem wq_1466 : Cond.methodLink RL 80 yX8_thrown ∈ lw_g := lw_g_mk (tb_6 (List.mem_of_getElem? (i := 142) rfl)) rfl
theorem wq_976 : Cond.methodLink RL 84 yL_trim ∈ lw_g := lw_g_mk (tb_4 (List.mem_of_getElem? (i := 132) rfl)) rfl
theorem wq_1478 : Cond.methodLink RL 87 yX8_trim ∈ lw_g := lw_g_mk (tb_6 (List.mem_of_getElem? (i := 154) rfl)) rfl
theorem wq_788 : Cond.methodLink RL 92 yX5_errorAt ∈ lw_g := lw_g_mk (tb_3 (List.mem_of_getElem? (i := 184) rfl)) rfl
theorem wq_1712 : Cond.methodLink RL 95 yX8_errorAt ∈ lw_g := lw_g_mk (tb_7 (List.mem_of_getElem? (i := 148) rfl)) rfl
theorem wq_1000 : Cond.methodLink RL 96 yL_count ∈ lw_g := lw_g_mk (tb_4 (List.mem_of_getElem? (i := 156) rfl)) rfl
theorem wq_1716 : Cond.methodLink RL 98 yX8_count ∈ lw_g := lw_g_mk (tb_7 (List.mem_of_getElem? (i := 152) rfl)) rfl
theorem wq_1005 : Cond.methodLink RL 99 yL_place ∈ lw_g := lw_g_mk (tb_4 (List.mem_of_getElem? (i := 161) rfl)) rfl
theorem wq_1740 : Cond.methodLink RL 102 yX8_place ∈ lw_g := lw_g_mk (tb_7 (List.mem_of_getElem? (i := 176) rfl)) rfl
theorem wq_1009 : Cond.methodLink RL 103 yL_bore ∈ lw_g := lw_g_mk (tb_4 (List.mem_of_getElem? (i := 165) rfl)) rfl
theorem wq_1757 : Cond.methodLink RL 105 yX8_bore ∈ lw_g := lw_g_mk (tb_7 (List.mem_of_getElem? (i := 193) rfl)) rfl
theorem wq_1013 : Cond.methodLink RL 106 yL_legger ∈ lw_g := lw_g_mk (tb_4 (List.mem_of_getElem? (i := 169) rfl)) rfl
theorem wq_1769 : Cond.methodLink RL 108 yX8_legger ∈ lw_g := lw_g_mk (tb_7 (List.mem_of_getElem? (i := 205) rfl)) rfl
theorem wq_1017 : Cond.methodLink RL 109 yL_boat ∈ lw_g := lw_g_mk (tb_4 (List.mem_of_getElem? (i := 173) rfl)) rfl
theorem wq_1785 : Cond.methodLink RL 111 yX8_boat ∈ lw_g := lw_g_mk (tb_7 (List.mem_of_getElem? (i := 221) rfl)) rfl
theorem wq_1021 : Cond.methodLink RL 112 yL_crew ∈ lw_g := lw_g_mk (tb_4 (List.mem_of_getElem? (i := 177) rfl)) rfl
theorem wq_1797 : Cond.methodLink RL 114 yX8_crew ∈ lw_g := lw_g_mk (tb_7 (List.mem_of_getElem? (i := 233) rfl)) rfl
theorem wq_1025 : Cond.methodLink RL 115 yL_canEnter ∈ lw_g := lw_g_mk (tb_4 (List.mem_of_getElem? (i := 181) rfl)) rfl
theorem wq_1801 : Cond.methodLink RL 117 yX8_canEnter ∈ lw_g := lw_g_mk (tb_7 (List.mem_of_getElem? (i := 237) rfl)) rfl
theorem wq_792 : Cond.methodLink RL 118 yX5_worst ∈ lw_g := lw_g_mk (tb_3 (List.mem_of_getElem? (i := 188) rfl)) rfl
theorem wq_1850 : Cond.methodLink RL 121 yX8_worst ∈ lw_g := lw_g_mk (tb_8 (List.mem_of_getElem? (i := 46) rfl)) rfl
theorem wq_1081 : Cond.methodLink RL 122 yL_whistle ∈ lw_g := lw_g_mk (tb_4 (List.mem_of_getElem? (i := 237) rfl)) rfl
theorem wq_1854 : Cond.methodLink RL 124 yX8_whistle ∈ lw_g := lw_g_mk (tb_8 (List.mem_of_getElem? (i := 50) rfl)) rfl
theorem wq_797 : Cond.methodLink RL 125 yX5_air ∈ lw_g := lw_g_mk (tb_3 (List.mem_of_getElem? (i := 193) rfl)) rfl
theorem wq_1858 : Cond.methodLink RL 128 yX8_air ∈ lw_g := lw_g_mk (tb_8 (List.mem_of_getElem? (i := 54) rfl)) rfl
theorem wq_1089 : Cond.methodLink RL 129 yL_cap ∈ lw_g := lw_g_mk (tb_5 (List.mem_of_getElem? (i := 5) rfl)) rfl
theorem wq_1863 : Cond.methodLink RL 131 yX8_cap ∈ lw_g := lw_g_mk (tb_8 (List.mem_of_getElem? (i := 59) rfl)) rfl
theorem wq_1096 : Cond.methodLink RL 132 yL_again ∈ lw_g := lw_g_mk (tb_5 (List.mem_of_getElem? (i := 12) rfl)) rfl
theorem wq_1867 : Cond.methodLink RL 134 yX8_again ∈ lw_g := lw_g_mk (tb_8 (List.mem_of_getElem? (i := 63) rfl)) rfl
theorem wq_1109 : Cond.methodLink RL 135 yL_pass ∈ lw_g := lw_g_mk (tb_5 (List.mem_of_getElem? (i := 25) rfl)) rfl
theorem wq_1871 : Cond.methodLink RL 137 yX8_pass ∈ lw_g := lw_g_mk (tb_8 (List.mem_of_getElem? (i := 67) rfl)) rfl
theorem wq_1180 : Cond.methodLink RL 138 yL_until ∈ lw_g := lw_g_mk (tb_5 (List.mem_of_getElem? (i := 96) rfl)) rfl
theorem wq_1917 : Cond.methodLink RL 140 yX8_until ∈ lw_g := lw_g_mk (tb_8 (List.mem_of_getElem? (i := 113) rfl)) rfl
theorem wq_1194 : Cond.methodLink RL 141 yL_foresee ∈ lw_g := lw_g_mk (tb_5 (List.mem_of_getElem? (i := 110) rfl)) rfl
theorem wq_1933 : Cond.methodLink RL 143 yX8_foresee ∈ lw_g := lw_g_mk (tb_8 (List.mem_of_getElem? (i := 129) rfl)) rfl
theorem wq_1202 : Cond.methodLink RL 144 yL_advise ∈ lw_g := lw_g_mk (tb_5 (List.mem_of_getElem? (i := 118) rfl)) rfl
theorem wq_1937 : Cond.methodLink RL 146 yX8_advise ∈ lw_g := lw_g_mk (tb_8 (List.mem_of_getElem? (i := 133) rfl)) rfl
theorem wq_1209 : Cond.methodLink RL 147 yL_missed ∈ lw_g := lw_g_mk (tb_5 (List.mem_of_getElem? (i := 125) rfl)) rfl
theorem wq_1941 : Cond.methodLink RL 149 yX8_missed ∈ lw_g := lw_g_mk (tb_8 (List.mem_of_getElem? (i := 137) rfl)) rfl
theorem wq_802 : Cond.methodLink RL 150 yX5_mean ∈ lw_g := lw_g_mk (tb_3 (List.mem_of_getElem? (i := 198) rfl)) rfl
theorem wq_1945 : Cond.methodLink RL 154 yX8_mean ∈ lw_g := lw_g_mk (tb_8 (List.mem_of_getElem? (i := 141) rfl)) rfl
theorem wq_806 : Cond.methodLink RL 155 yX5_digest ∈ lw_g := lw_g_mk (tb_3 (List.mem_of_getElem? (i := 202) rfl)) rfl
theorem wq_1949 : Cond.methodLink RL 159 yX8_digest ∈ lw_g := lw_g_mk (tb_8 (List.mem_of_getElem? (i := 145) rfl)) rfl
theorem wq_1467 : Cond.instanceMethod yX8_thrown ∈ lw_g := lw_g_mk (tb_6 (List.mem_of_getElem? (i := 143) rfl)) rfl
theorem wq_1468 : Cond.selects RX8 yX8_thrown yX8_thrown ∈ lw_g := lw_g_mk (tb_6 (List.mem_of_getElem? (i := 144) rfl)) rfl
theorem wq_1758 : Cond.instanceMethod yX8_bore ∈ lw_g := lw_g_mk (tb_7 (List.mem_of_getElem? (i := 194) rfl)) rfl
theorem wq_1759 : Cond.selects RX8 yX8_bore yX8_bore ∈ lw_g := lw_g_mk (tb_7 (List.mem_of_getElem? (i := 195) rfl)) rfl
theorem wq_1479 : Cond.instanceMethod yX8_trim ∈ lw_g := lw_g_mk (tb_6 (List.mem_of_getElem? (i := 155) rfl)) rfl
theorem wq_1480 : Cond.selects RX8 yX8_trim yX8_trim ∈ lw_g := lw_g_mk (tb_6 (List.mem_of_getElem? (i := 156) rfl)) rfl
theorem wq_1713 : Cond.instanceMethod yX8_errorAt ∈ lw_g := lw_g_mk (tb_7 (List.mem_of_getElem? (i := 149) rfl)) rfl
theorem wq_1714 : Cond.selects RX8 yX8_errorAt yX8_errorAt ∈ lw_g := lw_g_mk (tb_7 (List.mem_of_getElem? (i := 150) rfl)) rfl
theorem wq_1741 : Cond.instanceMethod yX8_place ∈ lw_g := lw_g_mk (tb_7 (List.mem_of_getElem? (i := 177) rfl)) rfl
theorem wq_1742 : Cond.selects RX8 yX8_place yX8_place ∈ lw_g := lw_g_mk (tb_7 (List.mem_of_getElem? (i := 178) rfl)) rfl
theorem wq_1798 : Cond.instanceMethod yX8_crew ∈ lw_g := lw_g_mk (tb_7 (List.mem_of_getElem? (i := 234) rfl)) rfl
theorem wq_1799 : Cond.selects RX8 yX8_crew yX8_crew ∈ lw_g := lw_g_mk (tb_7 (List.mem_of_getElem? (i := 235) rfl)) rfl
theorem wq_1802 : Cond.instanceMethod yX8_canEnter ∈ lw_g := lw_g_mk (tb_7 (List.mem_of_getElem? (i := 238) rfl)) rfl
theorem wq_1803 : Cond.selects RX8 yX8_canEnter yX8_canEnter ∈ lw_g := lw_g_mk (tb_7 (List.mem_of_getElem? (i := 239) rfl)) rfl
theorem wq_1851 : Cond.instanceMethod yX8_worst ∈ lw_g := lw_g_mk (tb_8 (List.mem_of_getElem? (i := 47) rfl)) rfl
theorem wq_1852 : Cond.selects RX8 yX8_worst yX8_worst ∈ lw_g := lw_g_mk (tb_8 (List.mem_of_getElem? (i := 48) rfl)) rfl
theorem wq_1855 : Cond.instanceMethod yX8_whistle ∈ lw_g := lw_g_mk (tb_8 (List.mem_of_getElem? (i := 51) rfl)) rfl
theorem wq_1856 : Cond.selects RX8 yX8_whistle yX8_whistle ∈ lw_g := lw_g_mk (tb_8 (List.mem_of_getElem? (i := 52) rfl)) rfl
theorem wq_1859 : Cond.instanceMethod yX8_air ∈ lw_g := lw_g_mk (tb_8 (List.mem_of_getElem? (i := 55) rfl)) rfl
theorem wq_1860 : Cond.selects RX8 yX8_air yX8_air ∈ lw_g := lw_g_mk (tb_8 (List.mem_of_getElem? (i := 56) rfl)) rfl
theorem wq_1864 : Cond.instanceMethod yX8_cap ∈ lw_g := lw_g_mk (tb_8 (List.mem_of_getElem? (i := 60) rfl)) rfl
theorem wq_1865 : Cond.selects RX8 yX8_cap yX8_cap ∈ lw_g := lw_g_mk (tb_8 (List.mem_of_getElem? (i := 61) rfl)) rfl
theorem wq_1868 : Cond.instanceMethod yX8_again ∈ lw_g := lw_g_mk (tb_8 (List.mem_of_getElem? (i := 64) rfl)) rfl
theorem wq_1869 : Cond.selects RX8 yX8_again yX8_again ∈ lw_g := lw_g_mk (tb_8 (List.mem_of_getElem? (i := 65) rfl)) rfl
theorem wq_1872 : Cond.instanceMethod yX8_pass ∈ lw_g := lw_g_mk (tb_8 (List.mem_of_getElem? (i := 68) rfl)) rfl
theorem wq_1873 : Cond.selects RX8 yX8_pass yX8_pass ∈ lw_g := lw_g_mk (tb_8 (List.mem_of_getElem? (i := 69) rfl)) rfl
theorem wq_1918 : Cond.instanceMethod yX8_until ∈ lw_g := lw_g_mk (tb_8 (List.mem_of_getElem? (i := 114) rfl)) rfl
theorem wq_1919 : Cond.selects RX8 yX8_until yX8_until ∈ lw_g := lw_g_mk (tb_8 (List.mem_of_getElem? (i := 115) rfl)) rfl
theorem wq_1934 : Cond.instanceMethod yX8_foresee ∈ lw_g := lw_g_mk (tb_8 (List.mem_of_getElem? (i := 130) rfl)) rfl
theorem wq_1935 : Cond.selects RX8 yX8_foresee yX8_foresee ∈ lw_g := lw_g_mk (tb_8 (List.mem_of_getElem? (i := 131) rfl)) rfl
theorem wq_1938 : Cond.instanceMethod yX8_advise ∈ lw_g := lw_g_mk (tb_8 (List.mem_of_getElem? (i := 134) rfl)) rfl
theorem wq_1939 : Cond.selects RX8 yX8_advise yX8_advise ∈ lw_g := lw_g_mk (tb_8 (List.mem_of_getElem? (i := 135) rfl)) rfl
theorem wq_1942 : Cond.instanceMethod yX8_missed ∈ lw_g := lw_g_mk (tb_8 (List.mem_of_getElem? (i := 138) rfl)) rfl
theorem wq_1943 : Cond.selects RX8 yX8_missed yX8_missed ∈ lw_g := lw_g_mk (tb_8 (List.mem_of_getElem? (i := 139) rfl)) rfl
theorem wq_789 : Cond.instanceMethod yX5_errorAt ∈ lw_g := lw_g_mk (tb_3 (List.mem_of_getElem? (i := 185) rfl)) rfl
theorem wq_790 : Cond.selects RX5 yX5_errorAt yX5_errorAt ∈ lw_g := lw_g_mk (tb_3 (List.mem_of_getElem? (i := 186) rfl)) rfl
theorem wq_793 : Cond.instanceMethod yX5_worst ∈ lw_g := lw_g_mk (tb_3 (List.mem_of_getElem? (i := 189) rfl)) rfl
theorem wq_794 : Cond.selects RX5 yX5_worst yX5_worst ∈ lw_g := lw_g_mk (tb_3 (List.mem_of_getElem? (i := 190) rfl)) rfl
theorem wq_798 : Cond.instanceMethod yX5_air ∈ lw_g := lw_g_mk (tb_3 (List.mem_of_getElem? (i := 194) rfl)) rfl
theorem wq_799 : Cond.selects RX5 yX5_air yX5_air ∈ lw_g := lw_g_mk (tb_3 (List.mem_of_getElem? (i := 195) rfl)) rfl
theorem wq_1717 : Cond.instanceMethod yX8_count ∈ lw_g := lw_g_mk (tb_7 (List.mem_of_getElem? (i := 153) rfl)) rfl
theorem wq_1718 : Cond.selects RX8 yX8_count yX8_count ∈ lw_g := lw_g_mk (tb_7 (List.mem_of_getElem? (i := 154) rfl)) rfl
theorem wq_1770 : Cond.instanceMethod yX8_legger ∈ lw_g := lw_g_mk (tb_7 (List.mem_of_getElem? (i := 206) rfl)) rfl
theorem wq_1771 : Cond.selects RX8 yX8_legger yX8_legger ∈ lw_g := lw_g_mk (tb_7 (List.mem_of_getElem? (i := 207) rfl)) rfl
theorem wq_1786 : Cond.instanceMethod yX8_boat ∈ lw_g := lw_g_mk (tb_7 (List.mem_of_getElem? (i := 222) rfl)) rfl
theorem wq_1787 : Cond.selects RX8 yX8_boat yX8_boat ∈ lw_g := lw_g_mk (tb_7 (List.mem_of_getElem? (i := 223) rfl)) rfl
theorem wq_1946 : Cond.instanceMethod yX8_mean ∈ lw_g := lw_g_mk (tb_8 (List.mem_of_getElem? (i := 142) rfl)) rfl
theorem wq_1947 : Cond.selects RX8 yX8_mean yX8_mean ∈ lw_g := lw_g_mk (tb_8 (List.mem_of_getElem? (i := 143) rfl)) rfl
theorem wq_1950 : Cond.instanceMethod yX8_digest ∈ lw_g := lw_g_mk (tb_8 (List.mem_of_getElem? (i := 146) rfl)) rfl
theorem wq_1951 : Cond.selects RX8 yX8_digest yX8_digest ∈ lw_g := lw_g_mk (tb_8 (List.mem_of_getElem? (i := 147) rfl)) rfl
theorem wq_807 : Cond.instanceMethod yX5_digest ∈ lw_g := lw_g_mk (tb_3 (List.mem_of_getElem? (i := 203) rfl)) rfl
theorem wq_808 : Cond.selects RX5 yX5_digest yX5_digest ∈ lw_g := lw_g_mk (tb_3 (List.mem_of_getElem? (i := 204) rfl)) rfl
theorem wq_803 : Cond.instanceMethod yX5_mean ∈ lw_g := lw_g_mk (tb_3 (List.mem_of_getElem? (i := 199) rfl)) rfl
theorem wq_804 : Cond.selects RX5 yX5_mean yX5_mean ∈ lw_g := lw_g_mk (tb_3 (List.mem_of_getElem? (i := 200) rfl)) rfl
theorem wq_1471 : Cond.instanceMethod yX8_feed ∈ lw_g := lw_g_mk (tb_6 (List.mem_of_getElem? (i := 147) rfl)) rfl
theorem wq_1472 : Cond.selects RX8 yX8_feed yX8_feed ∈ lw_g := lw_g_mk (tb_6 (List.mem_of_getElem? (i := 148) rfl)) rfl
abbrev cL_law : ByteArray := code
def yL_law : MethodName := ⟨RL, "law", "([I)Z"⟩
theorem dL_law_0 : decode cL_law 0 = .ok (.new 8, 3) := by decide +kernel
theorem dL_law_3 : decode cL_law 3 = .ok (.dup, 1) := by decide +kernel
theorem dL_law_4 : decode cL_law 4 = .ok (.invokespecial 70, 3) := by decide +kernel
theorem dL_law_7 : decode cL_law 7 = .ok (.astore_n 1, 1) := by decide +kernel
theorem dL_law_8 : decode cL_law 8 = .ok (.new 71, 3) := by decide +kernel
theorem dL_law_11 : decode cL_law 11 = .ok (.dup, 1) := by decide +kernel
theorem dL_law_12 : decode cL_law 12 = .ok (.invokespecial 73, 3) := by decide +kernel
theorem dL_law_15 : decode cL_law 15 = .ok (.astore_n 2, 1) := by decide +kernel
theorem dL_law_16 : decode cL_law 16 = .ok (.iconst 1, 1) := by decide +kernel
theorem dL_law_17 : decode cL_law 17 = .ok (.newarray .long, 2) := by decide +kernel
theorem dL_law_19 : decode cL_law 19 = .ok (.astore_n 3, 1) := by decide +kernel
theorem dL_law_20 : decode cL_law 20 = .ok (.iconst 0, 1) := by decide +kernel
theorem dL_law_21 : decode cL_law 21 = .ok (.istore 4, 2) := by decide +kernel
theorem dL_law_23 : decode cL_law 23 = .ok (.iload 4, 2) := by decide +kernel
theorem dL_law_25 : decode cL_law 25 = .ok (.aload_n 0, 1) := by decide +kernel
theorem dL_law_26 : decode cL_law 26 = .ok (.arraylength, 1) := by decide +kernel
theorem dL_law_27 : decode cL_law 27 = .ok (.bipush 6, 2) := by decide +kernel
theorem dL_law_29 : decode cL_law 29 = .ok (.isub, 1) := by decide +kernel
theorem dL_law_30 : decode cL_law 30 = .ok (.if_icmp .gt 1322, 3) := by decide +kernel
theorem dL_law_33 : decode cL_law 33 = .ok (.aload_n 0, 1) := by decide +kernel
theorem dL_law_34 : decode cL_law 34 = .ok (.iload 4, 2) := by decide +kernel
theorem dL_law_36 : decode cL_law 36 = .ok (.iaload, 1) := by decide +kernel
theorem dL_law_37 : decode cL_law 37 = .ok (.bipush 31, 2) := by decide +kernel
theorem dL_law_39 : decode cL_law 39 = .ok (.iand, 1) := by decide +kernel
theorem dL_law_40 : decode cL_law 40 = .ok (.tableswitch 1306 0 22 #[108, 212, 268, 281, 294, 350, 418, 486, 554, 622, 690, 753, 766, 822, 835, 891, 959, 1015, 1071, 1139, 1195, 1251, 1292], 108) := by decide +kernel
theorem dL_law_148 : decode cL_law 148 = .ok (.aload_n 1, 1) := by decide +kernel
theorem dL_law_149 : decode cL_law 149 = .ok (.aload_n 0, 1) := by decide +kernel
theorem dL_law_150 : decode cL_law 150 = .ok (.iload 4, 2) := by decide +kernel
theorem dL_law_152 : decode cL_law 152 = .ok (.iconst 1, 1) := by decide +kernel
theorem dL_law_153 : decode cL_law 153 = .ok (.iadd, 1) := by decide +kernel
theorem dL_law_154 : decode cL_law 154 = .ok (.iaload, 1) := by decide +kernel
theorem dL_law_155 : decode cL_law 155 = .ok (.aload_n 0, 1) := by decide +kernel
theorem dL_law_156 : decode cL_law 156 = .ok (.iload 4, 2) := by decide +kernel
theorem dL_law_158 : decode cL_law 158 = .ok (.iconst 2, 1) := by decide +kernel
theorem dL_law_159 : decode cL_law 159 = .ok (.iadd, 1) := by decide +kernel
theorem dL_law_160 : decode cL_law 160 = .ok (.iaload, 1) := by decide +kernel
theorem dL_law_161 : decode cL_law 161 = .ok (.aload_n 0, 1) := by decide +kernel
theorem dL_law_162 : decode cL_law 162 = .ok (.iload 4, 2) := by decide +kernel
theorem dL_law_164 : decode cL_law 164 = .ok (.iconst 3, 1) := by decide +kernel
theorem dL_law_165 : decode cL_law 165 = .ok (.iadd, 1) := by decide +kernel
theorem dL_law_166 : decode cL_law 166 = .ok (.iaload, 1) := by decide +kernel
theorem dL_law_167 : decode cL_law 167 = .ok (.aload_n 0, 1) := by decide +kernel
theorem dL_law_168 : decode cL_law 168 = .ok (.iload 4, 2) := by decide +kernel
theorem dL_law_170 : decode cL_law 170 = .ok (.iconst 4, 1) := by decide +kernel
theorem dL_law_171 : decode cL_law 171 = .ok (.iadd, 1) := by decide +kernel
theorem dL_law_172 : decode cL_law 172 = .ok (.iaload, 1) := by decide +kernel
theorem dL_law_173 : decode cL_law 173 = .ok (.aload_n 0, 1) := by decide +kernel
theorem dL_law_174 : decode cL_law 174 = .ok (.iload 4, 2) := by decide +kernel
theorem dL_law_176 : decode cL_law 176 = .ok (.iconst 5, 1) := by decide +kernel
theorem dL_law_177 : decode cL_law 177 = .ok (.iadd, 1) := by decide +kernel
theorem dL_law_178 : decode cL_law 178 = .ok (.iaload, 1) := by decide +kernel
theorem dL_law_179 : decode cL_law 179 = .ok (.aload_n 3, 1) := by decide +kernel
theorem dL_law_180 : decode cL_law 180 = .ok (.invokestatic 74, 3) := by decide +kernel
theorem dL_law_183 : decode cL_law 183 = .ok (.istore 5, 2) := by decide +kernel
theorem dL_law_185 : decode cL_law 185 = .ok (.aload_n 2, 1) := by decide +kernel
theorem dL_law_186 : decode cL_law 186 = .ok (.aload_n 0, 1) := by decide +kernel
theorem dL_law_187 : decode cL_law 187 = .ok (.iload 4, 2) := by decide +kernel
theorem dL_law_189 : decode cL_law 189 = .ok (.iconst 1, 1) := by decide +kernel
theorem dL_law_190 : decode cL_law 190 = .ok (.iadd, 1) := by decide +kernel
theorem dL_law_191 : decode cL_law 191 = .ok (.iaload, 1) := by decide +kernel
theorem dL_law_192 : decode cL_law 192 = .ok (.aload_n 0, 1) := by decide +kernel
theorem dL_law_193 : decode cL_law 193 = .ok (.iload 4, 2) := by decide +kernel
theorem dL_law_195 : decode cL_law 195 = .ok (.iconst 2, 1) := by decide +kernel
theorem dL_law_196 : decode cL_law 196 = .ok (.iadd, 1) := by decide +kernel
theorem dL_law_197 : decode cL_law 197 = .ok (.iaload, 1) := by decide +kernel
theorem dL_law_198 : decode cL_law 198 = .ok (.aload_n 0, 1) := by decide +kernel
theorem dL_law_199 : decode cL_law 199 = .ok (.iload 4, 2) := by decide +kernel
theorem dL_law_201 : decode cL_law 201 = .ok (.iconst 3, 1) := by decide +kernel
theorem dL_law_202 : decode cL_law 202 = .ok (.iadd, 1) := by decide +kernel
theorem dL_law_203 : decode cL_law 203 = .ok (.iaload, 1) := by decide +kernel
theorem dL_law_204 : decode cL_law 204 = .ok (.aload_n 0, 1) := by decide +kernel
theorem dL_law_205 : decode cL_law 205 = .ok (.iload 4, 2) := by decide +kernel
theorem dL_law_207 : decode cL_law 207 = .ok (.iconst 4, 1) := by decide +kernel
theorem dL_law_208 : decode cL_law 208 = .ok (.iadd, 1) := by decide +kernel
theorem dL_law_209 : decode cL_law 209 = .ok (.iaload, 1) := by decide +kernel
theorem dL_law_210 : decode cL_law 210 = .ok (.aload_n 0, 1) := by decide +kernel
theorem dL_law_211 : decode cL_law 211 = .ok (.iload 4, 2) := by decide +kernel
theorem dL_law_213 : decode cL_law 213 = .ok (.iconst 5, 1) := by decide +kernel
theorem dL_law_214 : decode cL_law 214 = .ok (.iadd, 1) := by decide +kernel
theorem dL_law_215 : decode cL_law 215 = .ok (.iaload, 1) := by decide +kernel
theorem dL_law_216 : decode cL_law 216 = .ok (.invokevirtual 79, 3) := by decide +kernel
theorem dL_law_219 : decode cL_law 219 = .ok (.istore 6, 2) := by decide +kernel
theorem dL_law_221 : decode cL_law 221 = .ok (.aload_n 2, 1) := by decide +kernel
theorem dL_law_222 : decode cL_law 222 = .ok (.invokevirtual 80, 3) := by decide +kernel
theorem dL_law_225 : decode cL_law 225 = .ok (.iload 5, 2) := by decide +kernel
theorem dL_law_227 : decode cL_law 227 = .ok (.if_icmp .eq 5, 3) := by decide +kernel
theorem dL_law_230 : decode cL_law 230 = .ok (.iconst 0, 1) := by decide +kernel
theorem dL_law_231 : decode cL_law 231 = .ok (.ireturn, 1) := by decide +kernel
theorem dL_law_232 : decode cL_law 232 = .ok (.iload 5, 2) := by decide +kernel
theorem dL_law_234 : decode cL_law 234 = .ok (.ifCond .ne 15, 3) := by decide +kernel
theorem dL_law_237 : decode cL_law 237 = .ok (.aload_n 3, 1) := by decide +kernel
theorem dL_law_238 : decode cL_law 238 = .ok (.iconst 0, 1) := by decide +kernel
theorem dL_law_239 : decode cL_law 239 = .ok (.laload, 1) := by decide +kernel
theorem dL_law_240 : decode cL_law 240 = .ok (.iload 6, 2) := by decide +kernel
theorem dL_law_242 : decode cL_law 242 = .ok (.i2l, 1) := by decide +kernel
theorem dL_law_243 : decode cL_law 243 = .ok (.lcmp, 1) := by decide +kernel
theorem dL_law_244 : decode cL_law 244 = .ok (.ifCond .eq 5, 3) := by decide +kernel
theorem dL_law_247 : decode cL_law 247 = .ok (.iconst 0, 1) := by decide +kernel
theorem dL_law_248 : decode cL_law 248 = .ok (.ireturn, 1) := by decide +kernel
theorem dL_law_249 : decode cL_law 249 = .ok (.goto 1097, 3) := by decide +kernel
theorem dL_law_252 : decode cL_law 252 = .ok (.aload_n 1, 1) := by decide +kernel
theorem dL_law_253 : decode cL_law 253 = .ok (.aload_n 0, 1) := by decide +kernel
theorem dL_law_254 : decode cL_law 254 = .ok (.iload 4, 2) := by decide +kernel
theorem dL_law_256 : decode cL_law 256 = .ok (.iconst 1, 1) := by decide +kernel
theorem dL_law_257 : decode cL_law 257 = .ok (.iadd, 1) := by decide +kernel
theorem dL_law_258 : decode cL_law 258 = .ok (.iaload, 1) := by decide +kernel
theorem dL_law_259 : decode cL_law 259 = .ok (.aload_n 3, 1) := by decide +kernel
theorem dL_law_260 : decode cL_law 260 = .ok (.invokestatic 84, 3) := by decide +kernel
theorem dL_law_263 : decode cL_law 263 = .ok (.istore 5, 2) := by decide +kernel
theorem dL_law_265 : decode cL_law 265 = .ok (.aload_n 2, 1) := by decide +kernel
theorem dL_law_266 : decode cL_law 266 = .ok (.aload_n 0, 1) := by decide +kernel
theorem dL_law_267 : decode cL_law 267 = .ok (.iload 4, 2) := by decide +kernel
theorem dL_law_269 : decode cL_law 269 = .ok (.iconst 1, 1) := by decide +kernel
theorem dL_law_270 : decode cL_law 270 = .ok (.iadd, 1) := by decide +kernel
theorem dL_law_271 : decode cL_law 271 = .ok (.iaload, 1) := by decide +kernel
theorem dL_law_272 : decode cL_law 272 = .ok (.invokevirtual 87, 3) := by decide +kernel
theorem dL_law_275 : decode cL_law 275 = .ok (.istore 6, 2) := by decide +kernel
theorem dL_law_277 : decode cL_law 277 = .ok (.aload_n 2, 1) := by decide +kernel
theorem dL_law_278 : decode cL_law 278 = .ok (.invokevirtual 80, 3) := by decide +kernel
theorem dL_law_281 : decode cL_law 281 = .ok (.iload 5, 2) := by decide +kernel
theorem dL_law_283 : decode cL_law 283 = .ok (.if_icmp .eq 5, 3) := by decide +kernel
theorem dL_law_286 : decode cL_law 286 = .ok (.iconst 0, 1) := by decide +kernel
theorem dL_law_287 : decode cL_law 287 = .ok (.ireturn, 1) := by decide +kernel
theorem dL_law_288 : decode cL_law 288 = .ok (.iload 5, 2) := by decide +kernel
theorem dL_law_290 : decode cL_law 290 = .ok (.ifCond .ne 15, 3) := by decide +kernel
theorem dL_law_293 : decode cL_law 293 = .ok (.aload_n 3, 1) := by decide +kernel
theorem dL_law_294 : decode cL_law 294 = .ok (.iconst 0, 1) := by decide +kernel
theorem dL_law_295 : decode cL_law 295 = .ok (.laload, 1) := by decide +kernel
theorem dL_law_296 : decode cL_law 296 = .ok (.iload 6, 2) := by decide +kernel
theorem dL_law_298 : decode cL_law 298 = .ok (.i2l, 1) := by decide +kernel
theorem dL_law_299 : decode cL_law 299 = .ok (.lcmp, 1) := by decide +kernel
theorem dL_law_300 : decode cL_law 300 = .ok (.ifCond .eq 5, 3) := by decide +kernel
theorem dL_law_303 : decode cL_law 303 = .ok (.iconst 0, 1) := by decide +kernel
theorem dL_law_304 : decode cL_law 304 = .ok (.ireturn, 1) := by decide +kernel
theorem dL_law_305 : decode cL_law 305 = .ok (.goto 1041, 3) := by decide +kernel
theorem dL_law_308 : decode cL_law 308 = .ok (.aload_n 1, 1) := by decide +kernel
theorem dL_law_309 : decode cL_law 309 = .ok (.invokevirtual 88, 3) := by decide +kernel
theorem dL_law_312 : decode cL_law 312 = .ok (.aload_n 2, 1) := by decide +kernel
theorem dL_law_313 : decode cL_law 313 = .ok (.invokevirtual 91, 3) := by decide +kernel
theorem dL_law_316 : decode cL_law 316 = .ok (.if_icmp .eq 1030, 3) := by decide +kernel
theorem dL_law_319 : decode cL_law 319 = .ok (.iconst 0, 1) := by decide +kernel
theorem dL_law_320 : decode cL_law 320 = .ok (.ireturn, 1) := by decide +kernel
theorem dL_law_321 : decode cL_law 321 = .ok (.aload_n 1, 1) := by decide +kernel
theorem dL_law_322 : decode cL_law 322 = .ok (.invokevirtual 92, 3) := by decide +kernel
theorem dL_law_325 : decode cL_law 325 = .ok (.aload_n 2, 1) := by decide +kernel
theorem dL_law_326 : decode cL_law 326 = .ok (.invokevirtual 95, 3) := by decide +kernel
theorem dL_law_329 : decode cL_law 329 = .ok (.if_icmp .eq 1017, 3) := by decide +kernel
theorem dL_law_332 : decode cL_law 332 = .ok (.iconst 0, 1) := by decide +kernel
theorem dL_law_333 : decode cL_law 333 = .ok (.ireturn, 1) := by decide +kernel
theorem dL_law_334 : decode cL_law 334 = .ok (.aload_n 1, 1) := by decide +kernel
theorem dL_law_335 : decode cL_law 335 = .ok (.aload_n 0, 1) := by decide +kernel
theorem dL_law_336 : decode cL_law 336 = .ok (.iload 4, 2) := by decide +kernel
theorem dL_law_338 : decode cL_law 338 = .ok (.iconst 1, 1) := by decide +kernel
theorem dL_law_339 : decode cL_law 339 = .ok (.iadd, 1) := by decide +kernel
theorem dL_law_340 : decode cL_law 340 = .ok (.iaload, 1) := by decide +kernel
theorem dL_law_341 : decode cL_law 341 = .ok (.aload_n 3, 1) := by decide +kernel
theorem dL_law_342 : decode cL_law 342 = .ok (.invokestatic 96, 3) := by decide +kernel
theorem dL_law_345 : decode cL_law 345 = .ok (.istore 5, 2) := by decide +kernel
theorem dL_law_347 : decode cL_law 347 = .ok (.aload_n 2, 1) := by decide +kernel
theorem dL_law_348 : decode cL_law 348 = .ok (.aload_n 0, 1) := by decide +kernel
theorem dL_law_349 : decode cL_law 349 = .ok (.iload 4, 2) := by decide +kernel
theorem dL_law_351 : decode cL_law 351 = .ok (.iconst 1, 1) := by decide +kernel
theorem dL_law_352 : decode cL_law 352 = .ok (.iadd, 1) := by decide +kernel
theorem dL_law_353 : decode cL_law 353 = .ok (.iaload, 1) := by decide +kernel
theorem dL_law_354 : decode cL_law 354 = .ok (.invokevirtual 98, 3) := by decide +kernel
theorem dL_law_357 : decode cL_law 357 = .ok (.istore 6, 2) := by decide +kernel
theorem dL_law_359 : decode cL_law 359 = .ok (.aload_n 2, 1) := by decide +kernel
theorem dL_law_360 : decode cL_law 360 = .ok (.invokevirtual 80, 3) := by decide +kernel
theorem dL_law_363 : decode cL_law 363 = .ok (.iload 5, 2) := by decide +kernel
theorem dL_law_365 : decode cL_law 365 = .ok (.if_icmp .eq 5, 3) := by decide +kernel
theorem dL_law_368 : decode cL_law 368 = .ok (.iconst 0, 1) := by decide +kernel
theorem dL_law_369 : decode cL_law 369 = .ok (.ireturn, 1) := by decide +kernel
theorem dL_law_370 : decode cL_law 370 = .ok (.iload 5, 2) := by decide +kernel
theorem dL_law_372 : decode cL_law 372 = .ok (.ifCond .ne 15, 3) := by decide +kernel
theorem dL_law_375 : decode cL_law 375 = .ok (.aload_n 3, 1) := by decide +kernel
theorem dL_law_376 : decode cL_law 376 = .ok (.iconst 0, 1) := by decide +kernel
theorem dL_law_377 : decode cL_law 377 = .ok (.laload, 1) := by decide +kernel
theorem dL_law_378 : decode cL_law 378 = .ok (.iload 6, 2) := by decide +kernel
theorem dL_law_380 : decode cL_law 380 = .ok (.i2l, 1) := by decide +kernel
theorem dL_law_381 : decode cL_law 381 = .ok (.lcmp, 1) := by decide +kernel
theorem dL_law_382 : decode cL_law 382 = .ok (.ifCond .eq 5, 3) := by decide +kernel
theorem dL_law_385 : decode cL_law 385 = .ok (.iconst 0, 1) := by decide +kernel
theorem dL_law_386 : decode cL_law 386 = .ok (.ireturn, 1) := by decide +kernel
theorem dL_law_387 : decode cL_law 387 = .ok (.goto 959, 3) := by decide +kernel
theorem dL_law_390 : decode cL_law 390 = .ok (.aload_n 1, 1) := by decide +kernel
theorem dL_law_391 : decode cL_law 391 = .ok (.aload_n 0, 1) := by decide +kernel
theorem dL_law_392 : decode cL_law 392 = .ok (.iload 4, 2) := by decide +kernel
theorem dL_law_394 : decode cL_law 394 = .ok (.iconst 1, 1) := by decide +kernel
theorem dL_law_395 : decode cL_law 395 = .ok (.iadd, 1) := by decide +kernel
theorem dL_law_396 : decode cL_law 396 = .ok (.iaload, 1) := by decide +kernel
theorem dL_law_397 : decode cL_law 397 = .ok (.aload_n 0, 1) := by decide +kernel
theorem dL_law_398 : decode cL_law 398 = .ok (.iload 4, 2) := by decide +kernel
theorem dL_law_400 : decode cL_law 400 = .ok (.iconst 2, 1) := by decide +kernel
theorem dL_law_401 : decode cL_law 401 = .ok (.iadd, 1) := by decide +kernel
theorem dL_law_402 : decode cL_law 402 = .ok (.iaload, 1) := by decide +kernel
theorem dL_law_403 : decode cL_law 403 = .ok (.aload_n 3, 1) := by decide +kernel
theorem dL_law_404 : decode cL_law 404 = .ok (.invokestatic 99, 3) := by decide +kernel
theorem dL_law_407 : decode cL_law 407 = .ok (.istore 5, 2) := by decide +kernel
theorem dL_law_409 : decode cL_law 409 = .ok (.aload_n 2, 1) := by decide +kernel
theorem dL_law_410 : decode cL_law 410 = .ok (.aload_n 0, 1) := by decide +kernel
theorem dL_law_411 : decode cL_law 411 = .ok (.iload 4, 2) := by decide +kernel
theorem dL_law_413 : decode cL_law 413 = .ok (.iconst 1, 1) := by decide +kernel
theorem dL_law_414 : decode cL_law 414 = .ok (.iadd, 1) := by decide +kernel
theorem dL_law_415 : decode cL_law 415 = .ok (.iaload, 1) := by decide +kernel
theorem dL_law_416 : decode cL_law 416 = .ok (.aload_n 0, 1) := by decide +kernel
theorem dL_law_417 : decode cL_law 417 = .ok (.iload 4, 2) := by decide +kernel
theorem dL_law_419 : decode cL_law 419 = .ok (.iconst 2, 1) := by decide +kernel
theorem dL_law_420 : decode cL_law 420 = .ok (.iadd, 1) := by decide +kernel
theorem dL_law_421 : decode cL_law 421 = .ok (.iaload, 1) := by decide +kernel
theorem dL_law_422 : decode cL_law 422 = .ok (.invokevirtual 102, 3) := by decide +kernel
theorem dL_law_425 : decode cL_law 425 = .ok (.istore 6, 2) := by decide +kernel
theorem dL_law_427 : decode cL_law 427 = .ok (.aload_n 2, 1) := by decide +kernel
theorem dL_law_428 : decode cL_law 428 = .ok (.invokevirtual 80, 3) := by decide +kernel
theorem dL_law_431 : decode cL_law 431 = .ok (.iload 5, 2) := by decide +kernel
theorem dL_law_433 : decode cL_law 433 = .ok (.if_icmp .eq 5, 3) := by decide +kernel
theorem dL_law_436 : decode cL_law 436 = .ok (.iconst 0, 1) := by decide +kernel
theorem dL_law_437 : decode cL_law 437 = .ok (.ireturn, 1) := by decide +kernel
theorem dL_law_438 : decode cL_law 438 = .ok (.iload 5, 2) := by decide +kernel
theorem dL_law_440 : decode cL_law 440 = .ok (.ifCond .ne 15, 3) := by decide +kernel
theorem dL_law_443 : decode cL_law 443 = .ok (.aload_n 3, 1) := by decide +kernel
theorem dL_law_444 : decode cL_law 444 = .ok (.iconst 0, 1) := by decide +kernel
theorem dL_law_445 : decode cL_law 445 = .ok (.laload, 1) := by decide +kernel
theorem dL_law_446 : decode cL_law 446 = .ok (.iload 6, 2) := by decide +kernel
theorem dL_law_448 : decode cL_law 448 = .ok (.i2l, 1) := by decide +kernel
theorem dL_law_449 : decode cL_law 449 = .ok (.lcmp, 1) := by decide +kernel
theorem dL_law_450 : decode cL_law 450 = .ok (.ifCond .eq 5, 3) := by decide +kernel
theorem dL_law_453 : decode cL_law 453 = .ok (.iconst 0, 1) := by decide +kernel
theorem dL_law_454 : decode cL_law 454 = .ok (.ireturn, 1) := by decide +kernel
theorem dL_law_455 : decode cL_law 455 = .ok (.goto 891, 3) := by decide +kernel
theorem dL_law_458 : decode cL_law 458 = .ok (.aload_n 1, 1) := by decide +kernel
theorem dL_law_459 : decode cL_law 459 = .ok (.aload_n 0, 1) := by decide +kernel
theorem dL_law_460 : decode cL_law 460 = .ok (.iload 4, 2) := by decide +kernel
theorem dL_law_462 : decode cL_law 462 = .ok (.iconst 1, 1) := by decide +kernel
theorem dL_law_463 : decode cL_law 463 = .ok (.iadd, 1) := by decide +kernel
theorem dL_law_464 : decode cL_law 464 = .ok (.iaload, 1) := by decide +kernel
theorem dL_law_465 : decode cL_law 465 = .ok (.aload_n 0, 1) := by decide +kernel
theorem dL_law_466 : decode cL_law 466 = .ok (.iload 4, 2) := by decide +kernel
theorem dL_law_468 : decode cL_law 468 = .ok (.iconst 2, 1) := by decide +kernel
theorem dL_law_469 : decode cL_law 469 = .ok (.iadd, 1) := by decide +kernel
theorem dL_law_470 : decode cL_law 470 = .ok (.iaload, 1) := by decide +kernel
theorem dL_law_471 : decode cL_law 471 = .ok (.aload_n 3, 1) := by decide +kernel
theorem dL_law_472 : decode cL_law 472 = .ok (.invokestatic 103, 3) := by decide +kernel
theorem dL_law_475 : decode cL_law 475 = .ok (.istore 5, 2) := by decide +kernel
theorem dL_law_477 : decode cL_law 477 = .ok (.aload_n 2, 1) := by decide +kernel
theorem dL_law_478 : decode cL_law 478 = .ok (.aload_n 0, 1) := by decide +kernel
theorem dL_law_479 : decode cL_law 479 = .ok (.iload 4, 2) := by decide +kernel
theorem dL_law_481 : decode cL_law 481 = .ok (.iconst 1, 1) := by decide +kernel
theorem dL_law_482 : decode cL_law 482 = .ok (.iadd, 1) := by decide +kernel
theorem dL_law_483 : decode cL_law 483 = .ok (.iaload, 1) := by decide +kernel
theorem dL_law_484 : decode cL_law 484 = .ok (.aload_n 0, 1) := by decide +kernel
theorem dL_law_485 : decode cL_law 485 = .ok (.iload 4, 2) := by decide +kernel
theorem dL_law_487 : decode cL_law 487 = .ok (.iconst 2, 1) := by decide +kernel
theorem dL_law_488 : decode cL_law 488 = .ok (.iadd, 1) := by decide +kernel
theorem dL_law_489 : decode cL_law 489 = .ok (.iaload, 1) := by decide +kernel
theorem dL_law_490 : decode cL_law 490 = .ok (.invokevirtual 105, 3) := by decide +kernel
theorem dL_law_493 : decode cL_law 493 = .ok (.istore 6, 2) := by decide +kernel
theorem dL_law_495 : decode cL_law 495 = .ok (.aload_n 2, 1) := by decide +kernel
theorem dL_law_496 : decode cL_law 496 = .ok (.invokevirtual 80, 3) := by decide +kernel
theorem dL_law_499 : decode cL_law 499 = .ok (.iload 5, 2) := by decide +kernel
theorem dL_law_501 : decode cL_law 501 = .ok (.if_icmp .eq 5, 3) := by decide +kernel
theorem dL_law_504 : decode cL_law 504 = .ok (.iconst 0, 1) := by decide +kernel
theorem dL_law_505 : decode cL_law 505 = .ok (.ireturn, 1) := by decide +kernel
theorem dL_law_506 : decode cL_law 506 = .ok (.iload 5, 2) := by decide +kernel
theorem dL_law_508 : decode cL_law 508 = .ok (.ifCond .ne 15, 3) := by decide +kernel
theorem dL_law_511 : decode cL_law 511 = .ok (.aload_n 3, 1) := by decide +kernel
theorem dL_law_512 : decode cL_law 512 = .ok (.iconst 0, 1) := by decide +kernel
theorem dL_law_513 : decode cL_law 513 = .ok (.laload, 1) := by decide +kernel
theorem dL_law_514 : decode cL_law 514 = .ok (.iload 6, 2) := by decide +kernel
theorem dL_law_516 : decode cL_law 516 = .ok (.i2l, 1) := by decide +kernel
theorem dL_law_517 : decode cL_law 517 = .ok (.lcmp, 1) := by decide +kernel
theorem dL_law_518 : decode cL_law 518 = .ok (.ifCond .eq 5, 3) := by decide +kernel
theorem dL_law_521 : decode cL_law 521 = .ok (.iconst 0, 1) := by decide +kernel
theorem dL_law_522 : decode cL_law 522 = .ok (.ireturn, 1) := by decide +kernel
theorem dL_law_523 : decode cL_law 523 = .ok (.goto 823, 3) := by decide +kernel
theorem dL_law_526 : decode cL_law 526 = .ok (.aload_n 1, 1) := by decide +kernel
theorem dL_law_527 : decode cL_law 527 = .ok (.aload_n 0, 1) := by decide +kernel
theorem dL_law_528 : decode cL_law 528 = .ok (.iload 4, 2) := by decide +kernel
theorem dL_law_530 : decode cL_law 530 = .ok (.iconst 1, 1) := by decide +kernel
theorem dL_law_531 : decode cL_law 531 = .ok (.iadd, 1) := by decide +kernel
theorem dL_law_532 : decode cL_law 532 = .ok (.iaload, 1) := by decide +kernel
theorem dL_law_533 : decode cL_law 533 = .ok (.aload_n 0, 1) := by decide +kernel
theorem dL_law_534 : decode cL_law 534 = .ok (.iload 4, 2) := by decide +kernel
theorem dL_law_536 : decode cL_law 536 = .ok (.iconst 2, 1) := by decide +kernel
theorem dL_law_537 : decode cL_law 537 = .ok (.iadd, 1) := by decide +kernel
theorem dL_law_538 : decode cL_law 538 = .ok (.iaload, 1) := by decide +kernel
theorem dL_law_539 : decode cL_law 539 = .ok (.aload_n 3, 1) := by decide +kernel
theorem dL_law_540 : decode cL_law 540 = .ok (.invokestatic 106, 3) := by decide +kernel
theorem dL_law_543 : decode cL_law 543 = .ok (.istore 5, 2) := by decide +kernel
theorem dL_law_545 : decode cL_law 545 = .ok (.aload_n 2, 1) := by decide +kernel
theorem dL_law_546 : decode cL_law 546 = .ok (.aload_n 0, 1) := by decide +kernel
theorem dL_law_547 : decode cL_law 547 = .ok (.iload 4, 2) := by decide +kernel
theorem dL_law_549 : decode cL_law 549 = .ok (.iconst 1, 1) := by decide +kernel
theorem dL_law_550 : decode cL_law 550 = .ok (.iadd, 1) := by decide +kernel
theorem dL_law_551 : decode cL_law 551 = .ok (.iaload, 1) := by decide +kernel
theorem dL_law_552 : decode cL_law 552 = .ok (.aload_n 0, 1) := by decide +kernel
theorem dL_law_553 : decode cL_law 553 = .ok (.iload 4, 2) := by decide +kernel
theorem dL_law_555 : decode cL_law 555 = .ok (.iconst 2, 1) := by decide +kernel
theorem dL_law_556 : decode cL_law 556 = .ok (.iadd, 1) := by decide +kernel
theorem dL_law_557 : decode cL_law 557 = .ok (.iaload, 1) := by decide +kernel
theorem dL_law_558 : decode cL_law 558 = .ok (.invokevirtual 108, 3) := by decide +kernel
theorem dL_law_561 : decode cL_law 561 = .ok (.istore 6, 2) := by decide +kernel
theorem dL_law_563 : decode cL_law 563 = .ok (.aload_n 2, 1) := by decide +kernel
theorem dL_law_564 : decode cL_law 564 = .ok (.invokevirtual 80, 3) := by decide +kernel
theorem dL_law_567 : decode cL_law 567 = .ok (.iload 5, 2) := by decide +kernel
theorem dL_law_569 : decode cL_law 569 = .ok (.if_icmp .eq 5, 3) := by decide +kernel
theorem dL_law_572 : decode cL_law 572 = .ok (.iconst 0, 1) := by decide +kernel
theorem dL_law_573 : decode cL_law 573 = .ok (.ireturn, 1) := by decide +kernel
theorem dL_law_574 : decode cL_law 574 = .ok (.iload 5, 2) := by decide +kernel
theorem dL_law_576 : decode cL_law 576 = .ok (.ifCond .ne 15, 3) := by decide +kernel
theorem dL_law_579 : decode cL_law 579 = .ok (.aload_n 3, 1) := by decide +kernel
theorem dL_law_580 : decode cL_law 580 = .ok (.iconst 0, 1) := by decide +kernel
theorem dL_law_581 : decode cL_law 581 = .ok (.laload, 1) := by decide +kernel
theorem dL_law_582 : decode cL_law 582 = .ok (.iload 6, 2) := by decide +kernel
theorem dL_law_584 : decode cL_law 584 = .ok (.i2l, 1) := by decide +kernel
theorem dL_law_585 : decode cL_law 585 = .ok (.lcmp, 1) := by decide +kernel
theorem dL_law_586 : decode cL_law 586 = .ok (.ifCond .eq 5, 3) := by decide +kernel
theorem dL_law_589 : decode cL_law 589 = .ok (.iconst 0, 1) := by decide +kernel
theorem dL_law_590 : decode cL_law 590 = .ok (.ireturn, 1) := by decide +kernel
theorem dL_law_591 : decode cL_law 591 = .ok (.goto 755, 3) := by decide +kernel
theorem dL_law_594 : decode cL_law 594 = .ok (.aload_n 1, 1) := by decide +kernel
theorem dL_law_595 : decode cL_law 595 = .ok (.aload_n 0, 1) := by decide +kernel
theorem dL_law_596 : decode cL_law 596 = .ok (.iload 4, 2) := by decide +kernel
theorem dL_law_598 : decode cL_law 598 = .ok (.iconst 1, 1) := by decide +kernel
theorem dL_law_599 : decode cL_law 599 = .ok (.iadd, 1) := by decide +kernel
theorem dL_law_600 : decode cL_law 600 = .ok (.iaload, 1) := by decide +kernel
theorem dL_law_601 : decode cL_law 601 = .ok (.aload_n 0, 1) := by decide +kernel
theorem dL_law_602 : decode cL_law 602 = .ok (.iload 4, 2) := by decide +kernel
theorem dL_law_604 : decode cL_law 604 = .ok (.iconst 2, 1) := by decide +kernel
theorem dL_law_605 : decode cL_law 605 = .ok (.iadd, 1) := by decide +kernel
theorem dL_law_606 : decode cL_law 606 = .ok (.iaload, 1) := by decide +kernel
theorem dL_law_607 : decode cL_law 607 = .ok (.aload_n 3, 1) := by decide +kernel
theorem dL_law_608 : decode cL_law 608 = .ok (.invokestatic 109, 3) := by decide +kernel
theorem dL_law_611 : decode cL_law 611 = .ok (.istore 5, 2) := by decide +kernel
theorem dL_law_613 : decode cL_law 613 = .ok (.aload_n 2, 1) := by decide +kernel
theorem dL_law_614 : decode cL_law 614 = .ok (.aload_n 0, 1) := by decide +kernel
theorem dL_law_615 : decode cL_law 615 = .ok (.iload 4, 2) := by decide +kernel
theorem dL_law_617 : decode cL_law 617 = .ok (.iconst 1, 1) := by decide +kernel
theorem dL_law_618 : decode cL_law 618 = .ok (.iadd, 1) := by decide +kernel
theorem dL_law_619 : decode cL_law 619 = .ok (.iaload, 1) := by decide +kernel
theorem dL_law_620 : decode cL_law 620 = .ok (.aload_n 0, 1) := by decide +kernel
theorem dL_law_621 : decode cL_law 621 = .ok (.iload 4, 2) := by decide +kernel
theorem dL_law_623 : decode cL_law 623 = .ok (.iconst 2, 1) := by decide +kernel
theorem dL_law_624 : decode cL_law 624 = .ok (.iadd, 1) := by decide +kernel
theorem dL_law_625 : decode cL_law 625 = .ok (.iaload, 1) := by decide +kernel
theorem dL_law_626 : decode cL_law 626 = .ok (.invokevirtual 111, 3) := by decide +kernel
theorem dL_law_629 : decode cL_law 629 = .ok (.istore 6, 2) := by decide +kernel
theorem dL_law_631 : decode cL_law 631 = .ok (.aload_n 2, 1) := by decide +kernel
theorem dL_law_632 : decode cL_law 632 = .ok (.invokevirtual 80, 3) := by decide +kernel
theorem dL_law_635 : decode cL_law 635 = .ok (.iload 5, 2) := by decide +kernel
theorem dL_law_637 : decode cL_law 637 = .ok (.if_icmp .eq 5, 3) := by decide +kernel
theorem dL_law_640 : decode cL_law 640 = .ok (.iconst 0, 1) := by decide +kernel
theorem dL_law_641 : decode cL_law 641 = .ok (.ireturn, 1) := by decide +kernel
theorem dL_law_642 : decode cL_law 642 = .ok (.iload 5, 2) := by decide +kernel
theorem dL_law_644 : decode cL_law 644 = .ok (.ifCond .ne 15, 3) := by decide +kernel
theorem dL_law_647 : decode cL_law 647 = .ok (.aload_n 3, 1) := by decide +kernel
theorem dL_law_648 : decode cL_law 648 = .ok (.iconst 0, 1) := by decide +kernel
theorem dL_law_649 : decode cL_law 649 = .ok (.laload, 1) := by decide +kernel
theorem dL_law_650 : decode cL_law 650 = .ok (.iload 6, 2) := by decide +kernel
theorem dL_law_652 : decode cL_law 652 = .ok (.i2l, 1) := by decide +kernel
theorem dL_law_653 : decode cL_law 653 = .ok (.lcmp, 1) := by decide +kernel
theorem dL_law_654 : decode cL_law 654 = .ok (.ifCond .eq 5, 3) := by decide +kernel
theorem dL_law_657 : decode cL_law 657 = .ok (.iconst 0, 1) := by decide +kernel
theorem dL_law_658 : decode cL_law 658 = .ok (.ireturn, 1) := by decide +kernel
theorem dL_law_659 : decode cL_law 659 = .ok (.goto 687, 3) := by decide +kernel
theorem dL_law_662 : decode cL_law 662 = .ok (.aload_n 1, 1) := by decide +kernel
theorem dL_law_663 : decode cL_law 663 = .ok (.aload_n 0, 1) := by decide +kernel
theorem dL_law_664 : decode cL_law 664 = .ok (.iload 4, 2) := by decide +kernel
theorem dL_law_666 : decode cL_law 666 = .ok (.iconst 1, 1) := by decide +kernel
theorem dL_law_667 : decode cL_law 667 = .ok (.iadd, 1) := by decide +kernel
theorem dL_law_668 : decode cL_law 668 = .ok (.iaload, 1) := by decide +kernel
theorem dL_law_669 : decode cL_law 669 = .ok (.aload_n 0, 1) := by decide +kernel
theorem dL_law_670 : decode cL_law 670 = .ok (.iload 4, 2) := by decide +kernel
theorem dL_law_672 : decode cL_law 672 = .ok (.iconst 2, 1) := by decide +kernel
theorem dL_law_673 : decode cL_law 673 = .ok (.iadd, 1) := by decide +kernel
theorem dL_law_674 : decode cL_law 674 = .ok (.iaload, 1) := by decide +kernel
theorem dL_law_675 : decode cL_law 675 = .ok (.aload_n 3, 1) := by decide +kernel
theorem dL_law_676 : decode cL_law 676 = .ok (.invokestatic 112, 3) := by decide +kernel
theorem dL_law_679 : decode cL_law 679 = .ok (.istore 5, 2) := by decide +kernel
theorem dL_law_681 : decode cL_law 681 = .ok (.aload_n 2, 1) := by decide +kernel
theorem dL_law_682 : decode cL_law 682 = .ok (.aload_n 0, 1) := by decide +kernel
theorem dL_law_683 : decode cL_law 683 = .ok (.iload 4, 2) := by decide +kernel
theorem dL_law_685 : decode cL_law 685 = .ok (.iconst 1, 1) := by decide +kernel
theorem dL_law_686 : decode cL_law 686 = .ok (.iadd, 1) := by decide +kernel
theorem dL_law_687 : decode cL_law 687 = .ok (.iaload, 1) := by decide +kernel
theorem dL_law_688 : decode cL_law 688 = .ok (.aload_n 0, 1) := by decide +kernel
theorem dL_law_689 : decode cL_law 689 = .ok (.iload 4, 2) := by decide +kernel
theorem dL_law_691 : decode cL_law 691 = .ok (.iconst 2, 1) := by decide +kernel
theorem dL_law_692 : decode cL_law 692 = .ok (.iadd, 1) := by decide +kernel
theorem dL_law_693 : decode cL_law 693 = .ok (.iaload, 1) := by decide +kernel
theorem dL_law_694 : decode cL_law 694 = .ok (.invokevirtual 114, 3) := by decide +kernel
theorem dL_law_697 : decode cL_law 697 = .ok (.istore 6, 2) := by decide +kernel
theorem dL_law_699 : decode cL_law 699 = .ok (.aload_n 2, 1) := by decide +kernel
theorem dL_law_700 : decode cL_law 700 = .ok (.invokevirtual 80, 3) := by decide +kernel
theorem dL_law_703 : decode cL_law 703 = .ok (.iload 5, 2) := by decide +kernel
theorem dL_law_705 : decode cL_law 705 = .ok (.if_icmp .eq 5, 3) := by decide +kernel
theorem dL_law_708 : decode cL_law 708 = .ok (.iconst 0, 1) := by decide +kernel
theorem dL_law_709 : decode cL_law 709 = .ok (.ireturn, 1) := by decide +kernel
theorem dL_law_710 : decode cL_law 710 = .ok (.iload 5, 2) := by decide +kernel
theorem dL_law_712 : decode cL_law 712 = .ok (.ifCond .ne 15, 3) := by decide +kernel
theorem dL_law_715 : decode cL_law 715 = .ok (.aload_n 3, 1) := by decide +kernel
theorem dL_law_716 : decode cL_law 716 = .ok (.iconst 0, 1) := by decide +kernel
theorem dL_law_717 : decode cL_law 717 = .ok (.laload, 1) := by decide +kernel
theorem dL_law_718 : decode cL_law 718 = .ok (.iload 6, 2) := by decide +kernel
theorem dL_law_720 : decode cL_law 720 = .ok (.i2l, 1) := by decide +kernel
theorem dL_law_721 : decode cL_law 721 = .ok (.lcmp, 1) := by decide +kernel
theorem dL_law_722 : decode cL_law 722 = .ok (.ifCond .eq 5, 3) := by decide +kernel
theorem dL_law_725 : decode cL_law 725 = .ok (.iconst 0, 1) := by decide +kernel
theorem dL_law_726 : decode cL_law 726 = .ok (.ireturn, 1) := by decide +kernel
theorem dL_law_727 : decode cL_law 727 = .ok (.goto 619, 3) := by decide +kernel
theorem dL_law_730 : decode cL_law 730 = .ok (.aload_n 1, 1) := by decide +kernel
theorem dL_law_731 : decode cL_law 731 = .ok (.aload_n 0, 1) := by decide +kernel
theorem dL_law_732 : decode cL_law 732 = .ok (.iload 4, 2) := by decide +kernel
theorem dL_law_734 : decode cL_law 734 = .ok (.iconst 1, 1) := by decide +kernel
theorem dL_law_735 : decode cL_law 735 = .ok (.iadd, 1) := by decide +kernel
theorem dL_law_736 : decode cL_law 736 = .ok (.iaload, 1) := by decide +kernel
theorem dL_law_737 : decode cL_law 737 = .ok (.aload_n 3, 1) := by decide +kernel
theorem dL_law_738 : decode cL_law 738 = .ok (.invokestatic 115, 3) := by decide +kernel
theorem dL_law_741 : decode cL_law 741 = .ok (.istore 5, 2) := by decide +kernel
theorem dL_law_743 : decode cL_law 743 = .ok (.aload_n 2, 1) := by decide +kernel
theorem dL_law_744 : decode cL_law 744 = .ok (.aload_n 0, 1) := by decide +kernel
theorem dL_law_745 : decode cL_law 745 = .ok (.iload 4, 2) := by decide +kernel
theorem dL_law_747 : decode cL_law 747 = .ok (.iconst 1, 1) := by decide +kernel
theorem dL_law_748 : decode cL_law 748 = .ok (.iadd, 1) := by decide +kernel
theorem dL_law_749 : decode cL_law 749 = .ok (.iaload, 1) := by decide +kernel
theorem dL_law_750 : decode cL_law 750 = .ok (.invokevirtual 117, 3) := by decide +kernel
theorem dL_law_753 : decode cL_law 753 = .ok (.istore 6, 2) := by decide +kernel
theorem dL_law_755 : decode cL_law 755 = .ok (.aload_n 2, 1) := by decide +kernel
theorem dL_law_756 : decode cL_law 756 = .ok (.invokevirtual 80, 3) := by decide +kernel
theorem dL_law_759 : decode cL_law 759 = .ok (.iload 5, 2) := by decide +kernel
theorem dL_law_761 : decode cL_law 761 = .ok (.if_icmp .eq 5, 3) := by decide +kernel
theorem dL_law_764 : decode cL_law 764 = .ok (.iconst 0, 1) := by decide +kernel
theorem dL_law_765 : decode cL_law 765 = .ok (.ireturn, 1) := by decide +kernel
theorem dL_law_766 : decode cL_law 766 = .ok (.iload 5, 2) := by decide +kernel
theorem dL_law_768 : decode cL_law 768 = .ok (.ifCond .ne 22, 3) := by decide +kernel
theorem dL_law_771 : decode cL_law 771 = .ok (.aload_n 3, 1) := by decide +kernel
theorem dL_law_772 : decode cL_law 772 = .ok (.iconst 0, 1) := by decide +kernel
theorem dL_law_773 : decode cL_law 773 = .ok (.laload, 1) := by decide +kernel
theorem dL_law_774 : decode cL_law 774 = .ok (.iload 6, 2) := by decide +kernel
theorem dL_law_776 : decode cL_law 776 = .ok (.ifCond .eq 7, 3) := by decide +kernel
theorem dL_law_779 : decode cL_law 779 = .ok (.lconst 1, 1) := by decide +kernel
theorem dL_law_780 : decode cL_law 780 = .ok (.goto 4, 3) := by decide +kernel
theorem dL_law_783 : decode cL_law 783 = .ok (.lconst 0, 1) := by decide +kernel
theorem dL_law_784 : decode cL_law 784 = .ok (.lcmp, 1) := by decide +kernel
theorem dL_law_785 : decode cL_law 785 = .ok (.ifCond .eq 5, 3) := by decide +kernel
theorem dL_law_788 : decode cL_law 788 = .ok (.iconst 0, 1) := by decide +kernel
theorem dL_law_789 : decode cL_law 789 = .ok (.ireturn, 1) := by decide +kernel
theorem dL_law_790 : decode cL_law 790 = .ok (.goto 556, 3) := by decide +kernel
theorem dL_law_793 : decode cL_law 793 = .ok (.aload_n 1, 1) := by decide +kernel
theorem dL_law_794 : decode cL_law 794 = .ok (.invokevirtual 118, 3) := by decide +kernel
theorem dL_law_797 : decode cL_law 797 = .ok (.aload_n 2, 1) := by decide +kernel
theorem dL_law_798 : decode cL_law 798 = .ok (.invokevirtual 121, 3) := by decide +kernel
theorem dL_law_801 : decode cL_law 801 = .ok (.if_icmp .eq 545, 3) := by decide +kernel
theorem dL_law_804 : decode cL_law 804 = .ok (.iconst 0, 1) := by decide +kernel
theorem dL_law_805 : decode cL_law 805 = .ok (.ireturn, 1) := by decide +kernel
theorem dL_law_806 : decode cL_law 806 = .ok (.aload_n 1, 1) := by decide +kernel
theorem dL_law_807 : decode cL_law 807 = .ok (.aload_n 0, 1) := by decide +kernel
theorem dL_law_808 : decode cL_law 808 = .ok (.iload 4, 2) := by decide +kernel
theorem dL_law_810 : decode cL_law 810 = .ok (.iconst 1, 1) := by decide +kernel
theorem dL_law_811 : decode cL_law 811 = .ok (.iadd, 1) := by decide +kernel
theorem dL_law_812 : decode cL_law 812 = .ok (.iaload, 1) := by decide +kernel
theorem dL_law_813 : decode cL_law 813 = .ok (.aload_n 3, 1) := by decide +kernel
theorem dL_law_814 : decode cL_law 814 = .ok (.invokestatic 122, 3) := by decide +kernel
theorem dL_law_817 : decode cL_law 817 = .ok (.istore 5, 2) := by decide +kernel
theorem dL_law_819 : decode cL_law 819 = .ok (.aload_n 2, 1) := by decide +kernel
theorem dL_law_820 : decode cL_law 820 = .ok (.aload_n 0, 1) := by decide +kernel
theorem dL_law_821 : decode cL_law 821 = .ok (.iload 4, 2) := by decide +kernel
theorem dL_law_823 : decode cL_law 823 = .ok (.iconst 1, 1) := by decide +kernel
theorem dL_law_824 : decode cL_law 824 = .ok (.iadd, 1) := by decide +kernel
theorem dL_law_825 : decode cL_law 825 = .ok (.iaload, 1) := by decide +kernel
theorem dL_law_826 : decode cL_law 826 = .ok (.invokevirtual 124, 3) := by decide +kernel
theorem dL_law_829 : decode cL_law 829 = .ok (.istore 6, 2) := by decide +kernel
theorem dL_law_831 : decode cL_law 831 = .ok (.aload_n 2, 1) := by decide +kernel
theorem dL_law_832 : decode cL_law 832 = .ok (.invokevirtual 80, 3) := by decide +kernel
theorem dL_law_835 : decode cL_law 835 = .ok (.iload 5, 2) := by decide +kernel
theorem dL_law_837 : decode cL_law 837 = .ok (.if_icmp .eq 5, 3) := by decide +kernel
theorem dL_law_840 : decode cL_law 840 = .ok (.iconst 0, 1) := by decide +kernel
theorem dL_law_841 : decode cL_law 841 = .ok (.ireturn, 1) := by decide +kernel
theorem dL_law_842 : decode cL_law 842 = .ok (.iload 5, 2) := by decide +kernel
theorem dL_law_844 : decode cL_law 844 = .ok (.ifCond .ne 15, 3) := by decide +kernel
theorem dL_law_847 : decode cL_law 847 = .ok (.aload_n 3, 1) := by decide +kernel
theorem dL_law_848 : decode cL_law 848 = .ok (.iconst 0, 1) := by decide +kernel
theorem dL_law_849 : decode cL_law 849 = .ok (.laload, 1) := by decide +kernel
theorem dL_law_850 : decode cL_law 850 = .ok (.iload 6, 2) := by decide +kernel
theorem dL_law_852 : decode cL_law 852 = .ok (.i2l, 1) := by decide +kernel
theorem dL_law_853 : decode cL_law 853 = .ok (.lcmp, 1) := by decide +kernel
theorem dL_law_854 : decode cL_law 854 = .ok (.ifCond .eq 5, 3) := by decide +kernel
theorem dL_law_857 : decode cL_law 857 = .ok (.iconst 0, 1) := by decide +kernel
theorem dL_law_858 : decode cL_law 858 = .ok (.ireturn, 1) := by decide +kernel
theorem dL_law_859 : decode cL_law 859 = .ok (.goto 487, 3) := by decide +kernel
theorem dL_law_862 : decode cL_law 862 = .ok (.aload_n 1, 1) := by decide +kernel
theorem dL_law_863 : decode cL_law 863 = .ok (.invokevirtual 125, 3) := by decide +kernel
theorem dL_law_866 : decode cL_law 866 = .ok (.aload_n 2, 1) := by decide +kernel
theorem dL_law_867 : decode cL_law 867 = .ok (.invokevirtual 128, 3) := by decide +kernel
theorem dL_law_870 : decode cL_law 870 = .ok (.if_icmp .eq 476, 3) := by decide +kernel
theorem dL_law_873 : decode cL_law 873 = .ok (.iconst 0, 1) := by decide +kernel
theorem dL_law_874 : decode cL_law 874 = .ok (.ireturn, 1) := by decide +kernel
theorem dL_law_875 : decode cL_law 875 = .ok (.aload_n 1, 1) := by decide +kernel
theorem dL_law_876 : decode cL_law 876 = .ok (.aload_n 0, 1) := by decide +kernel
theorem dL_law_877 : decode cL_law 877 = .ok (.iload 4, 2) := by decide +kernel
theorem dL_law_879 : decode cL_law 879 = .ok (.iconst 1, 1) := by decide +kernel
theorem dL_law_880 : decode cL_law 880 = .ok (.iadd, 1) := by decide +kernel
theorem dL_law_881 : decode cL_law 881 = .ok (.iaload, 1) := by decide +kernel
theorem dL_law_882 : decode cL_law 882 = .ok (.aload_n 3, 1) := by decide +kernel
theorem dL_law_883 : decode cL_law 883 = .ok (.invokestatic 129, 3) := by decide +kernel
theorem dL_law_886 : decode cL_law 886 = .ok (.istore 5, 2) := by decide +kernel
theorem dL_law_888 : decode cL_law 888 = .ok (.aload_n 2, 1) := by decide +kernel
theorem dL_law_889 : decode cL_law 889 = .ok (.aload_n 0, 1) := by decide +kernel
theorem dL_law_890 : decode cL_law 890 = .ok (.iload 4, 2) := by decide +kernel
theorem dL_law_892 : decode cL_law 892 = .ok (.iconst 1, 1) := by decide +kernel
theorem dL_law_893 : decode cL_law 893 = .ok (.iadd, 1) := by decide +kernel
theorem dL_law_894 : decode cL_law 894 = .ok (.iaload, 1) := by decide +kernel
theorem dL_law_895 : decode cL_law 895 = .ok (.invokevirtual 131, 3) := by decide +kernel
theorem dL_law_898 : decode cL_law 898 = .ok (.istore 6, 2) := by decide +kernel
theorem dL_law_900 : decode cL_law 900 = .ok (.aload_n 2, 1) := by decide +kernel
theorem dL_law_901 : decode cL_law 901 = .ok (.invokevirtual 80, 3) := by decide +kernel
theorem dL_law_904 : decode cL_law 904 = .ok (.iload 5, 2) := by decide +kernel
theorem dL_law_906 : decode cL_law 906 = .ok (.if_icmp .eq 5, 3) := by decide +kernel
theorem dL_law_909 : decode cL_law 909 = .ok (.iconst 0, 1) := by decide +kernel
theorem dL_law_910 : decode cL_law 910 = .ok (.ireturn, 1) := by decide +kernel
theorem dL_law_911 : decode cL_law 911 = .ok (.iload 5, 2) := by decide +kernel
theorem dL_law_913 : decode cL_law 913 = .ok (.ifCond .ne 15, 3) := by decide +kernel
theorem dL_law_916 : decode cL_law 916 = .ok (.aload_n 3, 1) := by decide +kernel
theorem dL_law_917 : decode cL_law 917 = .ok (.iconst 0, 1) := by decide +kernel
theorem dL_law_918 : decode cL_law 918 = .ok (.laload, 1) := by decide +kernel
theorem dL_law_919 : decode cL_law 919 = .ok (.iload 6, 2) := by decide +kernel
theorem dL_law_921 : decode cL_law 921 = .ok (.i2l, 1) := by decide +kernel
theorem dL_law_922 : decode cL_law 922 = .ok (.lcmp, 1) := by decide +kernel
theorem dL_law_923 : decode cL_law 923 = .ok (.ifCond .eq 5, 3) := by decide +kernel
theorem dL_law_926 : decode cL_law 926 = .ok (.iconst 0, 1) := by decide +kernel
theorem dL_law_927 : decode cL_law 927 = .ok (.ireturn, 1) := by decide +kernel
theorem dL_law_928 : decode cL_law 928 = .ok (.goto 418, 3) := by decide +kernel
theorem dL_law_931 : decode cL_law 931 = .ok (.aload_n 1, 1) := by decide +kernel
theorem dL_law_932 : decode cL_law 932 = .ok (.aload_n 0, 1) := by decide +kernel
theorem dL_law_933 : decode cL_law 933 = .ok (.iload 4, 2) := by decide +kernel
theorem dL_law_935 : decode cL_law 935 = .ok (.iconst 1, 1) := by decide +kernel
theorem dL_law_936 : decode cL_law 936 = .ok (.iadd, 1) := by decide +kernel
theorem dL_law_937 : decode cL_law 937 = .ok (.iaload, 1) := by decide +kernel
theorem dL_law_938 : decode cL_law 938 = .ok (.aload_n 0, 1) := by decide +kernel
theorem dL_law_939 : decode cL_law 939 = .ok (.iload 4, 2) := by decide +kernel
theorem dL_law_941 : decode cL_law 941 = .ok (.iconst 2, 1) := by decide +kernel
theorem dL_law_942 : decode cL_law 942 = .ok (.iadd, 1) := by decide +kernel
theorem dL_law_943 : decode cL_law 943 = .ok (.iaload, 1) := by decide +kernel
theorem dL_law_944 : decode cL_law 944 = .ok (.aload_n 3, 1) := by decide +kernel
theorem dL_law_945 : decode cL_law 945 = .ok (.invokestatic 132, 3) := by decide +kernel
theorem dL_law_948 : decode cL_law 948 = .ok (.istore 5, 2) := by decide +kernel
theorem dL_law_950 : decode cL_law 950 = .ok (.aload_n 2, 1) := by decide +kernel
theorem dL_law_951 : decode cL_law 951 = .ok (.aload_n 0, 1) := by decide +kernel
theorem dL_law_952 : decode cL_law 952 = .ok (.iload 4, 2) := by decide +kernel
theorem dL_law_954 : decode cL_law 954 = .ok (.iconst 1, 1) := by decide +kernel
theorem dL_law_955 : decode cL_law 955 = .ok (.iadd, 1) := by decide +kernel
theorem dL_law_956 : decode cL_law 956 = .ok (.iaload, 1) := by decide +kernel
theorem dL_law_957 : decode cL_law 957 = .ok (.aload_n 0, 1) := by decide +kernel
theorem dL_law_958 : decode cL_law 958 = .ok (.iload 4, 2) := by decide +kernel
theorem dL_law_960 : decode cL_law 960 = .ok (.iconst 2, 1) := by decide +kernel
theorem dL_law_961 : decode cL_law 961 = .ok (.iadd, 1) := by decide +kernel
theorem dL_law_962 : decode cL_law 962 = .ok (.iaload, 1) := by decide +kernel
theorem dL_law_963 : decode cL_law 963 = .ok (.invokevirtual 134, 3) := by decide +kernel
theorem dL_law_966 : decode cL_law 966 = .ok (.istore 6, 2) := by decide +kernel
theorem dL_law_968 : decode cL_law 968 = .ok (.aload_n 2, 1) := by decide +kernel
theorem dL_law_969 : decode cL_law 969 = .ok (.invokevirtual 80, 3) := by decide +kernel
theorem dL_law_972 : decode cL_law 972 = .ok (.iload 5, 2) := by decide +kernel
theorem dL_law_974 : decode cL_law 974 = .ok (.if_icmp .eq 5, 3) := by decide +kernel
theorem dL_law_977 : decode cL_law 977 = .ok (.iconst 0, 1) := by decide +kernel
theorem dL_law_978 : decode cL_law 978 = .ok (.ireturn, 1) := by decide +kernel
theorem dL_law_979 : decode cL_law 979 = .ok (.iload 5, 2) := by decide +kernel
theorem dL_law_981 : decode cL_law 981 = .ok (.ifCond .ne 15, 3) := by decide +kernel
theorem dL_law_984 : decode cL_law 984 = .ok (.aload_n 3, 1) := by decide +kernel
theorem dL_law_985 : decode cL_law 985 = .ok (.iconst 0, 1) := by decide +kernel
theorem dL_law_986 : decode cL_law 986 = .ok (.laload, 1) := by decide +kernel
theorem dL_law_987 : decode cL_law 987 = .ok (.iload 6, 2) := by decide +kernel
theorem dL_law_989 : decode cL_law 989 = .ok (.i2l, 1) := by decide +kernel
theorem dL_law_990 : decode cL_law 990 = .ok (.lcmp, 1) := by decide +kernel
theorem dL_law_991 : decode cL_law 991 = .ok (.ifCond .eq 5, 3) := by decide +kernel
theorem dL_law_994 : decode cL_law 994 = .ok (.iconst 0, 1) := by decide +kernel
theorem dL_law_995 : decode cL_law 995 = .ok (.ireturn, 1) := by decide +kernel
theorem dL_law_996 : decode cL_law 996 = .ok (.goto 350, 3) := by decide +kernel
theorem dL_law_999 : decode cL_law 999 = .ok (.aload_n 1, 1) := by decide +kernel
theorem dL_law_1000 : decode cL_law 1000 = .ok (.aload_n 0, 1) := by decide +kernel
theorem dL_law_1001 : decode cL_law 1001 = .ok (.iload 4, 2) := by decide +kernel
theorem dL_law_1003 : decode cL_law 1003 = .ok (.iconst 1, 1) := by decide +kernel
theorem dL_law_1004 : decode cL_law 1004 = .ok (.iadd, 1) := by decide +kernel
theorem dL_law_1005 : decode cL_law 1005 = .ok (.iaload, 1) := by decide +kernel
theorem dL_law_1006 : decode cL_law 1006 = .ok (.aload_n 3, 1) := by decide +kernel
theorem dL_law_1007 : decode cL_law 1007 = .ok (.invokestatic 135, 3) := by decide +kernel
theorem dL_law_1010 : decode cL_law 1010 = .ok (.istore 5, 2) := by decide +kernel
theorem dL_law_1012 : decode cL_law 1012 = .ok (.aload_n 2, 1) := by decide +kernel
theorem dL_law_1013 : decode cL_law 1013 = .ok (.aload_n 0, 1) := by decide +kernel
theorem dL_law_1014 : decode cL_law 1014 = .ok (.iload 4, 2) := by decide +kernel
theorem dL_law_1016 : decode cL_law 1016 = .ok (.iconst 1, 1) := by decide +kernel
theorem dL_law_1017 : decode cL_law 1017 = .ok (.iadd, 1) := by decide +kernel
theorem dL_law_1018 : decode cL_law 1018 = .ok (.iaload, 1) := by decide +kernel
theorem dL_law_1019 : decode cL_law 1019 = .ok (.invokevirtual 137, 3) := by decide +kernel
theorem dL_law_1022 : decode cL_law 1022 = .ok (.istore 6, 2) := by decide +kernel
theorem dL_law_1024 : decode cL_law 1024 = .ok (.aload_n 2, 1) := by decide +kernel
theorem dL_law_1025 : decode cL_law 1025 = .ok (.invokevirtual 80, 3) := by decide +kernel
theorem dL_law_1028 : decode cL_law 1028 = .ok (.iload 5, 2) := by decide +kernel
theorem dL_law_1030 : decode cL_law 1030 = .ok (.if_icmp .eq 5, 3) := by decide +kernel
theorem dL_law_1033 : decode cL_law 1033 = .ok (.iconst 0, 1) := by decide +kernel
theorem dL_law_1034 : decode cL_law 1034 = .ok (.ireturn, 1) := by decide +kernel
theorem dL_law_1035 : decode cL_law 1035 = .ok (.iload 5, 2) := by decide +kernel
theorem dL_law_1037 : decode cL_law 1037 = .ok (.ifCond .ne 15, 3) := by decide +kernel
theorem dL_law_1040 : decode cL_law 1040 = .ok (.aload_n 3, 1) := by decide +kernel
theorem dL_law_1041 : decode cL_law 1041 = .ok (.iconst 0, 1) := by decide +kernel
theorem dL_law_1042 : decode cL_law 1042 = .ok (.laload, 1) := by decide +kernel
theorem dL_law_1043 : decode cL_law 1043 = .ok (.iload 6, 2) := by decide +kernel
theorem dL_law_1045 : decode cL_law 1045 = .ok (.i2l, 1) := by decide +kernel
theorem dL_law_1046 : decode cL_law 1046 = .ok (.lcmp, 1) := by decide +kernel
theorem dL_law_1047 : decode cL_law 1047 = .ok (.ifCond .eq 5, 3) := by decide +kernel
theorem dL_law_1050 : decode cL_law 1050 = .ok (.iconst 0, 1) := by decide +kernel
theorem dL_law_1051 : decode cL_law 1051 = .ok (.ireturn, 1) := by decide +kernel
theorem dL_law_1052 : decode cL_law 1052 = .ok (.goto 294, 3) := by decide +kernel
theorem dL_law_1055 : decode cL_law 1055 = .ok (.aload_n 1, 1) := by decide +kernel
theorem dL_law_1056 : decode cL_law 1056 = .ok (.aload_n 0, 1) := by decide +kernel
theorem dL_law_1057 : decode cL_law 1057 = .ok (.iload 4, 2) := by decide +kernel
theorem dL_law_1059 : decode cL_law 1059 = .ok (.iconst 1, 1) := by decide +kernel
theorem dL_law_1060 : decode cL_law 1060 = .ok (.iadd, 1) := by decide +kernel
theorem dL_law_1061 : decode cL_law 1061 = .ok (.iaload, 1) := by decide +kernel
theorem dL_law_1062 : decode cL_law 1062 = .ok (.aload_n 3, 1) := by decide +kernel
theorem dL_law_1063 : decode cL_law 1063 = .ok (.invokestatic 138, 3) := by decide +kernel
theorem dL_law_1066 : decode cL_law 1066 = .ok (.istore 5, 2) := by decide +kernel
theorem dL_law_1068 : decode cL_law 1068 = .ok (.aload_n 2, 1) := by decide +kernel
theorem dL_law_1069 : decode cL_law 1069 = .ok (.aload_n 0, 1) := by decide +kernel
theorem dL_law_1070 : decode cL_law 1070 = .ok (.iload 4, 2) := by decide +kernel
theorem dL_law_1072 : decode cL_law 1072 = .ok (.iconst 1, 1) := by decide +kernel
theorem dL_law_1073 : decode cL_law 1073 = .ok (.iadd, 1) := by decide +kernel
theorem dL_law_1074 : decode cL_law 1074 = .ok (.iaload, 1) := by decide +kernel
theorem dL_law_1075 : decode cL_law 1075 = .ok (.invokevirtual 140, 3) := by decide +kernel
theorem dL_law_1078 : decode cL_law 1078 = .ok (.istore 6, 2) := by decide +kernel
theorem dL_law_1080 : decode cL_law 1080 = .ok (.aload_n 2, 1) := by decide +kernel
theorem dL_law_1081 : decode cL_law 1081 = .ok (.invokevirtual 80, 3) := by decide +kernel
theorem dL_law_1084 : decode cL_law 1084 = .ok (.iload 5, 2) := by decide +kernel
theorem dL_law_1086 : decode cL_law 1086 = .ok (.if_icmp .eq 5, 3) := by decide +kernel
theorem dL_law_1089 : decode cL_law 1089 = .ok (.iconst 0, 1) := by decide +kernel
theorem dL_law_1090 : decode cL_law 1090 = .ok (.ireturn, 1) := by decide +kernel
theorem dL_law_1091 : decode cL_law 1091 = .ok (.iload 5, 2) := by decide +kernel
theorem dL_law_1093 : decode cL_law 1093 = .ok (.ifCond .ne 15, 3) := by decide +kernel
theorem dL_law_1096 : decode cL_law 1096 = .ok (.aload_n 3, 1) := by decide +kernel
theorem dL_law_1097 : decode cL_law 1097 = .ok (.iconst 0, 1) := by decide +kernel
theorem dL_law_1098 : decode cL_law 1098 = .ok (.laload, 1) := by decide +kernel
theorem dL_law_1099 : decode cL_law 1099 = .ok (.iload 6, 2) := by decide +kernel
theorem dL_law_1101 : decode cL_law 1101 = .ok (.i2l, 1) := by decide +kernel
theorem dL_law_1102 : decode cL_law 1102 = .ok (.lcmp, 1) := by decide +kernel
theorem dL_law_1103 : decode cL_law 1103 = .ok (.ifCond .eq 5, 3) := by decide +kernel
theorem dL_law_1106 : decode cL_law 1106 = .ok (.iconst 0, 1) := by decide +kernel
theorem dL_law_1107 : decode cL_law 1107 = .ok (.ireturn, 1) := by decide +kernel
theorem dL_law_1108 : decode cL_law 1108 = .ok (.goto 238, 3) := by decide +kernel
theorem dL_law_1111 : decode cL_law 1111 = .ok (.aload_n 1, 1) := by decide +kernel
theorem dL_law_1112 : decode cL_law 1112 = .ok (.aload_n 0, 1) := by decide +kernel
theorem dL_law_1113 : decode cL_law 1113 = .ok (.iload 4, 2) := by decide +kernel
theorem dL_law_1115 : decode cL_law 1115 = .ok (.iconst 1, 1) := by decide +kernel
theorem dL_law_1116 : decode cL_law 1116 = .ok (.iadd, 1) := by decide +kernel
theorem dL_law_1117 : decode cL_law 1117 = .ok (.iaload, 1) := by decide +kernel
theorem dL_law_1118 : decode cL_law 1118 = .ok (.aload_n 0, 1) := by decide +kernel
theorem dL_law_1119 : decode cL_law 1119 = .ok (.iload 4, 2) := by decide +kernel
theorem dL_law_1121 : decode cL_law 1121 = .ok (.iconst 2, 1) := by decide +kernel
theorem dL_law_1122 : decode cL_law 1122 = .ok (.iadd, 1) := by decide +kernel
theorem dL_law_1123 : decode cL_law 1123 = .ok (.iaload, 1) := by decide +kernel
theorem dL_law_1124 : decode cL_law 1124 = .ok (.aload_n 3, 1) := by decide +kernel
theorem dL_law_1125 : decode cL_law 1125 = .ok (.invokestatic 141, 3) := by decide +kernel
theorem dL_law_1128 : decode cL_law 1128 = .ok (.istore 5, 2) := by decide +kernel
theorem dL_law_1130 : decode cL_law 1130 = .ok (.aload_n 2, 1) := by decide +kernel
theorem dL_law_1131 : decode cL_law 1131 = .ok (.aload_n 0, 1) := by decide +kernel
theorem dL_law_1132 : decode cL_law 1132 = .ok (.iload 4, 2) := by decide +kernel
theorem dL_law_1134 : decode cL_law 1134 = .ok (.iconst 1, 1) := by decide +kernel
theorem dL_law_1135 : decode cL_law 1135 = .ok (.iadd, 1) := by decide +kernel
theorem dL_law_1136 : decode cL_law 1136 = .ok (.iaload, 1) := by decide +kernel
theorem dL_law_1137 : decode cL_law 1137 = .ok (.aload_n 0, 1) := by decide +kernel
theorem dL_law_1138 : decode cL_law 1138 = .ok (.iload 4, 2) := by decide +kernel
theorem dL_law_1140 : decode cL_law 1140 = .ok (.iconst 2, 1) := by decide +kernel
theorem dL_law_1141 : decode cL_law 1141 = .ok (.iadd, 1) := by decide +kernel
theorem dL_law_1142 : decode cL_law 1142 = .ok (.iaload, 1) := by decide +kernel
theorem dL_law_1143 : decode cL_law 1143 = .ok (.invokevirtual 143, 3) := by decide +kernel
theorem dL_law_1146 : decode cL_law 1146 = .ok (.istore 6, 2) := by decide +kernel
theorem dL_law_1148 : decode cL_law 1148 = .ok (.aload_n 2, 1) := by decide +kernel
theorem dL_law_1149 : decode cL_law 1149 = .ok (.invokevirtual 80, 3) := by decide +kernel
theorem dL_law_1152 : decode cL_law 1152 = .ok (.iload 5, 2) := by decide +kernel
theorem dL_law_1154 : decode cL_law 1154 = .ok (.if_icmp .eq 5, 3) := by decide +kernel
theorem dL_law_1157 : decode cL_law 1157 = .ok (.iconst 0, 1) := by decide +kernel
theorem dL_law_1158 : decode cL_law 1158 = .ok (.ireturn, 1) := by decide +kernel
theorem dL_law_1159 : decode cL_law 1159 = .ok (.iload 5, 2) := by decide +kernel
theorem dL_law_1161 : decode cL_law 1161 = .ok (.ifCond .ne 15, 3) := by decide +kernel
theorem dL_law_1164 : decode cL_law 1164 = .ok (.aload_n 3, 1) := by decide +kernel
theorem dL_law_1165 : decode cL_law 1165 = .ok (.iconst 0, 1) := by decide +kernel
theorem dL_law_1166 : decode cL_law 1166 = .ok (.laload, 1) := by decide +kernel
theorem dL_law_1167 : decode cL_law 1167 = .ok (.iload 6, 2) := by decide +kernel
theorem dL_law_1169 : decode cL_law 1169 = .ok (.i2l, 1) := by decide +kernel
theorem dL_law_1170 : decode cL_law 1170 = .ok (.lcmp, 1) := by decide +kernel
theorem dL_law_1171 : decode cL_law 1171 = .ok (.ifCond .eq 5, 3) := by decide +kernel
theorem dL_law_1174 : decode cL_law 1174 = .ok (.iconst 0, 1) := by decide +kernel
theorem dL_law_1175 : decode cL_law 1175 = .ok (.ireturn, 1) := by decide +kernel
theorem dL_law_1176 : decode cL_law 1176 = .ok (.goto 170, 3) := by decide +kernel
theorem dL_law_1179 : decode cL_law 1179 = .ok (.aload_n 1, 1) := by decide +kernel
theorem dL_law_1180 : decode cL_law 1180 = .ok (.aload_n 0, 1) := by decide +kernel
theorem dL_law_1181 : decode cL_law 1181 = .ok (.iload 4, 2) := by decide +kernel
theorem dL_law_1183 : decode cL_law 1183 = .ok (.iconst 1, 1) := by decide +kernel
theorem dL_law_1184 : decode cL_law 1184 = .ok (.iadd, 1) := by decide +kernel
theorem dL_law_1185 : decode cL_law 1185 = .ok (.iaload, 1) := by decide +kernel
theorem dL_law_1186 : decode cL_law 1186 = .ok (.aload_n 3, 1) := by decide +kernel
theorem dL_law_1187 : decode cL_law 1187 = .ok (.invokestatic 144, 3) := by decide +kernel
theorem dL_law_1190 : decode cL_law 1190 = .ok (.istore 5, 2) := by decide +kernel
theorem dL_law_1192 : decode cL_law 1192 = .ok (.aload_n 2, 1) := by decide +kernel
theorem dL_law_1193 : decode cL_law 1193 = .ok (.aload_n 0, 1) := by decide +kernel
theorem dL_law_1194 : decode cL_law 1194 = .ok (.iload 4, 2) := by decide +kernel
theorem dL_law_1196 : decode cL_law 1196 = .ok (.iconst 1, 1) := by decide +kernel
theorem dL_law_1197 : decode cL_law 1197 = .ok (.iadd, 1) := by decide +kernel
theorem dL_law_1198 : decode cL_law 1198 = .ok (.iaload, 1) := by decide +kernel
theorem dL_law_1199 : decode cL_law 1199 = .ok (.invokevirtual 146, 3) := by decide +kernel
theorem dL_law_1202 : decode cL_law 1202 = .ok (.istore 6, 2) := by decide +kernel
theorem dL_law_1204 : decode cL_law 1204 = .ok (.aload_n 2, 1) := by decide +kernel
theorem dL_law_1205 : decode cL_law 1205 = .ok (.invokevirtual 80, 3) := by decide +kernel
theorem dL_law_1208 : decode cL_law 1208 = .ok (.iload 5, 2) := by decide +kernel
theorem dL_law_1210 : decode cL_law 1210 = .ok (.if_icmp .eq 5, 3) := by decide +kernel
theorem dL_law_1213 : decode cL_law 1213 = .ok (.iconst 0, 1) := by decide +kernel
theorem dL_law_1214 : decode cL_law 1214 = .ok (.ireturn, 1) := by decide +kernel
theorem dL_law_1215 : decode cL_law 1215 = .ok (.iload 5, 2) := by decide +kernel
theorem dL_law_1217 : decode cL_law 1217 = .ok (.ifCond .ne 15, 3) := by decide +kernel
theorem dL_law_1220 : decode cL_law 1220 = .ok (.aload_n 3, 1) := by decide +kernel
theorem dL_law_1221 : decode cL_law 1221 = .ok (.iconst 0, 1) := by decide +kernel
theorem dL_law_1222 : decode cL_law 1222 = .ok (.laload, 1) := by decide +kernel
theorem dL_law_1223 : decode cL_law 1223 = .ok (.iload 6, 2) := by decide +kernel
theorem dL_law_1225 : decode cL_law 1225 = .ok (.i2l, 1) := by decide +kernel
theorem dL_law_1226 : decode cL_law 1226 = .ok (.lcmp, 1) := by decide +kernel
theorem dL_law_1227 : decode cL_law 1227 = .ok (.ifCond .eq 5, 3) := by decide +kernel
theorem dL_law_1230 : decode cL_law 1230 = .ok (.iconst 0, 1) := by decide +kernel
theorem dL_law_1231 : decode cL_law 1231 = .ok (.ireturn, 1) := by decide +kernel
theorem dL_law_1232 : decode cL_law 1232 = .ok (.goto 114, 3) := by decide +kernel
theorem dL_law_1235 : decode cL_law 1235 = .ok (.aload_n 1, 1) := by decide +kernel
theorem dL_law_1236 : decode cL_law 1236 = .ok (.aload_n 0, 1) := by decide +kernel
theorem dL_law_1237 : decode cL_law 1237 = .ok (.iload 4, 2) := by decide +kernel
theorem dL_law_1239 : decode cL_law 1239 = .ok (.iconst 1, 1) := by decide +kernel
theorem dL_law_1240 : decode cL_law 1240 = .ok (.iadd, 1) := by decide +kernel
theorem dL_law_1241 : decode cL_law 1241 = .ok (.iaload, 1) := by decide +kernel
theorem dL_law_1242 : decode cL_law 1242 = .ok (.aload_n 3, 1) := by decide +kernel
theorem dL_law_1243 : decode cL_law 1243 = .ok (.invokestatic 147, 3) := by decide +kernel
theorem dL_law_1246 : decode cL_law 1246 = .ok (.istore 5, 2) := by decide +kernel
theorem dL_law_1248 : decode cL_law 1248 = .ok (.aload_n 2, 1) := by decide +kernel
theorem dL_law_1249 : decode cL_law 1249 = .ok (.aload_n 0, 1) := by decide +kernel
theorem dL_law_1250 : decode cL_law 1250 = .ok (.iload 4, 2) := by decide +kernel
theorem dL_law_1252 : decode cL_law 1252 = .ok (.iconst 1, 1) := by decide +kernel
theorem dL_law_1253 : decode cL_law 1253 = .ok (.iadd, 1) := by decide +kernel
theorem dL_law_1254 : decode cL_law 1254 = .ok (.iaload, 1) := by decide +kernel
theorem dL_law_1255 : decode cL_law 1255 = .ok (.invokevirtual 149, 3) := by decide +kernel
theorem dL_law_1258 : decode cL_law 1258 = .ok (.istore 6, 2) := by decide +kernel
theorem dL_law_1260 : decode cL_law 1260 = .ok (.aload_n 2, 1) := by decide +kernel
theorem dL_law_1261 : decode cL_law 1261 = .ok (.invokevirtual 80, 3) := by decide +kernel
theorem dL_law_1264 : decode cL_law 1264 = .ok (.iload 5, 2) := by decide +kernel
theorem dL_law_1266 : decode cL_law 1266 = .ok (.if_icmp .eq 5, 3) := by decide +kernel
theorem dL_law_1269 : decode cL_law 1269 = .ok (.iconst 0, 1) := by decide +kernel
theorem dL_law_1270 : decode cL_law 1270 = .ok (.ireturn, 1) := by decide +kernel
theorem dL_law_1271 : decode cL_law 1271 = .ok (.iload 5, 2) := by decide +kernel
theorem dL_law_1273 : decode cL_law 1273 = .ok (.ifCond .ne 15, 3) := by decide +kernel
theorem dL_law_1276 : decode cL_law 1276 = .ok (.aload_n 3, 1) := by decide +kernel
theorem dL_law_1277 : decode cL_law 1277 = .ok (.iconst 0, 1) := by decide +kernel
theorem dL_law_1278 : decode cL_law 1278 = .ok (.laload, 1) := by decide +kernel
theorem dL_law_1279 : decode cL_law 1279 = .ok (.iload 6, 2) := by decide +kernel
theorem dL_law_1281 : decode cL_law 1281 = .ok (.i2l, 1) := by decide +kernel
theorem dL_law_1282 : decode cL_law 1282 = .ok (.lcmp, 1) := by decide +kernel
theorem dL_law_1283 : decode cL_law 1283 = .ok (.ifCond .eq 5, 3) := by decide +kernel
theorem dL_law_1286 : decode cL_law 1286 = .ok (.iconst 0, 1) := by decide +kernel
theorem dL_law_1287 : decode cL_law 1287 = .ok (.ireturn, 1) := by decide +kernel
theorem dL_law_1288 : decode cL_law 1288 = .ok (.goto 58, 3) := by decide +kernel
theorem dL_law_1291 : decode cL_law 1291 = .ok (.aload_n 1, 1) := by decide +kernel
theorem dL_law_1292 : decode cL_law 1292 = .ok (.invokevirtual 150, 3) := by decide +kernel
theorem dL_law_1295 : decode cL_law 1295 = .ok (.dstore 5, 2) := by decide +kernel
theorem dL_law_1297 : decode cL_law 1297 = .ok (.aload_n 2, 1) := by decide +kernel
theorem dL_law_1298 : decode cL_law 1298 = .ok (.invokevirtual 154, 3) := by decide +kernel
theorem dL_law_1301 : decode cL_law 1301 = .ok (.dstore 7, 2) := by decide +kernel
theorem dL_law_1303 : decode cL_law 1303 = .ok (.dload 5, 2) := by decide +kernel
theorem dL_law_1305 : decode cL_law 1305 = .ok (.dload 7, 2) := by decide +kernel
theorem dL_law_1307 : decode cL_law 1307 = .ok (.dcmp .l, 1) := by decide +kernel
theorem dL_law_1308 : decode cL_law 1308 = .ok (.ifCond .eq 21, 3) := by decide +kernel
theorem dL_law_1311 : decode cL_law 1311 = .ok (.dload 5, 2) := by decide +kernel
theorem dL_law_1313 : decode cL_law 1313 = .ok (.dload 5, 2) := by decide +kernel
theorem dL_law_1315 : decode cL_law 1315 = .ok (.dcmp .l, 1) := by decide +kernel
theorem dL_law_1316 : decode cL_law 1316 = .ok (.ifCond .eq 11, 3) := by decide +kernel
theorem dL_law_1319 : decode cL_law 1319 = .ok (.dload 7, 2) := by decide +kernel
theorem dL_law_1321 : decode cL_law 1321 = .ok (.dload 7, 2) := by decide +kernel
theorem dL_law_1323 : decode cL_law 1323 = .ok (.dcmp .l, 1) := by decide +kernel
theorem dL_law_1324 : decode cL_law 1324 = .ok (.ifCond .ne 5, 3) := by decide +kernel
theorem dL_law_1327 : decode cL_law 1327 = .ok (.iconst 0, 1) := by decide +kernel
theorem dL_law_1328 : decode cL_law 1328 = .ok (.ireturn, 1) := by decide +kernel
theorem dL_law_1329 : decode cL_law 1329 = .ok (.goto 17, 3) := by decide +kernel
theorem dL_law_1332 : decode cL_law 1332 = .ok (.aload_n 1, 1) := by decide +kernel
theorem dL_law_1333 : decode cL_law 1333 = .ok (.invokevirtual 155, 3) := by decide +kernel
theorem dL_law_1336 : decode cL_law 1336 = .ok (.aload_n 2, 1) := by decide +kernel
theorem dL_law_1337 : decode cL_law 1337 = .ok (.invokevirtual 159, 3) := by decide +kernel
theorem dL_law_1340 : decode cL_law 1340 = .ok (.lcmp, 1) := by decide +kernel
theorem dL_law_1341 : decode cL_law 1341 = .ok (.ifCond .eq 5, 3) := by decide +kernel
theorem dL_law_1344 : decode cL_law 1344 = .ok (.iconst 0, 1) := by decide +kernel
theorem dL_law_1345 : decode cL_law 1345 = .ok (.ireturn, 1) := by decide +kernel
theorem dL_law_1346 : decode cL_law 1346 = .ok (.iinc 4 6, 3) := by decide +kernel
theorem dL_law_1349 : decode cL_law 1349 = .ok (.goto (-1326), 3) := by decide +kernel
theorem dL_law_1352 : decode cL_law 1352 = .ok (.iconst 1, 1) := by decide +kernel
theorem dL_law_1353 : decode cL_law 1353 = .ok (.ireturn, 1) := by decide +kernel
def LW (Z : Nat → ClassId) (a t b q q2 : Nat → Nat) (ow : Nat) (ma mb mq mg : Nat → Nat) (mr : Nat) (ap : Nat) (bp : Nat) (rp : Nat) (C : M2) (T : M2) (G : M2) (P : M2) (Y : M2) (L : L2) (B : M2) (X : L2) (S : M2) (O : M2) (N : M2) (V : M2) (J : M2) (U : M2) : va_W := [(a 90, .inr (5, [.ref (a 80), .int (C 91 0), .int (C 92 0), .ref (a 60), .ref (q2 20), .ref (t 0), .ref (b 0)])), (a 80, .inl (Z 2, 2000, .inl (B 80))), (a 60, .inr (2, [.ref (a 70), .ref (a 61), .ref (a 62), .ref (a 63), .ref (a 64), .ref rp, .int (Y 66 0), .int (Y 67 0), .int (Y 68 0), .int (Y 69 0)])), (a 61, .inl (Z 1, 5, .inr (.inl (L 61)))), (a 62, .inl (Z 1, 4, .inr (.inl (L 62)))), (a 63, .inl (Z 1, 6, .inr (.inl (L 63)))), (a 64, .inl (Z 1, 8, .inr (.inl (L 64)))), (a 70, .inr (3, [.ref (a 71), .ref (a 72), .int (Y 73 0), .ref (a 74), .ref (a 75), .ref (a 76), .ref bp, .int (Y 78 0)])), (a 71, .inl (Z 1, 40, .inr (.inl (L 71)))), (a 72, .inl (Z 0, 40, .inl (Y 72))), (a 74, .inl (Z 0, 401, .inl (Y 74))), (a 75, .inl (Z 0, 401, .inl (Y 75))), (a 76, .inl (Z 1, 401, .inr (.inl (L 76)))), (q2 20, .inr (1, [.int (Y 20 0), .int (Y 21 0), .int (Y 22 0), .int (Y 23 0), .int (Y 24 0), .ref (q2 25), .ref (q2 26), .ref (q2 27), .ref (q2 28), .ref (q2 29), .ref (q2 30), .ref (q2 31), .ref (q2 32), .ref (q2 33), .ref (q2 34), .ref (q2 35), .ref (q2 36), .ref (q2 37), .ref (q2 40)])), (q2 25, .inl (Z 0, 5, .inl (Y 25))), (q2 26, .inl (Z 0, 5, .inl (Y 26))), (q2 27, .inl (Z 0, 5, .inl (Y 27))), (q2 28, .inl (Z 0, 60, .inl (Y 28))), (q2 29, .inl (Z 0, 4, .inl (Y 29))), (q2 30, .inl (Z 0, 4, .inl (Y 30))), (q2 31, .inl (Z 0, 6, .inl (Y 31))), (q2 32, .inl (Z 0, 6, .inl (Y 32))), (q2 33, .inl (Z 0, 8, .inl (Y 33))), (q2 34, .inl (Z 0, 8, .inl (Y 34))), (q2 35, .inl (Z 0, 8, .inl (Y 35))), (q2 36, .inl (Z 0, 8, .inl (Y 36))), (q2 37, .inl (Z 0, 8, .inl (Y 37))), (q2 40, .inr (0, [.int (Y 40 0), .ref (q2 41), .ref (q2 42), .ref (q2 43), .ref (q2 44), .int (Y 45 0), .ref (q2 46), .ref (q2 47)])), (q2 41, .inl (Z 0, 16, .inl (Y 41))), (q2 42, .inl (Z 0, 16, .inl (Y 42))), (q2 43, .inl (Z 0, 16, .inl (Y 43))), (q2 44, .inl (Z 0, 16, .inl (Y 44))), (q2 46, .inl (Z 0, 400, .inl (Y 46))), (q2 47, .inl (Z 0, 400, .inl (Y 47))), (q 20, .inr (1, [.int (P 20 0), .int (P 21 0), .int (P 22 0), .int (P 23 0), .int (P 24 0), .ref (q 25), .ref (q 26), .ref (q 27), .ref (q 28), .ref (q 29), .ref (q 30), .ref (q 31), .ref (q 32), .ref (q 33), .ref (q 34), .ref (q 35), .ref (q 36), .ref (q 37), .ref (q 40)])), (q 25, .inl (Z 0, 5, .inl (P 25))), (q 26, .inl (Z 0, 5, .inl (P 26))), (q 27, .inl (Z 0, 5, .inl (P 27))), (q 28, .inl (Z 0, 60, .inl (P 28))), (q 29, .inl (Z 0, 4, .inl (P 29))), (q 30, .inl (Z 0, 4, .inl (P 30))), (q 31, .inl (Z 0, 6, .inl (P 31))), (q 32, .inl (Z 0, 6, .inl (P 32))), (q 33, .inl (Z 0, 8, .inl (P 33))), (q 34, .inl (Z 0, 8, .inl (P 34))), (q 35, .inl (Z 0, 8, .inl (P 35))), (q 36, .inl (Z 0, 8, .inl (P 36))), (q 37, .inl (Z 0, 8, .inl (P 37))), (q 40, .inr (0, [.int (P 40 0), .ref (q 41), .ref (q 42), .ref (q 43), .ref (q 44), .int (P 45 0), .ref (q 46), .ref (q 47)])), (q 41, .inl (Z 0, 16, .inl (P 41))), (q 42, .inl (Z 0, 16, .inl (P 42))), (q 43, .inl (Z 0, 16, .inl (P 43))), (q 44, .inl (Z 0, 16, .inl (P 44))), (q 46, .inl (Z 0, 400, .inl (P 46))), (q 47, .inl (Z 0, 400, .inl (P 47))), (t 0, .inr (4, [.ref (q 20), .int (T 1 0), .int (T 2 0), .int (T 3 0), .ref (t 4), .ref (t 5), .ref (t 6), .ref (t 7), .ref (t 8), .ref (t 9), .ref (t 10), .ref (t 11), .ref (t 12), .ref (t 13), .ref (t 14)])), (t 4, .inl (Z 0, 60, .inl (T 4))), (t 5, .inl (Z 0, 6, .inl (T 5))), (t 6, .inl (Z 0, 6, .inl (T 6))), (t 7, .inl (Z 0, 6, .inl (T 7))), (t 8, .inl (Z 0, 8, .inl (T 8))), (t 9, .inl (Z 0, 8, .inl (T 9))), (t 10, .inl (Z 0, 8, .inl (T 10))), (t 11, .inl (Z 0, 8, .inl (T 11))), (t 12, .inl (Z 0, 8, .inl (T 12))), (t 13, .inl (Z 0, 8, .inl (T 13))), (t 14, .inl (Z 0, 400, .inl (T 14))), (b 0, .inr (4, [.ref ap, .int (G 1 0), .int (G 2 0), .int (G 3 0), .ref (b 4), .ref (b 5), .ref (b 6), .ref (b 7), .ref (b 8), .ref (b 9), .ref (b 10), .ref (b 11), .ref (b 12), .ref (b 13), .ref (b 14)])), (b 4, .inl (Z 0, 60, .inl (G 4))), (b 5, .inl (Z 0, 6, .inl (G 5))), (b 6, .inl (Z 0, 6, .inl (G 6))), (b 7, .inl (Z 0, 6, .inl (G 7))), (b 8, .inl (Z 0, 8, .inl (G 8))), (b 9, .inl (Z 0, 8, .inl (G 9))), (b 10, .inl (Z 0, 8, .inl (G 10))), (b 11, .inl (Z 0, 8, .inl (G 11))), (b 12, .inl (Z 0, 8, .inl (G 12))), (b 13, .inl (Z 0, 8, .inl (G 13))), (b 14, .inl (Z 0, 400, .inl (G 14))), (ow, .inl (Z 1, 1, .inr (.inl (X 500)))), (ma 200, .inr (7, [.int (S 200 0), .int (S 201 0), .ref (ma 202), .ref (ma 203), .ref (ma 204), .ref (ma 205), .ref (ma 206), .ref (ma 207), .ref (ma 208), .ref (ma 209), .ref (ma 210), .ref (ma 211), .int (S 212 0), .ref (ma 213), .ref (mg 220)])), (ma 202, .inl (Z 0, 60, .inl (S 202))), (ma 203, .inl (Z 0, 6, .inl (S 203))), (ma 204, .inl (Z 0, 6, .inl (S 204))), (ma 205, .inl (Z 0, 6, .inl (S 205))), (ma 206, .inl (Z 0, 8, .inl (S 206))), (ma 207, .inl (Z 0, 8, .inl (S 207))), (ma 208, .inl (Z 0, 8, .inl (S 208))), (ma 209, .inl (Z 0, 8, .inl (S 209))), (ma 210, .inl (Z 0, 8, .inl (S 210))), (ma 211, .inl (Z 0, 8, .inl (S 211))), (ma 213, .inl (Z 0, 400, .inl (S 213))), (mb 200, .inr (7, [.int (O 200 0), .int (O 201 0), .ref (mb 202), .ref (mb 203), .ref (mb 204), .ref (mb 205), .ref (mb 206), .ref (mb 207), .ref (mb 208), .ref (mb 209), .ref (mb 210), .ref (mb 211), .int (O 212 0), .ref (mb 213), .ref (mg 220)])), (mb 202, .inl (Z 0, 60, .inl (O 202))), (mb 203, .inl (Z 0, 6, .inl (O 203))), (mb 204, .inl (Z 0, 6, .inl (O 204))), (mb 205, .inl (Z 0, 6, .inl (O 205))), (mb 206, .inl (Z 0, 8, .inl (O 206))), (mb 207, .inl (Z 0, 8, .inl (O 207))), (mb 208, .inl (Z 0, 8, .inl (O 208))), (mb 209, .inl (Z 0, 8, .inl (O 209))), (mb 210, .inl (Z 0, 8, .inl (O 210))), (mb 211, .inl (Z 0, 8, .inl (O 211))), (mb 213, .inl (Z 0, 400, .inl (O 213))), (mg 220, .inr (8, [.int (N 220 0), .ref (mg 221), .int (N 222 0), .int (N 223 0), .ref (mg 224), .ref (mg 225), .ref (mg 226), .ref (mg 227), .ref (mg 228), .int (N 229 0), .int (N 230 0), .ref (mq 240), .ref mr, .ref (ma 200), .ref (mb 200)])), (mg 221, .inl (Z 0, 2000, .inl (V 221))), (mg 224, .inl (Z 0, 401, .inl (J 224))), (mg 225, .inl (Z 0, 401, .inl (J 225))), (mg 226, .inl (Z 0, 401, .inl (J 226))), (mg 227, .inl (Z 0, 401, .inl (J 227))), (mg 228, .inl (Z 0, 401, .inl (J 228))), (mq 240, .inr (6, [.int (U 240 0), .int (U 241 0), .ref (mq 242), .ref (mq 243), .ref (mq 244), .ref (mq 245), .int (U 246 0), .ref (mq 247), .ref (mq 248), .int (U 249 0), .ref (mq 250), .ref (mq 251), .int (U 252 0), .ref (mq 253), .ref (mq 254), .ref (mq 255), .ref (mq 256), .int (U 257 0), .int (U 258 0), .ref (mq 259), .ref (mq 260), .ref (mq 261), .ref (mq 262), .ref (mq 263), .int (U 264 0), .ref (mq 265), .int (U 266 0)])), (mq 242, .inl (Z 0, 5, .inl (U 242))), (mq 243, .inl (Z 0, 5, .inl (U 243))), (mq 244, .inl (Z 0, 5, .inl (U 244))), (mq 245, .inl (Z 0, 60, .inl (U 245))), (mq 247, .inl (Z 0, 4, .inl (U 247))), (mq 248, .inl (Z 0, 4, .inl (U 248))), (mq 250, .inl (Z 0, 6, .inl (U 250))), (mq 251, .inl (Z 0, 6, .inl (U 251))), (mq 253, .inl (Z 0, 8, .inl (U 253))), (mq 254, .inl (Z 0, 8, .inl (U 254))), (mq 255, .inl (Z 0, 8, .inl (U 255))), (mq 256, .inl (Z 3, 8, .inr (.inr (.inr (.inr (fun j => if j < 8 then some (mq (310 + j)) else none)))))), (mq 259, .inl (Z 0, 16, .inl (U 259))), (mq 260, .inl (Z 0, 16, .inl (U 260))), (mq 261, .inl (Z 0, 17, .inl (U 261))), (mq 262, .inl (Z 0, 17, .inl (U 262))), (mq 263, .inl (Z 0, 800, .inl (U 263))), (mq 265, .inl (Z 0, 400, .inl (U 265))), (mq (310 + 0), .inl (Z 0, 2, .inl (U (310 + 0)))), (mq (310 + 1), .inl (Z 0, 2, .inl (U (310 + 1)))), (mq (310 + 2), .inl (Z 0, 2, .inl (U (310 + 2)))), (mq (310 + 3), .inl (Z 0, 2, .inl (U (310 + 3)))), (mq (310 + 4), .inl (Z 0, 2, .inl (U (310 + 4)))), (mq (310 + 5), .inl (Z 0, 2, .inl (U (310 + 5)))), (mq (310 + 6), .inl (Z 0, 2, .inl (U (310 + 6)))), (mq (310 + 7), .inl (Z 0, 2, .inl (U (310 + 7))))]
abbrev cutLW : List Nat := [0, 1, 2, 3, 4, 5, 6, 7, 8, 9, 10, 11, 12, 13, 14, 15, 16, 17, 18, 19, 20, 21, 22, 23, 24, 25, 26, 27, 28, 29, 30, 31, 32, 33, 34, 35, 36, 37, 38, 39, 40, 41, 42, 43, 44, 45, 46, 47, 48, 49, 50, 51, 52, 53, 54, 55, 56, 57, 58, 59, 60, 61, 62, 63, 64, 65, 66, 67, 68, 69, 70, 71, 72, 73, 74, 75, 76, 77, 78, 79, 80, 81, 82, 83, 84, 85, 86, 87, 88, 89, 90, 91, 92, 93, 94, 95, 96, 97, 98, 99, 100, 101, 102, 103, 104, 105, 106, 107, 108, 109, 110, 111, 112, 113, 114, 115, 116, 117, 118, 119, 120, 121, 122, 123, 124, 125, 126, 127, 128, 129, 130, 131, 132, 133, 134, 135, 136, 137]
set_option maxRecDepth 100000 in
theorem cutOkLW (Z : Nat → ClassId) (a t b q q2 : Nat → Nat) (ow : Nat) (ma mb mq mg : Nat → Nat) (mr : Nat) (ap : Nat) (bp : Nat) (rp : Nat) (C : M2) (T : M2) (G : M2) (P : M2) (Y : M2) (L : L2) (B : M2) (X : L2) (S : M2) (O : M2) (N : M2) (V : M2) (J : M2) (U : M2) : Cut (LW Z a t b q q2 ow ma mb mq mg mr ap bp rp C T G P Y L B X S O N V J U) (fun u : Nat × Nat × Nat × M2 × M2 × M2 × M2 × M2 × L2 × M2 × L2 × M2 × M2 × M2 × M2 × M2 × M2 => LW Z a t b q q2 ow ma mb mq mg mr u.1 u.2.1 u.2.2.1 u.2.2.2.1 u.2.2.2.2.1 u.2.2.2.2.2.1 u.2.2.2.2.2.2.1 u.2.2.2.2.2.2.2.1 u.2.2.2.2.2.2.2.2.1 u.2.2.2.2.2.2.2.2.2.1 u.2.2.2.2.2.2.2.2.2.2.1 u.2.2.2.2.2.2.2.2.2.2.2.1 u.2.2.2.2.2.2.2.2.2.2.2.2.1 u.2.2.2.2.2.2.2.2.2.2.2.2.2.1 u.2.2.2.2.2.2.2.2.2.2.2.2.2.2.1 u.2.2.2.2.2.2.2.2.2.2.2.2.2.2.2.1 u.2.2.2.2.2.2.2.2.2.2.2.2.2.2.2.2) (ap, bp, rp, C, T, G, P, Y, L, B, X, S, O, N, V, J, U) [] cutLW [] cutLW (fun u : Nat × Nat × Nat × M2 × M2 × M2 × M2 × M2 × L2 × M2 × L2 × M2 × M2 × M2 × M2 × M2 × M2 => LW Z a t b q q2 ow ma mb mq mg mr u.1 u.2.1 u.2.2.1 u.2.2.2.1 u.2.2.2.2.1 u.2.2.2.2.2.1 u.2.2.2.2.2.2.1 u.2.2.2.2.2.2.2.1 u.2.2.2.2.2.2.2.2.1 u.2.2.2.2.2.2.2.2.2.1 u.2.2.2.2.2.2.2.2.2.2.1 u.2.2.2.2.2.2.2.2.2.2.2.1 u.2.2.2.2.2.2.2.2.2.2.2.2.1 u.2.2.2.2.2.2.2.2.2.2.2.2.2.1 u.2.2.2.2.2.2.2.2.2.2.2.2.2.2.1 u.2.2.2.2.2.2.2.2.2.2.2.2.2.2.2.1 u.2.2.2.2.2.2.2.2.2.2.2.2.2.2.2.2) := ⟨rfl, rfl, rfl, fun i h => absurd h List.not_mem_nil, by decide, fun _ => rfl⟩
section ROWSLW
variable {p : Program} {l : Launch} {e : Env} {s : State} {m : MethodId} {args : Array Value} {below : List Frame} {meth : Method} {c : Code} {H H0 : Heap} {locs : List Loc} {cells slots : Nat} {Q : State → Prop} {R : Room} {rn mcR msR : Nat}
variable {pc : Nat} {ls : Array Slot} {rest : List Value} {A : Nat → Prop} {D : va_G}
variable {cc : ByteArray} {nL index : Nat} {own host : String}
end ROWSLW
set_option maxRecDepth 100000 in
theorem sx_LXLW (Z : Nat → ClassId) (a t b q q2 : Nat → Nat) (ow : Nat) (ma mb mq mg : Nat → Nat) (mr : Nat) (ap : Nat) (bp : Nat) (rp : Nat) (C : M2) (T : M2) (G : M2) (P : M2) (Y : M2) (L : L2) (B : M2) (X : L2) (S : M2) (O : M2) (N : M2) (V : M2) (J : M2) (U : M2) : ([0, 1, 2, 3, 4, 5, 6, 7, 8, 9, 10, 11, 12, 13, 14, 15, 16, 17, 18, 19, 20, 21, 22, 23, 24, 25, 26, 27, 28, 29, 30, 31, 32, 33, 34, 35, 36, 37, 38, 39, 40, 41, 42, 43, 44, 45, 46, 47, 48, 49, 50, 51, 52, 53, 54, 55, 56, 57, 58, 59, 60, 61, 62, 63, 64, 65, 66, 67, 68, 69, 70, 71, 72, 73, 74, 75, 76, 77, 78, 79] : List Nat).map (fun i => (LW Z a t b q q2 ow ma mb mq mg mr ap bp rp C T G P Y L B X S O N V J U)[i]?) = (LX Z a t b q q2 ow ap bp rp C T G P Y L B X).map some := rfl
set_option maxRecDepth 100000 in
theorem cx_LXLW (Z : Nat → ClassId) (a t b q q2 : Nat → Nat) (ow : Nat) (ma mb mq mg : Nat → Nat) (mr : Nat) (ap : Nat) (bp : Nat) (rp : Nat) (C : M2) (T : M2) (G : M2) (P : M2) (Y : M2) (L : L2) (B : M2) (X : L2) (S : M2) (O : M2) (N : M2) (V : M2) (J : M2) (U : M2) : Cut (LW Z a t b q q2 ow ma mb mq mg mr ap bp rp C T G P Y L B X S O N V J U) (fun u : Nat × Nat × Nat × M2 × M2 × M2 × M2 × M2 × L2 × M2 × L2 => LX Z a t b q q2 ow u.1 u.2.1 u.2.2.1 u.2.2.2.1 u.2.2.2.2.1 u.2.2.2.2.2.1 u.2.2.2.2.2.2.1 u.2.2.2.2.2.2.2.1 u.2.2.2.2.2.2.2.2.1 u.2.2.2.2.2.2.2.2.2.1 u.2.2.2.2.2.2.2.2.2.2) (ap, bp, rp, C, T, G, P, Y, L, B, X) [(ma 200, .inr (7, [.int (S 200 0), .int (S 201 0), .ref (ma 202), .ref (ma 203), .ref (ma 204), .ref (ma 205), .ref (ma 206), .ref (ma 207), .ref (ma 208), .ref (ma 209), .ref (ma 210), .ref (ma 211), .int (S 212 0), .ref (ma 213), .ref (mg 220)])), (ma 202, .inl (Z 0, 60, .inl (S 202))), (ma 203, .inl (Z 0, 6, .inl (S 203))), (ma 204, .inl (Z 0, 6, .inl (S 204))), (ma 205, .inl (Z 0, 6, .inl (S 205))), (ma 206, .inl (Z 0, 8, .inl (S 206))), (ma 207, .inl (Z 0, 8, .inl (S 207))), (ma 208, .inl (Z 0, 8, .inl (S 208))), (ma 209, .inl (Z 0, 8, .inl (S 209))), (ma 210, .inl (Z 0, 8, .inl (S 210))), (ma 211, .inl (Z 0, 8, .inl (S 211))), (ma 213, .inl (Z 0, 400, .inl (S 213))), (mb 200, .inr (7, [.int (O 200 0), .int (O 201 0), .ref (mb 202), .ref (mb 203), .ref (mb 204), .ref (mb 205), .ref (mb 206), .ref (mb 207), .ref (mb 208), .ref (mb 209), .ref (mb 210), .ref (mb 211), .int (O 212 0), .ref (mb 213), .ref (mg 220)])), (mb 202, .inl (Z 0, 60, .inl (O 202))), (mb 203, .inl (Z 0, 6, .inl (O 203))), (mb 204, .inl (Z 0, 6, .inl (O 204))), (mb 205, .inl (Z 0, 6, .inl (O 205))), (mb 206, .inl (Z 0, 8, .inl (O 206))), (mb 207, .inl (Z 0, 8, .inl (O 207))), (mb 208, .inl (Z 0, 8, .inl (O 208))), (mb 209, .inl (Z 0, 8, .inl (O 209))), (mb 210, .inl (Z 0, 8, .inl (O 210))), (mb 211, .inl (Z 0, 8, .inl (O 211))), (mb 213, .inl (Z 0, 400, .inl (O 213))), (mg 220, .inr (8, [.int (N 220 0), .ref (mg 221), .int (N 222 0), .int (N 223 0), .ref (mg 224), .ref (mg 225), .ref (mg 226), .ref (mg 227), .ref (mg 228), .int (N 229 0), .int (N 230 0), .ref (mq 240), .ref mr, .ref (ma 200), .ref (mb 200)])), (mg 221, .inl (Z 0, 2000, .inl (V 221))), (mg 224, .inl (Z 0, 401, .inl (J 224))), (mg 225, .inl (Z 0, 401, .inl (J 225))), (mg 226, .inl (Z 0, 401, .inl (J 226))), (mg 227, .inl (Z 0, 401, .inl (J 227))), (mg 228, .inl (Z 0, 401, .inl (J 228))), (mq 240, .inr (6, [.int (U 240 0), .int (U 241 0), .ref (mq 242), .ref (mq 243), .ref (mq 244), .ref (mq 245), .int (U 246 0), .ref (mq 247), .ref (mq 248), .int (U 249 0), .ref (mq 250), .ref (mq 251), .int (U 252 0), .ref (mq 253), .ref (mq 254), .ref (mq 255), .ref (mq 256), .int (U 257 0), .int (U 258 0), .ref (mq 259), .ref (mq 260), .ref (mq 261), .ref (mq 262), .ref (mq 263), .int (U 264 0), .ref (mq 265), .int (U 266 0)])), (mq 242, .inl (Z 0, 5, .inl (U 242))), (mq 243, .inl (Z 0, 5, .inl (U 243))), (mq 244, .inl (Z 0, 5, .inl (U 244))), (mq 245, .inl (Z 0, 60, .inl (U 245))), (mq 247, .inl (Z 0, 4, .inl (U 247))), (mq 248, .inl (Z 0, 4, .inl (U 248))), (mq 250, .inl (Z 0, 6, .inl (U 250))), (mq 251, .inl (Z 0, 6, .inl (U 251))), (mq 253, .inl (Z 0, 8, .inl (U 253))), (mq 254, .inl (Z 0, 8, .inl (U 254))), (mq 255, .inl (Z 0, 8, .inl (U 255))), (mq 256, .inl (Z 3, 8, .inr (.inr (.inr (.inr (fun j => if j < 8 then some (mq (310 + j)) else none)))))), (mq 259, .inl (Z 0, 16, .inl (U 259))), (mq 260, .inl (Z 0, 16, .inl (U 260))), (mq 261, .inl (Z 0, 17, .inl (U 261))), (mq 262, .inl (Z 0, 17, .inl (U 262))), (mq 263, .inl (Z 0, 800, .inl (U 263))), (mq 265, .inl (Z 0, 400, .inl (U 265))), (mq (310 + 0), .inl (Z 0, 2, .inl (U (310 + 0)))), (mq (310 + 1), .inl (Z 0, 2, .inl (U (310 + 1)))), (mq (310 + 2), .inl (Z 0, 2, .inl (U (310 + 2)))), (mq (310 + 3), .inl (Z 0, 2, .inl (U (310 + 3)))), (mq (310 + 4), .inl (Z 0, 2, .inl (U (310 + 4)))), (mq (310 + 5), .inl (Z 0, 2, .inl (U (310 + 5)))), (mq (310 + 6), .inl (Z 0, 2, .inl (U (310 + 6)))), (mq (310 + 7), .inl (Z 0, 2, .inl (U (310 + 7))))] [0, 1, 2, 3, 4, 5, 6, 7, 8, 9, 10, 11, 12, 13, 14, 15, 16, 17, 18, 19, 20, 21, 22, 23, 24, 25, 26, 27, 28, 29, 30, 31, 32, 33, 34, 35, 36, 37, 38, 39, 40, 41, 42, 43, 44, 45, 46, 47, 48, 49, 50, 51, 52, 53, 54, 55, 56, 57, 58, 59, 60, 61, 62, 63, 64, 65, 66, 67, 68, 69, 70, 71, 72, 73, 74, 75, 76, 77, 78, 79] [80, 81, 82, 83, 84, 85, 86, 87, 88, 89, 90, 91, 92, 93, 94, 95, 96, 97, 98, 99, 100, 101, 102, 103, 104, 105, 106, 107, 108, 109, 110, 111, 112, 113, 114, 115, 116, 117, 118, 119, 120, 121, 122, 123, 124, 125, 126, 127, 128, 129, 130, 131, 132, 133, 134, 135, 136, 137] [58, 59, 60, 61, 62, 63, 64, 65, 66, 67, 68, 69, 70, 71, 72, 73, 74, 75, 76, 77, 78, 79, 80, 81, 82, 83, 84, 85, 86, 87, 88, 89, 90, 91, 92, 93, 94, 95, 96, 97, 98, 99, 100, 101, 102, 103, 104, 105, 106, 107, 108, 109, 110, 111, 112, 113, 114, 115, 116, 117, 118, 119, 120, 121, 122, 123, 124, 125, 126, 127, 128, 129, 130, 131, 132, 133, 134, 135, 136, 137, 0, 1, 2, 3, 4, 5, 6, 7, 8, 9, 10, 11, 12, 13, 14, 15, 16, 17, 18, 19, 20, 21, 22, 23, 24, 25, 26, 27, 28, 29, 30, 31, 32, 33, 34, 35, 36, 37, 38, 39, 40, 41, 42, 43, 44, 45, 46, 47, 48, 49, 50, 51, 52, 53, 54, 55, 56, 57] (fun u : Nat × Nat × Nat × M2 × M2 × M2 × M2 × M2 × L2 × M2 × L2 => (LW Z a t b q q2 ow ma mb mq mg mr u.1 u.2.1 u.2.2.1 u.2.2.2.1 u.2.2.2.2.1 u.2.2.2.2.2.1 u.2.2.2.2.2.2.1 u.2.2.2.2.2.2.2.1 u.2.2.2.2.2.2.2.2.1 u.2.2.2.2.2.2.2.2.2.1 u.2.2.2.2.2.2.2.2.2.2 S O N V J U)) := ⟨rfl, rfl, rfl, by decide, rfl, fun _ => rfl⟩
set_option maxRecDepth 100000 in
theorem sx_QWLW (Z : Nat → ClassId) (a t b q q2 : Nat → Nat) (ow : Nat) (ma mb mq mg : Nat → Nat) (mr : Nat) (ap : Nat) (bp : Nat) (rp : Nat) (C : M2) (T : M2) (G : M2) (P : M2) (Y : M2) (L : L2) (B : M2) (X : L2) (S : M2) (O : M2) (N : M2) (V : M2) (J : M2) (U : M2) : ([80, 81, 82, 83, 84, 85, 86, 87, 88, 89, 90, 91, 104, 111, 112, 113, 114, 115, 116, 117, 118, 119, 120, 121, 122, 123, 124, 125, 126, 127, 128, 129, 130, 131, 132, 133, 134, 135, 136, 137] : List Nat).map (fun i => (LW Z a t b q q2 ow ma mb mq mg mr ap bp rp C T G P Y L B X S O N V J U)[i]?) = (QW Z ma mq mg mr (mb 200) U S N).map some := rfl
set_option maxRecDepth 100000 in
theorem cx_QWLW (Z : Nat → ClassId) (a t b q q2 : Nat → Nat) (ow : Nat) (ma mb mq mg : Nat → Nat) (mr : Nat) (ap : Nat) (bp : Nat) (rp : Nat) (C : M2) (T : M2) (G : M2) (P : M2) (Y : M2) (L : L2) (B : M2) (X : L2) (S : M2) (O : M2) (N : M2) (V : M2) (J : M2) (U : M2) : Cut (LW Z a t b q q2 ow ma mb mq mg mr ap bp rp C T G P Y L B X S O N V J U) (fun u : M2 × M2 => QW Z ma mq mg mr (mb 200) U u.1 u.2) (S, N) [(a 90, .inr (5, [.ref (a 80), .int (C 91 0), .int (C 92 0), .ref (a 60), .ref (q2 20), .ref (t 0), .ref (b 0)])), (a 80, .inl (Z 2, 2000, .inl (B 80))), (a 60, .inr (2, [.ref (a 70), .ref (a 61), .ref (a 62), .ref (a 63), .ref (a 64), .ref rp, .int (Y 66 0), .int (Y 67 0), .int (Y 68 0), .int (Y 69 0)])), (a 61, .inl (Z 1, 5, .inr (.inl (L 61)))), (a 62, .inl (Z 1, 4, .inr (.inl (L 62)))), (a 63, .inl (Z 1, 6, .inr (.inl (L 63)))), (a 64, .inl (Z 1, 8, .inr (.inl (L 64)))), (a 70, .inr (3, [.ref (a 71), .ref (a 72), .int (Y 73 0), .ref (a 74), .ref (a 75), .ref (a 76), .ref bp, .int (Y 78 0)])), (a 71, .inl (Z 1, 40, .inr (.inl (L 71)))), (a 72, .inl (Z 0, 40, .inl (Y 72))), (a 74, .inl (Z 0, 401, .inl (Y 74))), (a 75, .inl (Z 0, 401, .inl (Y 75))), (a 76, .inl (Z 1, 401, .inr (.inl (L 76)))), (q2 20, .inr (1, [.int (Y 20 0), .int (Y 21 0), .int (Y 22 0), .int (Y 23 0), .int (Y 24 0), .ref (q2 25), .ref (q2 26), .ref (q2 27), .ref (q2 28), .ref (q2 29), .ref (q2 30), .ref (q2 31), .ref (q2 32), .ref (q2 33), .ref (q2 34), .ref (q2 35), .ref (q2 36), .ref (q2 37), .ref (q2 40)])), (q2 25, .inl (Z 0, 5, .inl (Y 25))), (q2 26, .inl (Z 0, 5, .inl (Y 26))), (q2 27, .inl (Z 0, 5, .inl (Y 27))), (q2 28, .inl (Z 0, 60, .inl (Y 28))), (q2 29, .inl (Z 0, 4, .inl (Y 29))), (q2 30, .inl (Z 0, 4, .inl (Y 30))), (q2 31, .inl (Z 0, 6, .inl (Y 31))), (q2 32, .inl (Z 0, 6, .inl (Y 32))), (q2 33, .inl (Z 0, 8, .inl (Y 33))), (q2 34, .inl (Z 0, 8, .inl (Y 34))), (q2 35, .inl (Z 0, 8, .inl (Y 35))), (q2 36, .inl (Z 0, 8, .inl (Y 36))), (q2 37, .inl (Z 0, 8, .inl (Y 37))), (q2 40, .inr (0, [.int (Y 40 0), .ref (q2 41), .ref (q2 42), .ref (q2 43), .ref (q2 44), .int (Y 45 0), .ref (q2 46), .ref (q2 47)])), (q2 41, .inl (Z 0, 16, .inl (Y 41))), (q2 42, .inl (Z 0, 16, .inl (Y 42))), (q2 43, .inl (Z 0, 16, .inl (Y 43))), (q2 44, .inl (Z 0, 16, .inl (Y 44))), (q2 46, .inl (Z 0, 400, .inl (Y 46))), (q2 47, .inl (Z 0, 400, .inl (Y 47))), (q 20, .inr (1, [.int (P 20 0), .int (P 21 0), .int (P 22 0), .int (P 23 0), .int (P 24 0), .ref (q 25), .ref (q 26), .ref (q 27), .ref (q 28), .ref (q 29), .ref (q 30), .ref (q 31), .ref (q 32), .ref (q 33), .ref (q 34), .ref (q 35), .ref (q 36), .ref (q 37), .ref (q 40)])), (q 25, .inl (Z 0, 5, .inl (P 25))), (q 26, .inl (Z 0, 5, .inl (P 26))), (q 27, .inl (Z 0, 5, .inl (P 27))), (q 28, .inl (Z 0, 60, .inl (P 28))), (q 29, .inl (Z 0, 4, .inl (P 29))), (q 30, .inl (Z 0, 4, .inl (P 30))), (q 31, .inl (Z 0, 6, .inl (P 31))), (q 32, .inl (Z 0, 6, .inl (P 32))), (q 33, .inl (Z 0, 8, .inl (P 33))), (q 34, .inl (Z 0, 8, .inl (P 34))), (q 35, .inl (Z 0, 8, .inl (P 35))), (q 36, .inl (Z 0, 8, .inl (P 36))), (q 37, .inl (Z 0, 8, .inl (P 37))), (q 40, .inr (0, [.int (P 40 0), .ref (q 41), .ref (q 42), .ref (q 43), .ref (q 44), .int (P 45 0), .ref (q 46), .ref (q 47)])), (q 41, .inl (Z 0, 16, .inl (P 41))), (q 42, .inl (Z 0, 16, .inl (P 42))), (q 43, .inl (Z 0, 16, .inl (P 43))), (q 44, .inl (Z 0, 16, .inl (P 44))), (q 46, .inl (Z 0, 400, .inl (P 46))), (q 47, .inl (Z 0, 400, .inl (P 47))), (t 0, .inr (4, [.ref (q 20), .int (T 1 0), .int (T 2 0), .int (T 3 0), .ref (t 4), .ref (t 5), .ref (t 6), .ref (t 7), .ref (t 8), .ref (t 9), .ref (t 10), .ref (t 11), .ref (t 12), .ref (t 13), .ref (t 14)])), (t 4, .inl (Z 0, 60, .inl (T 4))), (t 5, .inl (Z 0, 6, .inl (T 5))), (t 6, .inl (Z 0, 6, .inl (T 6))), (t 7, .inl (Z 0, 6, .inl (T 7))), (t 8, .inl (Z 0, 8, .inl (T 8))), (t 9, .inl (Z 0, 8, .inl (T 9))), (t 10, .inl (Z 0, 8, .inl (T 10))), (t 11, .inl (Z 0, 8, .inl (T 11))), (t 12, .inl (Z 0, 8, .inl (T 12))), (t 13, .inl (Z 0, 8, .inl (T 13))), (t 14, .inl (Z 0, 400, .inl (T 14))), (b 0, .inr (4, [.ref ap, .int (G 1 0), .int (G 2 0), .int (G 3 0), .ref (b 4), .ref (b 5), .ref (b 6), .ref (b 7), .ref (b 8), .ref (b 9), .ref (b 10), .ref (b 11), .ref (b 12), .ref (b 13), .ref (b 14)])), (b 4, .inl (Z 0, 60, .inl (G 4))), (b 5, .inl (Z 0, 6, .inl (G 5))), (b 6, .inl (Z 0, 6, .inl (G 6))), (b 7, .inl (Z 0, 6, .inl (G 7))), (b 8, .inl (Z 0, 8, .inl (G 8))), (b 9, .inl (Z 0, 8, .inl (G 9))), (b 10, .inl (Z 0, 8, .inl (G 10))), (b 11, .inl (Z 0, 8, .inl (G 11))), (b 12, .inl (Z 0, 8, .inl (G 12))), (b 13, .inl (Z 0, 8, .inl (G 13))), (b 14, .inl (Z 0, 400, .inl (G 14))), (ow, .inl (Z 1, 1, .inr (.inl (X 500)))), (mb 200, .inr (7, [.int (O 200 0), .int (O 201 0), .ref (mb 202), .ref (mb 203), .ref (mb 204), .ref (mb 205), .ref (mb 206), .ref (mb 207), .ref (mb 208), .ref (mb 209), .ref (mb 210), .ref (mb 211), .int (O 212 0), .ref (mb 213), .ref (mg 220)])), (mb 202, .inl (Z 0, 60, .inl (O 202))), (mb 203, .inl (Z 0, 6, .inl (O 203))), (mb 204, .inl (Z 0, 6, .inl (O 204))), (mb 205, .inl (Z 0, 6, .inl (O 205))), (mb 206, .inl (Z 0, 8, .inl (O 206))), (mb 207, .inl (Z 0, 8, .inl (O 207))), (mb 208, .inl (Z 0, 8, .inl (O 208))), (mb 209, .inl (Z 0, 8, .inl (O 209))), (mb 210, .inl (Z 0, 8, .inl (O 210))), (mb 211, .inl (Z 0, 8, .inl (O 211))), (mb 213, .inl (Z 0, 400, .inl (O 213))), (mg 221, .inl (Z 0, 2000, .inl (V 221))), (mg 224, .inl (Z 0, 401, .inl (J 224))), (mg 225, .inl (Z 0, 401, .inl (J 225))), (mg 226, .inl (Z 0, 401, .inl (J 226))), (mg 227, .inl (Z 0, 401, .inl (J 227))), (mg 228, .inl (Z 0, 401, .inl (J 228)))] [80, 81, 82, 83, 84, 85, 86, 87, 88, 89, 90, 91, 104, 111, 112, 113, 114, 115, 116, 117, 118, 119, 120, 121, 122, 123, 124, 125, 126, 127, 128, 129, 130, 131, 132, 133, 134, 135, 136, 137] [0, 1, 2, 3, 4, 5, 6, 7, 8, 9, 10, 11, 12, 13, 14, 15, 16, 17, 18, 19, 20, 21, 22, 23, 24, 25, 26, 27, 28, 29, 30, 31, 32, 33, 34, 35, 36, 37, 38, 39, 40, 41, 42, 43, 44, 45, 46, 47, 48, 49, 50, 51, 52, 53, 54, 55, 56, 57, 58, 59, 60, 61, 62, 63, 64, 65, 66, 67, 68, 69, 70, 71, 72, 73, 74, 75, 76, 77, 78, 79, 92, 93, 94, 95, 96, 97, 98, 99, 100, 101, 102, 103, 105, 106, 107, 108, 109, 110] [0, 1, 2, 3, 4, 5, 6, 7, 8, 9, 10, 11, 12, 13, 14, 15, 16, 17, 18, 19, 20, 21, 22, 23, 24, 25, 26, 27, 28, 29, 30, 31, 32, 33, 34, 35, 36, 37, 38, 39, 40, 41, 42, 43, 44, 45, 46, 47, 48, 49, 50, 51, 52, 53, 54, 55, 56, 57, 58, 59, 60, 61, 62, 63, 64, 65, 66, 67, 68, 69, 70, 71, 72, 73, 74, 75, 76, 77, 78, 79, 98, 99, 100, 101, 102, 103, 104, 105, 106, 107, 108, 109, 80, 81, 82, 83, 84, 85, 86, 87, 88, 89, 90, 91, 110, 92, 93, 94, 95, 96, 97, 111, 112, 113, 114, 115, 116, 117, 118, 119, 120, 121, 122, 123, 124, 125, 126, 127, 128, 129, 130, 131, 132, 133, 134, 135, 136, 137] (fun u : M2 × M2 => (LW Z a t b q q2 ow ma mb mq mg mr ap bp rp C T G P Y L B X u.1 O u.2 V J U)) := ⟨rfl, rfl, rfl, by decide, rfl, fun _ => rfl⟩
set_option maxRecDepth 100000 in
theorem sx_MALW (Z : Nat → ClassId) (a t b q q2 : Nat → Nat) (ow : Nat) (ma mb mq mg : Nat → Nat) (mr : Nat) (ap : Nat) (bp : Nat) (rp : Nat) (C : M2) (T : M2) (G : M2) (P : M2) (Y : M2) (L : L2) (B : M2) (X : L2) (S : M2) (O : M2) (N : M2) (V : M2) (J : M2) (U : M2) : ([80, 81, 82, 83, 84, 85, 86, 87, 88, 89, 90, 91, 92, 93, 94, 95, 96, 97, 98, 99, 100, 101, 102, 103, 104, 111, 112, 113, 114, 115, 116, 117, 118, 119, 120, 121, 122, 123, 124, 125, 126, 127, 128, 129, 130, 131, 132, 133, 134, 135, 136, 137] : List Nat).map (fun i => (LW Z a t b q q2 ow ma mb mq mg mr ap bp rp C T G P Y L B X S O N V J U)[i]?) = (MA Z ma mb mq mg mr U S O N).map some := rfl
set_option maxRecDepth 100000 in
theorem cx_MALW (Z : Nat → ClassId) (a t b q q2 : Nat → Nat) (ow : Nat) (ma mb mq mg : Nat → Nat) (mr : Nat) (ap : Nat) (bp : Nat) (rp : Nat) (C : M2) (T : M2) (G : M2) (P : M2) (Y : M2) (L : L2) (B : M2) (X : L2) (S : M2) (O : M2) (N : M2) (V : M2) (J : M2) (U : M2) : Cut (LW Z a t b q q2 ow ma mb mq mg mr ap bp rp C T G P Y L B X S O N V J U) (fun u : M2 × M2 × M2 => MA Z ma mb mq mg mr U u.1 u.2.1 u.2.2) (S, O, N) [(a 90, .inr (5, [.ref (a 80), .int (C 91 0), .int (C 92 0), .ref (a 60), .ref (q2 20), .ref (t 0), .ref (b 0)])), (a 80, .inl (Z 2, 2000, .inl (B 80))), (a 60, .inr (2, [.ref (a 70), .ref (a 61), .ref (a 62), .ref (a 63), .ref (a 64), .ref rp, .int (Y 66 0), .int (Y 67 0), .int (Y 68 0), .int (Y 69 0)])), (a 61, .inl (Z 1, 5, .inr (.inl (L 61)))), (a 62, .inl (Z 1, 4, .inr (.inl (L 62)))), (a 63, .inl (Z 1, 6, .inr (.inl (L 63)))), (a 64, .inl (Z 1, 8, .inr (.inl (L 64)))), (a 70, .inr (3, [.ref (a 71), .ref (a 72), .int (Y 73 0), .ref (a 74), .ref (a 75), .ref (a 76), .ref bp, .int (Y 78 0)])), (a 71, .inl (Z 1, 40, .inr (.inl (L 71)))), (a 72, .inl (Z 0, 40, .inl (Y 72))), (a 74, .inl (Z 0, 401, .inl (Y 74))), (a 75, .inl (Z 0, 401, .inl (Y 75))), (a 76, .inl (Z 1, 401, .inr (.inl (L 76)))), (q2 20, .inr (1, [.int (Y 20 0), .int (Y 21 0), .int (Y 22 0), .int (Y 23 0), .int (Y 24 0), .ref (q2 25), .ref (q2 26), .ref (q2 27), .ref (q2 28), .ref (q2 29), .ref (q2 30), .ref (q2 31), .ref (q2 32), .ref (q2 33), .ref (q2 34), .ref (q2 35), .ref (q2 36), .ref (q2 37), .ref (q2 40)])), (q2 25, .inl (Z 0, 5, .inl (Y 25))), (q2 26, .inl (Z 0, 5, .inl (Y 26))), (q2 27, .inl (Z 0, 5, .inl (Y 27))), (q2 28, .inl (Z 0, 60, .inl (Y 28))), (q2 29, .inl (Z 0, 4, .inl (Y 29))), (q2 30, .inl (Z 0, 4, .inl (Y 30))), (q2 31, .inl (Z 0, 6, .inl (Y 31))), (q2 32, .inl (Z 0, 6, .inl (Y 32))), (q2 33, .inl (Z 0, 8, .inl (Y 33))), (q2 34, .inl (Z 0, 8, .inl (Y 34))), (q2 35, .inl (Z 0, 8, .inl (Y 35))), (q2 36, .inl (Z 0, 8, .inl (Y 36))), (q2 37, .inl (Z 0, 8, .inl (Y 37))), (q2 40, .inr (0, [.int (Y 40 0), .ref (q2 41), .ref (q2 42), .ref (q2 43), .ref (q2 44), .int (Y 45 0), .ref (q2 46), .ref (q2 47)])), (q2 41, .inl (Z 0, 16, .inl (Y 41))), (q2 42, .inl (Z 0, 16, .inl (Y 42))), (q2 43, .inl (Z 0, 16, .inl (Y 43))), (q2 44, .inl (Z 0, 16, .inl (Y 44))), (q2 46, .inl (Z 0, 400, .inl (Y 46))), (q2 47, .inl (Z 0, 400, .inl (Y 47))), (q 20, .inr (1, [.int (P 20 0), .int (P 21 0), .int (P 22 0), .int (P 23 0), .int (P 24 0), .ref (q 25), .ref (q 26), .ref (q 27), .ref (q 28), .ref (q 29), .ref (q 30), .ref (q 31), .ref (q 32), .ref (q 33), .ref (q 34), .ref (q 35), .ref (q 36), .ref (q 37), .ref (q 40)])), (q 25, .inl (Z 0, 5, .inl (P 25))), (q 26, .inl (Z 0, 5, .inl (P 26))), (q 27, .inl (Z 0, 5, .inl (P 27))), (q 28, .inl (Z 0, 60, .inl (P 28))), (q 29, .inl (Z 0, 4, .inl (P 29))), (q 30, .inl (Z 0, 4, .inl (P 30))), (q 31, .inl (Z 0, 6, .inl (P 31))), (q 32, .inl (Z 0, 6, .inl (P 32))), (q 33, .inl (Z 0, 8, .inl (P 33))), (q 34, .inl (Z 0, 8, .inl (P 34))), (q 35, .inl (Z 0, 8, .inl (P 35))), (q 36, .inl (Z 0, 8, .inl (P 36))), (q 37, .inl (Z 0, 8, .inl (P 37))), (q 40, .inr (0, [.int (P 40 0), .ref (q 41), .ref (q 42), .ref (q 43), .ref (q 44), .int (P 45 0), .ref (q 46), .ref (q 47)])), (q 41, .inl (Z 0, 16, .inl (P 41))), (q 42, .inl (Z 0, 16, .inl (P 42))), (q 43, .inl (Z 0, 16, .inl (P 43))), (q 44, .inl (Z 0, 16, .inl (P 44))), (q 46, .inl (Z 0, 400, .inl (P 46))), (q 47, .inl (Z 0, 400, .inl (P 47))), (t 0, .inr (4, [.ref (q 20), .int (T 1 0), .int (T 2 0), .int (T 3 0), .ref (t 4), .ref (t 5), .ref (t 6), .ref (t 7), .ref (t 8), .ref (t 9), .ref (t 10), .ref (t 11), .ref (t 12), .ref (t 13), .ref (t 14)])), (t 4, .inl (Z 0, 60, .inl (T 4))), (t 5, .inl (Z 0, 6, .inl (T 5))), (t 6, .inl (Z 0, 6, .inl (T 6))), (t 7, .inl (Z 0, 6, .inl (T 7))), (t 8, .inl (Z 0, 8, .inl (T 8))), (t 9, .inl (Z 0, 8, .inl (T 9))), (t 10, .inl (Z 0, 8, .inl (T 10))), (t 11, .inl (Z 0, 8, .inl (T 11))), (t 12, .inl (Z 0, 8, .inl (T 12))), (t 13, .inl (Z 0, 8, .inl (T 13))), (t 14, .inl (Z 0, 400, .inl (T 14))), (b 0, .inr (4, [.ref ap, .int (G 1 0), .int (G 2 0), .int (G 3 0), .ref (b 4), .ref (b 5), .ref (b 6), .ref (b 7), .ref (b 8), .ref (b 9), .ref (b 10), .ref (b 11), .ref (b 12), .ref (b 13), .ref (b 14)])), (b 4, .inl (Z 0, 60, .inl (G 4))), (b 5, .inl (Z 0, 6, .inl (G 5))), (b 6, .inl (Z 0, 6, .inl (G 6))), (b 7, .inl (Z 0, 6, .inl (G 7))), (b 8, .inl (Z 0, 8, .inl (G 8))), (b 9, .inl (Z 0, 8, .inl (G 9))), (b 10, .inl (Z 0, 8, .inl (G 10))), (b 11, .inl (Z 0, 8, .inl (G 11))), (b 12, .inl (Z 0, 8, .inl (G 12))), (b 13, .inl (Z 0, 8, .inl (G 13))), (b 14, .inl (Z 0, 400, .inl (G 14))), (ow, .inl (Z 1, 1, .inr (.inl (X 500)))), (mg 221, .inl (Z 0, 2000, .inl (V 221))), (mg 224, .inl (Z 0, 401, .inl (J 224))), (mg 225, .inl (Z 0, 401, .inl (J 225))), (mg 226, .inl (Z 0, 401, .inl (J 226))), (mg 227, .inl (Z 0, 401, .inl (J 227))), (mg 228, .inl (Z 0, 401, .inl (J 228)))] [80, 81, 82, 83, 84, 85, 86, 87, 88, 89, 90, 91, 92, 93, 94, 95, 96, 97, 98, 99, 100, 101, 102, 103, 104, 111, 112, 113, 114, 115, 116, 117, 118, 119, 120, 121, 122, 123, 124, 125, 126, 127, 128, 129, 130, 131, 132, 133, 134, 135, 136, 137] [0, 1, 2, 3, 4, 5, 6, 7, 8, 9, 10, 11, 12, 13, 14, 15, 16, 17, 18, 19, 20, 21, 22, 23, 24, 25, 26, 27, 28, 29, 30, 31, 32, 33, 34, 35, 36, 37, 38, 39, 40, 41, 42, 43, 44, 45, 46, 47, 48, 49, 50, 51, 52, 53, 54, 55, 56, 57, 58, 59, 60, 61, 62, 63, 64, 65, 66, 67, 68, 69, 70, 71, 72, 73, 74, 75, 76, 77, 78, 79, 105, 106, 107, 108, 109, 110] [0, 1, 2, 3, 4, 5, 6, 7, 8, 9, 10, 11, 12, 13, 14, 15, 16, 17, 18, 19, 20, 21, 22, 23, 24, 25, 26, 27, 28, 29, 30, 31, 32, 33, 34, 35, 36, 37, 38, 39, 40, 41, 42, 43, 44, 45, 46, 47, 48, 49, 50, 51, 52, 53, 54, 55, 56, 57, 58, 59, 60, 61, 62, 63, 64, 65, 66, 67, 68, 69, 70, 71, 72, 73, 74, 75, 76, 77, 78, 79, 86, 87, 88, 89, 90, 91, 92, 93, 94, 95, 96, 97, 98, 99, 100, 101, 102, 103, 104, 105, 106, 107, 108, 109, 110, 80, 81, 82, 83, 84, 85, 111, 112, 113, 114, 115, 116, 117, 118, 119, 120, 121, 122, 123, 124, 125, 126, 127, 128, 129, 130, 131, 132, 133, 134, 135, 136, 137] (fun u : M2 × M2 × M2 => (LW Z a t b q q2 ow ma mb mq mg mr ap bp rp C T G P Y L B X u.1 u.2.1 u.2.2 V J U)) := ⟨rfl, rfl, rfl, by decide, rfl, fun _ => rfl⟩
set_option maxRecDepth 100000 in
theorem sx_FWLW (Z : Nat → ClassId) (a t b q q2 : Nat → Nat) (ow : Nat) (ma mb mq mg : Nat → Nat) (mr : Nat) (ap : Nat) (bp : Nat) (rp : Nat) (C : M2) (T : M2) (G : M2) (P : M2) (Y : M2) (L : L2) (B : M2) (X : L2) (S : M2) (O : M2) (N : M2) (V : M2) (J : M2) (U : M2) : ([104, 105] : List Nat).map (fun i => (LW Z a t b q q2 ow ma mb mq mg mr ap bp rp C T G P Y L B X S O N V J U)[i]?) = (FW Z mg (mq 240) mr (ma 200) (mb 200) N V).map some := rfl
set_option maxRecDepth 100000 in
theorem cx_FWLW (Z : Nat → ClassId) (a t b q q2 : Nat → Nat) (ow : Nat) (ma mb mq mg : Nat → Nat) (mr : Nat) (ap : Nat) (bp : Nat) (rp : Nat) (C : M2) (T : M2) (G : M2) (P : M2) (Y : M2) (L : L2) (B : M2) (X : L2) (S : M2) (O : M2) (N : M2) (V : M2) (J : M2) (U : M2) : Cut (LW Z a t b q q2 ow ma mb mq mg mr ap bp rp C T G P Y L B X S O N V J U) (fun u : M2 × M2 => FW Z mg (mq 240) mr (ma 200) (mb 200) u.1 u.2) (N, V) [(a 90, .inr (5, [.ref (a 80), .int (C 91 0), .int (C 92 0), .ref (a 60), .ref (q2 20), .ref (t 0), .ref (b 0)])), (a 80, .inl (Z 2, 2000, .inl (B 80))), (a 60, .inr (2, [.ref (a 70), .ref (a 61), .ref (a 62), .ref (a 63), .ref (a 64), .ref rp, .int (Y 66 0), .int (Y 67 0), .int (Y 68 0), .int (Y 69 0)])), (a 61, .inl (Z 1, 5, .inr (.inl (L 61)))), (a 62, .inl (Z 1, 4, .inr (.inl (L 62)))), (a 63, .inl (Z 1, 6, .inr (.inl (L 63)))), (a 64, .inl (Z 1, 8, .inr (.inl (L 64)))), (a 70, .inr (3, [.ref (a 71), .ref (a 72), .int (Y 73 0), .ref (a 74), .ref (a 75), .ref (a 76), .ref bp, .int (Y 78 0)])), (a 71, .inl (Z 1, 40, .inr (.inl (L 71)))), (a 72, .inl (Z 0, 40, .inl (Y 72))), (a 74, .inl (Z 0, 401, .inl (Y 74))), (a 75, .inl (Z 0, 401, .inl (Y 75))), (a 76, .inl (Z 1, 401, .inr (.inl (L 76)))), (q2 20, .inr (1, [.int (Y 20 0), .int (Y 21 0), .int (Y 22 0), .int (Y 23 0), .int (Y 24 0), .ref (q2 25), .ref (q2 26), .ref (q2 27), .ref (q2 28), .ref (q2 29), .ref (q2 30), .ref (q2 31), .ref (q2 32), .ref (q2 33), .ref (q2 34), .ref (q2 35), .ref (q2 36), .ref (q2 37), .ref (q2 40)])), (q2 25, .inl (Z 0, 5, .inl (Y 25))), (q2 26, .inl (Z 0, 5, .inl (Y 26))), (q2 27, .inl (Z 0, 5, .inl (Y 27))), (q2 28, .inl (Z 0, 60, .inl (Y 28))), (q2 29, .inl (Z 0, 4, .inl (Y 29))), (q2 30, .inl (Z 0, 4, .inl (Y 30))), (q2 31, .inl (Z 0, 6, .inl (Y 31))), (q2 32, .inl (Z 0, 6, .inl (Y 32))), (q2 33, .inl (Z 0, 8, .inl (Y 33))), (q2 34, .inl (Z 0, 8, .inl (Y 34))), (q2 35, .inl (Z 0, 8, .inl (Y 35))), (q2 36, .inl (Z 0, 8, .inl (Y 36))), (q2 37, .inl (Z 0, 8, .inl (Y 37))), (q2 40, .inr (0, [.int (Y 40 0), .ref (q2 41), .ref (q2 42), .ref (q2 43), .ref (q2 44), .int (Y 45 0), .ref (q2 46), .ref (q2 47)])), (q2 41, .inl (Z 0, 16, .inl (Y 41))), (q2 42, .inl (Z 0, 16, .inl (Y 42))), (q2 43, .inl (Z 0, 16, .inl (Y 43))), (q2 44, .inl (Z 0, 16, .inl (Y 44))), (q2 46, .inl (Z 0, 400, .inl (Y 46))), (q2 47, .inl (Z 0, 400, .inl (Y 47))), (q 20, .inr (1, [.int (P 20 0), .int (P 21 0), .int (P 22 0), .int (P 23 0), .int (P 24 0), .ref (q 25), .ref (q 26), .ref (q 27), .ref (q 28), .ref (q 29), .ref (q 30), .ref (q 31), .ref (q 32), .ref (q 33), .ref (q 34), .ref (q 35), .ref (q 36), .ref (q 37), .ref (q 40)])), (q 25, .inl (Z 0, 5, .inl (P 25))), (q 26, .inl (Z 0, 5, .inl (P 26))), (q 27, .inl (Z 0, 5, .inl (P 27))), (q 28, .inl (Z 0, 60, .inl (P 28))), (q 29, .inl (Z 0, 4, .inl (P 29))), (q 30, .inl (Z 0, 4, .inl (P 30))), (q 31, .inl (Z 0, 6, .inl (P 31))), (q 32, .inl (Z 0, 6, .inl (P 32))), (q 33, .inl (Z 0, 8, .inl (P 33))), (q 34, .inl (Z 0, 8, .inl (P 34))), (q 35, .inl (Z 0, 8, .inl (P 35))), (q 36, .inl (Z 0, 8, .inl (P 36))), (q 37, .inl (Z 0, 8, .inl (P 37))), (q 40, .inr (0, [.int (P 40 0), .ref (q 41), .ref (q 42), .ref (q 43), .ref (q 44), .int (P 45 0), .ref (q 46), .ref (q 47)])), (q 41, .inl (Z 0, 16, .inl (P 41))), (q 42, .inl (Z 0, 16, .inl (P 42))), (q 43, .inl (Z 0, 16, .inl (P 43))), (q 44, .inl (Z 0, 16, .inl (P 44))), (q 46, .inl (Z 0, 400, .inl (P 46))), (q 47, .inl (Z 0, 400, .inl (P 47))), (t 0, .inr (4, [.ref (q 20), .int (T 1 0), .int (T 2 0), .int (T 3 0), .ref (t 4), .ref (t 5), .ref (t 6), .ref (t 7), .ref (t 8), .ref (t 9), .ref (t 10), .ref (t 11), .ref (t 12), .ref (t 13), .ref (t 14)])), (t 4, .inl (Z 0, 60, .inl (T 4))), (t 5, .inl (Z 0, 6, .inl (T 5))), (t 6, .inl (Z 0, 6, .inl (T 6))), (t 7, .inl (Z 0, 6, .inl (T 7))), (t 8, .inl (Z 0, 8, .inl (T 8))), (t 9, .inl (Z 0, 8, .inl (T 9))), (t 10, .inl (Z 0, 8, .inl (T 10))), (t 11, .inl (Z 0, 8, .inl (T 11))), (t 12, .inl (Z 0, 8, .inl (T 12))), (t 13, .inl (Z 0, 8, .inl (T 13))), (t 14, .inl (Z 0, 400, .inl (T 14))), (b 0, .inr (4, [.ref ap, .int (G 1 0), .int (G 2 0), .int (G 3 0), .ref (b 4), .ref (b 5), .ref (b 6), .ref (b 7), .ref (b 8), .ref (b 9), .ref (b 10), .ref (b 11), .ref (b 12), .ref (b 13), .ref (b 14)])), (b 4, .inl (Z 0, 60, .inl (G 4))), (b 5, .inl (Z 0, 6, .inl (G 5))), (b 6, .inl (Z 0, 6, .inl (G 6))), (b 7, .inl (Z 0, 6, .inl (G 7))), (b 8, .inl (Z 0, 8, .inl (G 8))), (b 9, .inl (Z 0, 8, .inl (G 9))), (b 10, .inl (Z 0, 8, .inl (G 10))), (b 11, .inl (Z 0, 8, .inl (G 11))), (b 12, .inl (Z 0, 8, .inl (G 12))), (b 13, .inl (Z 0, 8, .inl (G 13))), (b 14, .inl (Z 0, 400, .inl (G 14))), (ow, .inl (Z 1, 1, .inr (.inl (X 500)))), (ma 200, .inr (7, [.int (S 200 0), .int (S 201 0), .ref (ma 202), .ref (ma 203), .ref (ma 204), .ref (ma 205), .ref (ma 206), .ref (ma 207), .ref (ma 208), .ref (ma 209), .ref (ma 210), .ref (ma 211), .int (S 212 0), .ref (ma 213), .ref (mg 220)])), (ma 202, .inl (Z 0, 60, .inl (S 202))), (ma 203, .inl (Z 0, 6, .inl (S 203))), (ma 204, .inl (Z 0, 6, .inl (S 204))), (ma 205, .inl (Z 0, 6, .inl (S 205))), (ma 206, .inl (Z 0, 8, .inl (S 206))), (ma 207, .inl (Z 0, 8, .inl (S 207))), (ma 208, .inl (Z 0, 8, .inl (S 208))), (ma 209, .inl (Z 0, 8, .inl (S 209))), (ma 210, .inl (Z 0, 8, .inl (S 210))), (ma 211, .inl (Z 0, 8, .inl (S 211))), (ma 213, .inl (Z 0, 400, .inl (S 213))), (mb 200, .inr (7, [.int (O 200 0), .int (O 201 0), .ref (mb 202), .ref (mb 203), .ref (mb 204), .ref (mb 205), .ref (mb 206), .ref (mb 207), .ref (mb 208), .ref (mb 209), .ref (mb 210), .ref (mb 211), .int (O 212 0), .ref (mb 213), .ref (mg 220)])), (mb 202, .inl (Z 0, 60, .inl (O 202))), (mb 203, .inl (Z 0, 6, .inl (O 203))), (mb 204, .inl (Z 0, 6, .inl (O 204))), (mb 205, .inl (Z 0, 6, .inl (O 205))), (mb 206, .inl (Z 0, 8, .inl (O 206))), (mb 207, .inl (Z 0, 8, .inl (O 207))), (mb 208, .inl (Z 0, 8, .inl (O 208))), (mb 209, .inl (Z 0, 8, .inl (O 209))), (mb 210, .inl (Z 0, 8, .inl (O 210))), (mb 211, .inl (Z 0, 8, .inl (O 211))), (mb 213, .inl (Z 0, 400, .inl (O 213))), (mg 224, .inl (Z 0, 401, .inl (J 224))), (mg 225, .inl (Z 0, 401, .inl (J 225))), (mg 226, .inl (Z 0, 401, .inl (J 226))), (mg 227, .inl (Z 0, 401, .inl (J 227))), (mg 228, .inl (Z 0, 401, .inl (J 228))), (mq 240, .inr (6, [.int (U 240 0), .int (U 241 0), .ref (mq 242), .ref (mq 243), .ref (mq 244), .ref (mq 245), .int (U 246 0), .ref (mq 247), .ref (mq 248), .int (U 249 0), .ref (mq 250), .ref (mq 251), .int (U 252 0), .ref (mq 253), .ref (mq 254), .ref (mq 255), .ref (mq 256), .int (U 257 0), .int (U 258 0), .ref (mq 259), .ref (mq 260), .ref (mq 261), .ref (mq 262), .ref (mq 263), .int (U 264 0), .ref (mq 265), .int (U 266 0)])), (mq 242, .inl (Z 0, 5, .inl (U 242))), (mq 243, .inl (Z 0, 5, .inl (U 243))), (mq 244, .inl (Z 0, 5, .inl (U 244))), (mq 245, .inl (Z 0, 60, .inl (U 245))), (mq 247, .inl (Z 0, 4, .inl (U 247))), (mq 248, .inl (Z 0, 4, .inl (U 248))), (mq 250, .inl (Z 0, 6, .inl (U 250))), (mq 251, .inl (Z 0, 6, .inl (U 251))), (mq 253, .inl (Z 0, 8, .inl (U 253))), (mq 254, .inl (Z 0, 8, .inl (U 254))), (mq 255, .inl (Z 0, 8, .inl (U 255))), (mq 256, .inl (Z 3, 8, .inr (.inr (.inr (.inr (fun j => if j < 8 then some (mq (310 + j)) else none)))))), (mq 259, .inl (Z 0, 16, .inl (U 259))), (mq 260, .inl (Z 0, 16, .inl (U 260))), (mq 261, .inl (Z 0, 17, .inl (U 261))), (mq 262, .inl (Z 0, 17, .inl (U 262))), (mq 263, .inl (Z 0, 800, .inl (U 263))), (mq 265, .inl (Z 0, 400, .inl (U 265))), (mq (310 + 0), .inl (Z 0, 2, .inl (U (310 + 0)))), (mq (310 + 1), .inl (Z 0, 2, .inl (U (310 + 1)))), (mq (310 + 2), .inl (Z 0, 2, .inl (U (310 + 2)))), (mq (310 + 3), .inl (Z 0, 2, .inl (U (310 + 3)))), (mq (310 + 4), .inl (Z 0, 2, .inl (U (310 + 4)))), (mq (310 + 5), .inl (Z 0, 2, .inl (U (310 + 5)))), (mq (310 + 6), .inl (Z 0, 2, .inl (U (310 + 6)))), (mq (310 + 7), .inl (Z 0, 2, .inl (U (310 + 7))))] [104, 105] [0, 1, 2, 3, 4, 5, 6, 7, 8, 9, 10, 11, 12, 13, 14, 15, 16, 17, 18, 19, 20, 21, 22, 23, 24, 25, 26, 27, 28, 29, 30, 31, 32, 33, 34, 35, 36, 37, 38, 39, 40, 41, 42, 43, 44, 45, 46, 47, 48, 49, 50, 51, 52, 53, 54, 55, 56, 57, 58, 59, 60, 61, 62, 63, 64, 65, 66, 67, 68, 69, 70, 71, 72, 73, 74, 75, 76, 77, 78, 79, 80, 81, 82, 83, 84, 85, 86, 87, 88, 89, 90, 91, 92, 93, 94, 95, 96, 97, 98, 99, 100, 101, 102, 103, 106, 107, 108, 109, 110, 111, 112, 113, 114, 115, 116, 117, 118, 119, 120, 121, 122, 123, 124, 125, 126, 127, 128, 129, 130, 131, 132, 133, 134, 135, 136, 137] [0, 1, 2, 3, 4, 5, 6, 7, 8, 9, 10, 11, 12, 13, 14, 15, 16, 17, 18, 19, 20, 21, 22, 23, 24, 25, 26, 27, 28, 29, 30, 31, 32, 33, 34, 35, 36, 37, 38, 39, 40, 41, 42, 43, 44, 45, 46, 47, 48, 49, 50, 51, 52, 53, 54, 55, 56, 57, 58, 59, 60, 61, 62, 63, 64, 65, 66, 67, 68, 69, 70, 71, 72, 73, 74, 75, 76, 77, 78, 79, 80, 81, 82, 83, 84, 85, 86, 87, 88, 89, 90, 91, 92, 93, 94, 95, 96, 97, 98, 99, 100, 101, 102, 103, 136, 137, 104, 105, 106, 107, 108, 109, 110, 111, 112, 113, 114, 115, 116, 117, 118, 119, 120, 121, 122, 123, 124, 125, 126, 127, 128, 129, 130, 131, 132, 133, 134, 135] (fun u : M2 × M2 => (LW Z a t b q q2 ow ma mb mq mg mr ap bp rp C T G P Y L B X S O u.1 u.2 J U)) := ⟨rfl, rfl, rfl, by decide, rfl, fun _ => rfl⟩
set_option maxRecDepth 100000 in
theorem sx_CQLW (Z : Nat → ClassId) (a t b q q2 : Nat → Nat) (ow : Nat) (ma mb mq mg : Nat → Nat) (mr : Nat) (ap : Nat) (bp : Nat) (rp : Nat) (C : M2) (T : M2) (G : M2) (P : M2) (Y : M2) (L : L2) (B : M2) (X : L2) (S : M2) (O : M2) (N : M2) (V : M2) (J : M2) (U : M2) : ([55, 56, 57, 58, 59, 60, 61, 62, 63, 64, 65, 66, 34, 35, 36, 37, 38, 39, 40, 41, 42, 43, 44, 45, 46, 47, 48, 49, 50, 51, 52, 53, 54, 0] : List Nat).map (fun i => (LW Z a t b q q2 ow ma mb mq mg mr ap bp rp C T G P Y L B X S O N V J U)[i]?) = (CQ Z t q (a 90) (a 80) (a 60) (q2 20) (b 0) P T C).map some := rfl
set_option maxRecDepth 100000 in
theorem cx_CQLW (Z : Nat → ClassId) (a t b q q2 : Nat → Nat) (ow : Nat) (ma mb mq mg : Nat → Nat) (mr : Nat) (ap : Nat) (bp : Nat) (rp : Nat) (C : M2) (T : M2) (G : M2) (P : M2) (Y : M2) (L : L2) (B : M2) (X : L2) (S : M2) (O : M2) (N : M2) (V : M2) (J : M2) (U : M2) : Cut (LW Z a t b q q2 ow ma mb mq mg mr ap bp rp C T G P Y L B X S O N V J U) (fun u : M2 × M2 => CQ Z t q (a 90) (a 80) (a 60) (q2 20) (b 0) P u.1 u.2) (T, C) [(a 80, .inl (Z 2, 2000, .inl (B 80))), (a 60, .inr (2, [.ref (a 70), .ref (a 61), .ref (a 62), .ref (a 63), .ref (a 64), .ref rp, .int (Y 66 0), .int (Y 67 0), .int (Y 68 0), .int (Y 69 0)])), (a 61, .inl (Z 1, 5, .inr (.inl (L 61)))), (a 62, .inl (Z 1, 4, .inr (.inl (L 62)))), (a 63, .inl (Z 1, 6, .inr (.inl (L 63)))), (a 64, .inl (Z 1, 8, .inr (.inl (L 64)))), (a 70, .inr (3, [.ref (a 71), .ref (a 72), .int (Y 73 0), .ref (a 74), .ref (a 75), .ref (a 76), .ref bp, .int (Y 78 0)])), (a 71, .inl (Z 1, 40, .inr (.inl (L 71)))), (a 72, .inl (Z 0, 40, .inl (Y 72))), (a 74, .inl (Z 0, 401, .inl (Y 74))), (a 75, .inl (Z 0, 401, .inl (Y 75))), (a 76, .inl (Z 1, 401, .inr (.inl (L 76)))), (q2 20, .inr (1, [.int (Y 20 0), .int (Y 21 0), .int (Y 22 0), .int (Y 23 0), .int (Y 24 0), .ref (q2 25), .ref (q2 26), .ref (q2 27), .ref (q2 28), .ref (q2 29), .ref (q2 30), .ref (q2 31), .ref (q2 32), .ref (q2 33), .ref (q2 34), .ref (q2 35), .ref (q2 36), .ref (q2 37), .ref (q2 40)])), (q2 25, .inl (Z 0, 5, .inl (Y 25))), (q2 26, .inl (Z 0, 5, .inl (Y 26))), (q2 27, .inl (Z 0, 5, .inl (Y 27))), (q2 28, .inl (Z 0, 60, .inl (Y 28))), (q2 29, .inl (Z 0, 4, .inl (Y 29))), (q2 30, .inl (Z 0, 4, .inl (Y 30))), (q2 31, .inl (Z 0, 6, .inl (Y 31))), (q2 32, .inl (Z 0, 6, .inl (Y 32))), (q2 33, .inl (Z 0, 8, .inl (Y 33))), (q2 34, .inl (Z 0, 8, .inl (Y 34))), (q2 35, .inl (Z 0, 8, .inl (Y 35))), (q2 36, .inl (Z 0, 8, .inl (Y 36))), (q2 37, .inl (Z 0, 8, .inl (Y 37))), (q2 40, .inr (0, [.int (Y 40 0), .ref (q2 41), .ref (q2 42), .ref (q2 43), .ref (q2 44), .int (Y 45 0), .ref (q2 46), .ref (q2 47)])), (q2 41, .inl (Z 0, 16, .inl (Y 41))), (q2 42, .inl (Z 0, 16, .inl (Y 42))), (q2 43, .inl (Z 0, 16, .inl (Y 43))), (q2 44, .inl (Z 0, 16, .inl (Y 44))), (q2 46, .inl (Z 0, 400, .inl (Y 46))), (q2 47, .inl (Z 0, 400, .inl (Y 47))), (b 0, .inr (4, [.ref ap, .int (G 1 0), .int (G 2 0), .int (G 3 0), .ref (b 4), .ref (b 5), .ref (b 6), .ref (b 7), .ref (b 8), .ref (b 9), .ref (b 10), .ref (b 11), .ref (b 12), .ref (b 13), .ref (b 14)])), (b 4, .inl (Z 0, 60, .inl (G 4))), (b 5, .inl (Z 0, 6, .inl (G 5))), (b 6, .inl (Z 0, 6, .inl (G 6))), (b 7, .inl (Z 0, 6, .inl (G 7))), (b 8, .inl (Z 0, 8, .inl (G 8))), (b 9, .inl (Z 0, 8, .inl (G 9))), (b 10, .inl (Z 0, 8, .inl (G 10))), (b 11, .inl (Z 0, 8, .inl (G 11))), (b 12, .inl (Z 0, 8, .inl (G 12))), (b 13, .inl (Z 0, 8, .inl (G 13))), (b 14, .inl (Z 0, 400, .inl (G 14))), (ow, .inl (Z 1, 1, .inr (.inl (X 500)))), (ma 200, .inr (7, [.int (S 200 0), .int (S 201 0), .ref (ma 202), .ref (ma 203), .ref (ma 204), .ref (ma 205), .ref (ma 206), .ref (ma 207), .ref (ma 208), .ref (ma 209), .ref (ma 210), .ref (ma 211), .int (S 212 0), .ref (ma 213), .ref (mg 220)])), (ma 202, .inl (Z 0, 60, .inl (S 202))), (ma 203, .inl (Z 0, 6, .inl (S 203))), (ma 204, .inl (Z 0, 6, .inl (S 204))), (ma 205, .inl (Z 0, 6, .inl (S 205))), (ma 206, .inl (Z 0, 8, .inl (S 206))), (ma 207, .inl (Z 0, 8, .inl (S 207))), (ma 208, .inl (Z 0, 8, .inl (S 208))), (ma 209, .inl (Z 0, 8, .inl (S 209))), (ma 210, .inl (Z 0, 8, .inl (S 210))), (ma 211, .inl (Z 0, 8, .inl (S 211))), (ma 213, .inl (Z 0, 400, .inl (S 213))), (mb 200, .inr (7, [.int (O 200 0), .int (O 201 0), .ref (mb 202), .ref (mb 203), .ref (mb 204), .ref (mb 205), .ref (mb 206), .ref (mb 207), .ref (mb 208), .ref (mb 209), .ref (mb 210), .ref (mb 211), .int (O 212 0), .ref (mb 213), .ref (mg 220)])), (mb 202, .inl (Z 0, 60, .inl (O 202))), (mb 203, .inl (Z 0, 6, .inl (O 203))), (mb 204, .inl (Z 0, 6, .inl (O 204))), (mb 205, .inl (Z 0, 6, .inl (O 205))), (mb 206, .inl (Z 0, 8, .inl (O 206))), (mb 207, .inl (Z 0, 8, .inl (O 207))), (mb 208, .inl (Z 0, 8, .inl (O 208))), (mb 209, .inl (Z 0, 8, .inl (O 209))), (mb 210, .inl (Z 0, 8, .inl (O 210))), (mb 211, .inl (Z 0, 8, .inl (O 211))), (mb 213, .inl (Z 0, 400, .inl (O 213))), (mg 220, .inr (8, [.int (N 220 0), .ref (mg 221), .int (N 222 0), .int (N 223 0), .ref (mg 224), .ref (mg 225), .ref (mg 226), .ref (mg 227), .ref (mg 228), .int (N 229 0), .int (N 230 0), .ref (mq 240), .ref mr, .ref (ma 200), .ref (mb 200)])), (mg 221, .inl (Z 0, 2000, .inl (V 221))), (mg 224, .inl (Z 0, 401, .inl (J 224))), (mg 225, .inl (Z 0, 401, .inl (J 225))), (mg 226, .inl (Z 0, 401, .inl (J 226))), (mg 227, .inl (Z 0, 401, .inl (J 227))), (mg 228, .inl (Z 0, 401, .inl (J 228))), (mq 240, .inr (6, [.int (U 240 0), .int (U 241 0), .ref (mq 242), .ref (mq 243), .ref (mq 244), .ref (mq 245), .int (U 246 0), .ref (mq 247), .ref (mq 248), .int (U 249 0), .ref (mq 250), .ref (mq 251), .int (U 252 0), .ref (mq 253), .ref (mq 254), .ref (mq 255), .ref (mq 256), .int (U 257 0), .int (U 258 0), .ref (mq 259), .ref (mq 260), .ref (mq 261), .ref (mq 262), .ref (mq 263), .int (U 264 0), .ref (mq 265), .int (U 266 0)])), (mq 242, .inl (Z 0, 5, .inl (U 242))), (mq 243, .inl (Z 0, 5, .inl (U 243))), (mq 244, .inl (Z 0, 5, .inl (U 244))), (mq 245, .inl (Z 0, 60, .inl (U 245))), (mq 247, .inl (Z 0, 4, .inl (U 247))), (mq 248, .inl (Z 0, 4, .inl (U 248))), (mq 250, .inl (Z 0, 6, .inl (U 250))), (mq 251, .inl (Z 0, 6, .inl (U 251))), (mq 253, .inl (Z 0, 8, .inl (U 253))), (mq 254, .inl (Z 0, 8, .inl (U 254))), (mq 255, .inl (Z 0, 8, .inl (U 255))), (mq 256, .inl (Z 3, 8, .inr (.inr (.inr (.inr (fun j => if j < 8 then some (mq (310 + j)) else none)))))), (mq 259, .inl (Z 0, 16, .inl (U 259))), (mq 260, .inl (Z 0, 16, .inl (U 260))), (mq 261, .inl (Z 0, 17, .inl (U 261))), (mq 262, .inl (Z 0, 17, .inl (U 262))), (mq 263, .inl (Z 0, 800, .inl (U 263))), (mq 265, .inl (Z 0, 400, .inl (U 265))), (mq (310 + 0), .inl (Z 0, 2, .inl (U (310 + 0)))), (mq (310 + 1), .inl (Z 0, 2, .inl (U (310 + 1)))), (mq (310 + 2), .inl (Z 0, 2, .inl (U (310 + 2)))), (mq (310 + 3), .inl (Z 0, 2, .inl (U (310 + 3)))), (mq (310 + 4), .inl (Z 0, 2, .inl (U (310 + 4)))), (mq (310 + 5), .inl (Z 0, 2, .inl (U (310 + 5)))), (mq (310 + 6), .inl (Z 0, 2, .inl (U (310 + 6)))), (mq (310 + 7), .inl (Z 0, 2, .inl (U (310 + 7))))] [55, 56, 57, 58, 59, 60, 61, 62, 63, 64, 65, 66, 34, 35, 36, 37, 38, 39, 40, 41, 42, 43, 44, 45, 46, 47, 48, 49, 50, 51, 52, 53, 54, 0] [1, 2, 3, 4, 5, 6, 7, 8, 9, 10, 11, 12, 13, 14, 15, 16, 17, 18, 19, 20, 21, 22, 23, 24, 25, 26, 27, 28, 29, 30, 31, 32, 33, 67, 68, 69, 70, 71, 72, 73, 74, 75, 76, 77, 78, 79, 80, 81, 82, 83, 84, 85, 86, 87, 88, 89, 90, 91, 92, 93, 94, 95, 96, 97, 98, 99, 100, 101, 102, 103, 104, 105, 106, 107, 108, 109, 110, 111, 112, 113, 114, 115, 116, 117, 118, 119, 120, 121, 122, 123, 124, 125, 126, 127, 128, 129, 130, 131, 132, 133, 134, 135, 136, 137] [137, 0, 1, 2, 3, 4, 5, 6, 7, 8, 9, 10, 11, 12, 13, 14, 15, 16, 17, 18, 19, 20, 21, 22, 23, 24, 25, 26, 27, 28, 29, 30, 31, 32, 116, 117, 118, 119, 120, 121, 122, 123, 124, 125, 126, 127, 128, 129, 130, 131, 132, 133, 134, 135, 136, 104, 105, 106, 107, 108, 109, 110, 111, 112, 113, 114, 115, 33, 34, 35, 36, 37, 38, 39, 40, 41, 42, 43, 44, 45, 46, 47, 48, 49, 50, 51, 52, 53, 54, 55, 56, 57, 58, 59, 60, 61, 62, 63, 64, 65, 66, 67, 68, 69, 70, 71, 72, 73, 74, 75, 76, 77, 78, 79, 80, 81, 82, 83, 84, 85, 86, 87, 88, 89, 90, 91, 92, 93, 94, 95, 96, 97, 98, 99, 100, 101, 102, 103] (fun u : M2 × M2 => (LW Z a t b q q2 ow ma mb mq mg mr ap bp rp u.2 u.1 G P Y L B X S O N V J U)) := ⟨rfl, rfl, rfl, by decide, rfl, fun _ => rfl⟩
section LX8_thrown0x
variable {p : Program} {l : Launch} {e : Env} {s : State} {m : MethodId} {args : Array Value} {below : List Frame} {meth : Method} {c : Code} {H H0 : Heap} {locs : List Loc} {cells slots : Nat} {Q : State → Prop} {R : Room} {rn mcR msR : Nat}
variable {pc : Nat} {ls : Array Slot} {rest : List Value} {A : Nat → Prop} {D : va_G}
variable {cc : ByteArray} {nL index : Nat} {own host : String}
theorem kx_X8_thrown {Z : Nat → ClassId} {a q g : Nat → Nat} {rg aa : Nat} {P : M2} {S : M2} {N : M2} {K : Int32 → Prop} {ws : va_W} {isC : List Nat} (hC : CallFix p m c cc nL s args lw_g own) (hN : NW s) (hK : va_K D vwCl (tysG Z) s) (hP : va_P D vwCl ws H) (hD : va_D (fun _ => True) ws) (hs : isC.map (fun i => ws[i]?) = (QW Z a q g rg aa P S N).map some) (hnd : va_nd isC = true) (hm : wp_X8_thrown P S N K) (hl : Cond.methodLink own index yX8_thrown ∈ lw_g) (hlt : 1 < rn) (hsize : ls.size = nL) (hW : (rest.map fun v => v.category).sum ≤ 8) (hf : cells + 0 ≤ mcR ∧ slots + 0 ≤ msR) (hdg : decode cc pc = .ok (.invokevirtual index, 3)) (kk : ∀ r : Int32, K r → W p l e (rk rn mcR msR) s m args below meth c H locs cells slots Q (F0 m (pc + 3) ls (.int r :: rest))) : W p l e (rk rn mcR msR) s m args below meth c H locs cells slots Q (F0 m pc ls (.ref (g 220) :: rest)) :=
  ro_go (runV (As := []) hC hN (c_X8_thrown l D Z a q g rg aa P S N H.size K hm) mi_X8_thrown hl wq_1467 wq_1468 hlt (hP.sub isC (map_fm hs)) (hD.sub isC hnd hs) hK (q0 := 12) rfl rfl rfl hsize rfl hW hdg hf) kk
end LX8_thrown0x
section LX8_bore0x
variable {p : Program} {l : Launch} {e : Env} {s : State} {m : MethodId} {args : Array Value} {below : List Frame} {meth : Method} {c : Code} {H H0 : Heap} {locs : List Loc} {cells slots : Nat} {Q : State → Prop} {R : Room} {rn mcR msR : Nat}
variable {pc : Nat} {ls : Array Slot} {rest : List Value} {A : Nat → Prop} {D : va_G}
variable {cc : ByteArray} {nL index : Nat} {own host : String}
theorem kx_X8_bore {Z : Nat → ClassId} {a q g : Nat → Nat} {rg aa : Nat} {P : M2} {S : M2} {N : M2} {x1 : Int32} {x2 : Int32} {K : Int32 → M2 → M2 → Prop} {ws wr : va_W} {isC isR pm : List Nat} {ws' : M2 × M2 → va_W} (hC : CallFix p m c cc nL s args lw_g own) (hN : NW s) (hK : va_K D vwCl (tysG Z) s) (hT : TS vwCl D ws A H0 H locs) (hc : Cut ws (fun u : M2 × M2 => QW Z a q g rg aa P u.1 u.2) (S, N) wr isC isR pm ws') (hnd : va_nd isC = true) (hm : wp_X8_bore P S N x1 x2 K) (hl : Cond.methodLink own index yX8_bore ∈ lw_g) (hlt : 3 < rn) (hsize : ls.size = nL) (hW : (rest.map fun v => v.category).sum ≤ 8) (hf : cells + 0 ≤ mcR ∧ slots + 0 ≤ msR) (hdg : decode cc pc = .ok (.invokevirtual index, 3)) (kk : ∀ (r : Int32) (S1 : M2) (N1 : M2) (H1 : Heap) (locs1 : List Loc), K r S1 N1 → TS vwCl D (ws' (S1, N1)) A H0 H1 locs1 → W p l e (rk rn mcR msR) s m args below meth c H1 locs1 cells slots Q (F0 m (pc + 3) ls (.int r :: rest))) : W p l e (rk rn mcR msR) s m args below meth c H locs cells slots Q (F0 m pc ls (.int x2 :: .int x1 :: .ref (g 220) :: rest)) :=
  rw_go (wsF := (fun u : M2 × M2 => QW Z a q g rg aa P u.1 u.2)) (u0 := (S, N)) (wr := wr) (isC := isC) (isR := isR) (pm := pm) (ws' := ws') (runV (As := [.int x1, .int x2]) hC hN (c_X8_bore l D Z a q g rg aa P S N H.size x1 x2 K hm) mi_X8_bore hl wq_1758 wq_1759 hlt (hT.1.sub isC (map_fm hc.1)) (hT.D'.sub isC hnd hc.1) hK (q0 := 12) rfl rfl rfl hsize rfl hW hdg hf) hc hT (fun r u H1 locs1 hk hT1 => kk r u.1 u.2 H1 locs1 hk hT1)
end LX8_bore0x
section LX8_trim0x
variable {p : Program} {l : Launch} {e : Env} {s : State} {m : MethodId} {args : Array Value} {below : List Frame} {meth : Method} {c : Code} {H H0 : Heap} {locs : List Loc} {cells slots : Nat} {Q : State → Prop} {R : Room} {rn mcR msR : Nat}
variable {pc : Nat} {ls : Array Slot} {rest : List Value} {A : Nat → Prop} {D : va_G}
variable {cc : ByteArray} {nL index : Nat} {own host : String}
theorem kx_X8_trim {Z : Nat → ClassId} {a q g : Nat → Nat} {rg aa : Nat} {P : M2} {S : M2} {N : M2} {x1 : Int32} {K : Int32 → M2 → M2 → Prop} {ws wr : va_W} {isC isR pm : List Nat} {ws' : M2 × M2 → va_W} (hC : CallFix p m c cc nL s args lw_g own) (hN : NW s) (hK : va_K D vwCl (tysG Z) s) (hT : TS vwCl D ws A H0 H locs) (hc : Cut ws (fun u : M2 × M2 => QW Z a q g rg aa P u.1 u.2) (S, N) wr isC isR pm ws') (hnd : va_nd isC = true) (hm : wp_X8_trim P S N x1 K) (hl : Cond.methodLink own index yX8_trim ∈ lw_g) (hlt : 2 < rn) (hsize : ls.size = nL) (hW : (rest.map fun v => v.category).sum ≤ 8) (hf : cells + 0 ≤ mcR ∧ slots + 0 ≤ msR) (hdg : decode cc pc = .ok (.invokevirtual index, 3)) (kk : ∀ (r : Int32) (S1 : M2) (N1 : M2) (H1 : Heap) (locs1 : List Loc), K r S1 N1 → TS vwCl D (ws' (S1, N1)) A H0 H1 locs1 → W p l e (rk rn mcR msR) s m args below meth c H1 locs1 cells slots Q (F0 m (pc + 3) ls (.int r :: rest))) : W p l e (rk rn mcR msR) s m args below meth c H locs cells slots Q (F0 m pc ls (.int x1 :: .ref (g 220) :: rest)) :=
  rw_go (wsF := (fun u : M2 × M2 => QW Z a q g rg aa P u.1 u.2)) (u0 := (S, N)) (wr := wr) (isC := isC) (isR := isR) (pm := pm) (ws' := ws') (runV (As := [.int x1]) hC hN (c_X8_trim l D Z a q g rg aa P S N H.size x1 K hm) mi_X8_trim hl wq_1479 wq_1480 hlt (hT.1.sub isC (map_fm hc.1)) (hT.D'.sub isC hnd hc.1) hK (q0 := 12) rfl rfl rfl hsize rfl hW hdg hf) hc hT (fun r u H1 locs1 hk hT1 => kk r u.1 u.2 H1 locs1 hk hT1)
end LX8_trim0x
section LX8_errorAt0x
variable {p : Program} {l : Launch} {e : Env} {s : State} {m : MethodId} {args : Array Value} {below : List Frame} {meth : Method} {c : Code} {H H0 : Heap} {locs : List Loc} {cells slots : Nat} {Q : State → Prop} {R : Room} {rn mcR msR : Nat}
variable {pc : Nat} {ls : Array Slot} {rest : List Value} {A : Nat → Prop} {D : va_G}
variable {cc : ByteArray} {nL index : Nat} {own host : String}
theorem kx_X8_errorAt {Z : Nat → ClassId} {a q g : Nat → Nat} {rg aa : Nat} {P : M2} {S : M2} {N : M2} {K : Int32 → M2 → M2 → Prop} {ws wr : va_W} {isC isR pm : List Nat} {ws' : M2 × M2 → va_W} (hC : CallFix p m c cc nL s args lw_g own) (hN : NW s) (hK : va_K D vwCl (tysG Z) s) (hT : TS vwCl D ws A H0 H locs) (hc : Cut ws (fun u : M2 × M2 => QW Z a q g rg aa P u.1 u.2) (S, N) wr isC isR pm ws') (hnd : va_nd isC = true) (hm : wp_X8_errorAt P S N K) (hl : Cond.methodLink own index yX8_errorAt ∈ lw_g) (hlt : 1 < rn) (hsize : ls.size = nL) (hW : (rest.map fun v => v.category).sum ≤ 8) (hf : cells + 0 ≤ mcR ∧ slots + 0 ≤ msR) (hdg : decode cc pc = .ok (.invokevirtual index, 3)) (kk : ∀ (r : Int32) (S1 : M2) (N1 : M2) (H1 : Heap) (locs1 : List Loc), K r S1 N1 → TS vwCl D (ws' (S1, N1)) A H0 H1 locs1 → W p l e (rk rn mcR msR) s m args below meth c H1 locs1 cells slots Q (F0 m (pc + 3) ls (.int r :: rest))) : W p l e (rk rn mcR msR) s m args below meth c H locs cells slots Q (F0 m pc ls (.ref (g 220) :: rest)) :=
  rw_go (wsF := (fun u : M2 × M2 => QW Z a q g rg aa P u.1 u.2)) (u0 := (S, N)) (wr := wr) (isC := isC) (isR := isR) (pm := pm) (ws' := ws') (runV (As := []) hC hN (c_X8_errorAt l D Z a q g rg aa P S N H.size K hm) mi_X8_errorAt hl wq_1713 wq_1714 hlt (hT.1.sub isC (map_fm hc.1)) (hT.D'.sub isC hnd hc.1) hK (q0 := 12) rfl rfl rfl hsize rfl hW hdg hf) hc hT (fun r u H1 locs1 hk hT1 => kk r u.1 u.2 H1 locs1 hk hT1)
end LX8_errorAt0x
section LX8_place0x
variable {p : Program} {l : Launch} {e : Env} {s : State} {m : MethodId} {args : Array Value} {below : List Frame} {meth : Method} {c : Code} {H H0 : Heap} {locs : List Loc} {cells slots : Nat} {Q : State → Prop} {R : Room} {rn mcR msR : Nat}
variable {pc : Nat} {ls : Array Slot} {rest : List Value} {A : Nat → Prop} {D : va_G}
variable {cc : ByteArray} {nL index : Nat} {own host : String}
theorem kx_X8_place {Z : Nat → ClassId} {a q g : Nat → Nat} {rg aa : Nat} {P : M2} {S : M2} {N : M2} {x1 : Int32} {x2 : Int32} {K : Int32 → M2 → M2 → Prop} {ws wr : va_W} {isC isR pm : List Nat} {ws' : M2 × M2 → va_W} (hC : CallFix p m c cc nL s args lw_g own) (hN : NW s) (hK : va_K D vwCl (tysG Z) s) (hT : TS vwCl D ws A H0 H locs) (hc : Cut ws (fun u : M2 × M2 => QW Z a q g rg aa P u.1 u.2) (S, N) wr isC isR pm ws') (hnd : va_nd isC = true) (hm : wp_X8_place P S N x1 x2 K) (hl : Cond.methodLink own index yX8_place ∈ lw_g) (hlt : 3 < rn) (hsize : ls.size = nL) (hW : (rest.map fun v => v.category).sum ≤ 8) (hf : cells + 0 ≤ mcR ∧ slots + 0 ≤ msR) (hdg : decode cc pc = .ok (.invokevirtual index, 3)) (kk : ∀ (r : Int32) (S1 : M2) (N1 : M2) (H1 : Heap) (locs1 : List Loc), K r S1 N1 → TS vwCl D (ws' (S1, N1)) A H0 H1 locs1 → W p l e (rk rn mcR msR) s m args below meth c H1 locs1 cells slots Q (F0 m (pc + 3) ls (.int r :: rest))) : W p l e (rk rn mcR msR) s m args below meth c H locs cells slots Q (F0 m pc ls (.int x2 :: .int x1 :: .ref (g 220) :: rest)) :=
  rw_go (wsF := (fun u : M2 × M2 => QW Z a q g rg aa P u.1 u.2)) (u0 := (S, N)) (wr := wr) (isC := isC) (isR := isR) (pm := pm) (ws' := ws') (runV (As := [.int x1, .int x2]) hC hN (c_X8_place l D Z a q g rg aa P S N H.size x1 x2 K hm) mi_X8_place hl wq_1741 wq_1742 hlt (hT.1.sub isC (map_fm hc.1)) (hT.D'.sub isC hnd hc.1) hK (q0 := 12) rfl rfl rfl hsize rfl hW hdg hf) hc hT (fun r u H1 locs1 hk hT1 => kk r u.1 u.2 H1 locs1 hk hT1)
end LX8_place0x
section LX8_crew0x
variable {p : Program} {l : Launch} {e : Env} {s : State} {m : MethodId} {args : Array Value} {below : List Frame} {meth : Method} {c : Code} {H H0 : Heap} {locs : List Loc} {cells slots : Nat} {Q : State → Prop} {R : Room} {rn mcR msR : Nat}
variable {pc : Nat} {ls : Array Slot} {rest : List Value} {A : Nat → Prop} {D : va_G}
variable {cc : ByteArray} {nL index : Nat} {own host : String}
theorem kx_X8_crew {Z : Nat → ClassId} {a q g : Nat → Nat} {rg aa : Nat} {P : M2} {S : M2} {N : M2} {x1 : Int32} {x2 : Int32} {K : Int32 → M2 → M2 → Prop} {ws wr : va_W} {isC isR pm : List Nat} {ws' : M2 × M2 → va_W} (hC : CallFix p m c cc nL s args lw_g own) (hN : NW s) (hK : va_K D vwCl (tysG Z) s) (hT : TS vwCl D ws A H0 H locs) (hc : Cut ws (fun u : M2 × M2 => QW Z a q g rg aa P u.1 u.2) (S, N) wr isC isR pm ws') (hnd : va_nd isC = true) (hm : wp_X8_crew P S N x1 x2 K) (hl : Cond.methodLink own index yX8_crew ∈ lw_g) (hlt : 3 < rn) (hsize : ls.size = nL) (hW : (rest.map fun v => v.category).sum ≤ 8) (hf : cells + 0 ≤ mcR ∧ slots + 0 ≤ msR) (hdg : decode cc pc = .ok (.invokevirtual index, 3)) (kk : ∀ (r : Int32) (S1 : M2) (N1 : M2) (H1 : Heap) (locs1 : List Loc), K r S1 N1 → TS vwCl D (ws' (S1, N1)) A H0 H1 locs1 → W p l e (rk rn mcR msR) s m args below meth c H1 locs1 cells slots Q (F0 m (pc + 3) ls (.int r :: rest))) : W p l e (rk rn mcR msR) s m args below meth c H locs cells slots Q (F0 m pc ls (.int x2 :: .int x1 :: .ref (g 220) :: rest)) :=
  rw_go (wsF := (fun u : M2 × M2 => QW Z a q g rg aa P u.1 u.2)) (u0 := (S, N)) (wr := wr) (isC := isC) (isR := isR) (pm := pm) (ws' := ws') (runV (As := [.int x1, .int x2]) hC hN (c_X8_crew l D Z a q g rg aa P S N H.size x1 x2 K hm) mi_X8_crew hl wq_1798 wq_1799 hlt (hT.1.sub isC (map_fm hc.1)) (hT.D'.sub isC hnd hc.1) hK (q0 := 12) rfl rfl rfl hsize rfl hW hdg hf) hc hT (fun r u H1 locs1 hk hT1 => kk r u.1 u.2 H1 locs1 hk hT1)
end LX8_crew0x
section LX8_canEnter0x
variable {p : Program} {l : Launch} {e : Env} {s : State} {m : MethodId} {args : Array Value} {below : List Frame} {meth : Method} {c : Code} {H H0 : Heap} {locs : List Loc} {cells slots : Nat} {Q : State → Prop} {R : Room} {rn mcR msR : Nat}
variable {pc : Nat} {ls : Array Slot} {rest : List Value} {A : Nat → Prop} {D : va_G}
variable {cc : ByteArray} {nL index : Nat} {own host : String}
theorem kx_X8_canEnter {Z : Nat → ClassId} {a q g : Nat → Nat} {rg aa : Nat} {P : M2} {S : M2} {N : M2} {x1 : Int32} {K : Int32 → M2 → M2 → Prop} {ws wr : va_W} {isC isR pm : List Nat} {ws' : M2 × M2 → va_W} (hC : CallFix p m c cc nL s args lw_g own) (hN : NW s) (hK : va_K D vwCl (tysG Z) s) (hT : TS vwCl D ws A H0 H locs) (hc : Cut ws (fun u : M2 × M2 => QW Z a q g rg aa P u.1 u.2) (S, N) wr isC isR pm ws') (hnd : va_nd isC = true) (hm : wp_X8_canEnter P S N x1 K) (hl : Cond.methodLink own index yX8_canEnter ∈ lw_g) (hlt : 8 < rn) (hsize : ls.size = nL) (hW : (rest.map fun v => v.category).sum ≤ 8) (hf : cells + 0 ≤ mcR ∧ slots + 0 ≤ msR) (hdg : decode cc pc = .ok (.invokevirtual index, 3)) (kk : ∀ (r : Int32) (S1 : M2) (N1 : M2) (H1 : Heap) (locs1 : List Loc), K r S1 N1 → TS vwCl D (ws' (S1, N1)) A H0 H1 locs1 → W p l e (rk rn mcR msR) s m args below meth c H1 locs1 cells slots Q (F0 m (pc + 3) ls (.int r :: rest))) : W p l e (rk rn mcR msR) s m args below meth c H locs cells slots Q (F0 m pc ls (.int x1 :: .ref (g 220) :: rest)) :=
  rw_go (wsF := (fun u : M2 × M2 => QW Z a q g rg aa P u.1 u.2)) (u0 := (S, N)) (wr := wr) (isC := isC) (isR := isR) (pm := pm) (ws' := ws') (runV (As := [.int x1]) hC hN (c_X8_canEnter l D Z a q g rg aa P S N H.size x1 K hm) mi_X8_canEnter hl wq_1802 wq_1803 hlt (hT.1.sub isC (map_fm hc.1)) (hT.D'.sub isC hnd hc.1) hK (q0 := 12) rfl rfl rfl hsize rfl hW hdg hf) hc hT (fun r u H1 locs1 hk hT1 => kk r u.1 u.2 H1 locs1 hk hT1)
end LX8_canEnter0x
section LX8_worst0x
variable {p : Program} {l : Launch} {e : Env} {s : State} {m : MethodId} {args : Array Value} {below : List Frame} {meth : Method} {c : Code} {H H0 : Heap} {locs : List Loc} {cells slots : Nat} {Q : State → Prop} {R : Room} {rn mcR msR : Nat}
variable {pc : Nat} {ls : Array Slot} {rest : List Value} {A : Nat → Prop} {D : va_G}
variable {cc : ByteArray} {nL index : Nat} {own host : String}
theorem kx_X8_worst {Z : Nat → ClassId} {a q g : Nat → Nat} {rg aa : Nat} {P : M2} {S : M2} {N : M2} {K : Int32 → M2 → M2 → Prop} {ws wr : va_W} {isC isR pm : List Nat} {ws' : M2 × M2 → va_W} (hC : CallFix p m c cc nL s args lw_g own) (hN : NW s) (hK : va_K D vwCl (tysG Z) s) (hT : TS vwCl D ws A H0 H locs) (hc : Cut ws (fun u : M2 × M2 => QW Z a q g rg aa P u.1 u.2) (S, N) wr isC isR pm ws') (hnd : va_nd isC = true) (hm : wp_X8_worst P S N K) (hl : Cond.methodLink own index yX8_worst ∈ lw_g) (hlt : 1 < rn) (hsize : ls.size = nL) (hW : (rest.map fun v => v.category).sum ≤ 8) (hf : cells + 0 ≤ mcR ∧ slots + 0 ≤ msR) (hdg : decode cc pc = .ok (.invokevirtual index, 3)) (kk : ∀ (r : Int32) (S1 : M2) (N1 : M2) (H1 : Heap) (locs1 : List Loc), K r S1 N1 → TS vwCl D (ws' (S1, N1)) A H0 H1 locs1 → W p l e (rk rn mcR msR) s m args below meth c H1 locs1 cells slots Q (F0 m (pc + 3) ls (.int r :: rest))) : W p l e (rk rn mcR msR) s m args below meth c H locs cells slots Q (F0 m pc ls (.ref (g 220) :: rest)) :=
  rw_go (wsF := (fun u : M2 × M2 => QW Z a q g rg aa P u.1 u.2)) (u0 := (S, N)) (wr := wr) (isC := isC) (isR := isR) (pm := pm) (ws' := ws') (runV (As := []) hC hN (c_X8_worst l D Z a q g rg aa P S N H.size K hm) mi_X8_worst hl wq_1851 wq_1852 hlt (hT.1.sub isC (map_fm hc.1)) (hT.D'.sub isC hnd hc.1) hK (q0 := 12) rfl rfl rfl hsize rfl hW hdg hf) hc hT (fun r u H1 locs1 hk hT1 => kk r u.1 u.2 H1 locs1 hk hT1)
end LX8_worst0x
section LX8_whistle0x
variable {p : Program} {l : Launch} {e : Env} {s : State} {m : MethodId} {args : Array Value} {below : List Frame} {meth : Method} {c : Code} {H H0 : Heap} {locs : List Loc} {cells slots : Nat} {Q : State → Prop} {R : Room} {rn mcR msR : Nat}
variable {pc : Nat} {ls : Array Slot} {rest : List Value} {A : Nat → Prop} {D : va_G}
variable {cc : ByteArray} {nL index : Nat} {own host : String}
theorem kx_X8_whistle {Z : Nat → ClassId} {a q g : Nat → Nat} {rg aa : Nat} {P : M2} {S : M2} {N : M2} {x1 : Int32} {K : Int32 → M2 → M2 → Prop} {ws wr : va_W} {isC isR pm : List Nat} {ws' : M2 × M2 → va_W} (hC : CallFix p m c cc nL s args lw_g own) (hN : NW s) (hK : va_K D vwCl (tysG Z) s) (hT : TS vwCl D ws A H0 H locs) (hc : Cut ws (fun u : M2 × M2 => QW Z a q g rg aa P u.1 u.2) (S, N) wr isC isR pm ws') (hnd : va_nd isC = true) (hm : wp_X8_whistle P S N x1 K) (hl : Cond.methodLink own index yX8_whistle ∈ lw_g) (hlt : 2 < rn) (hsize : ls.size = nL) (hW : (rest.map fun v => v.category).sum ≤ 8) (hf : cells + 0 ≤ mcR ∧ slots + 0 ≤ msR) (hdg : decode cc pc = .ok (.invokevirtual index, 3)) (kk : ∀ (r : Int32) (S1 : M2) (N1 : M2) (H1 : Heap) (locs1 : List Loc), K r S1 N1 → TS vwCl D (ws' (S1, N1)) A H0 H1 locs1 → W p l e (rk rn mcR msR) s m args below meth c H1 locs1 cells slots Q (F0 m (pc + 3) ls (.int r :: rest))) : W p l e (rk rn mcR msR) s m args below meth c H locs cells slots Q (F0 m pc ls (.int x1 :: .ref (g 220) :: rest)) :=
  rw_go (wsF := (fun u : M2 × M2 => QW Z a q g rg aa P u.1 u.2)) (u0 := (S, N)) (wr := wr) (isC := isC) (isR := isR) (pm := pm) (ws' := ws') (runV (As := [.int x1]) hC hN (c_X8_whistle l D Z a q g rg aa P S N H.size x1 K hm) mi_X8_whistle hl wq_1855 wq_1856 hlt (hT.1.sub isC (map_fm hc.1)) (hT.D'.sub isC hnd hc.1) hK (q0 := 12) rfl rfl rfl hsize rfl hW hdg hf) hc hT (fun r u H1 locs1 hk hT1 => kk r u.1 u.2 H1 locs1 hk hT1)
end LX8_whistle0x
section LX8_air0x
variable {p : Program} {l : Launch} {e : Env} {s : State} {m : MethodId} {args : Array Value} {below : List Frame} {meth : Method} {c : Code} {H H0 : Heap} {locs : List Loc} {cells slots : Nat} {Q : State → Prop} {R : Room} {rn mcR msR : Nat}
variable {pc : Nat} {ls : Array Slot} {rest : List Value} {A : Nat → Prop} {D : va_G}
variable {cc : ByteArray} {nL index : Nat} {own host : String}
theorem kx_X8_air {Z : Nat → ClassId} {a q g : Nat → Nat} {rg aa : Nat} {P : M2} {S : M2} {N : M2} {K : Int32 → M2 → M2 → Prop} {ws wr : va_W} {isC isR pm : List Nat} {ws' : M2 × M2 → va_W} (hC : CallFix p m c cc nL s args lw_g own) (hN : NW s) (hK : va_K D vwCl (tysG Z) s) (hT : TS vwCl D ws A H0 H locs) (hc : Cut ws (fun u : M2 × M2 => QW Z a q g rg aa P u.1 u.2) (S, N) wr isC isR pm ws') (hnd : va_nd isC = true) (hm : wp_X8_air P S N K) (hl : Cond.methodLink own index yX8_air ∈ lw_g) (hlt : 2 < rn) (hsize : ls.size = nL) (hW : (rest.map fun v => v.category).sum ≤ 8) (hf : cells + 0 ≤ mcR ∧ slots + 0 ≤ msR) (hdg : decode cc pc = .ok (.invokevirtual index, 3)) (kk : ∀ (r : Int32) (S1 : M2) (N1 : M2) (H1 : Heap) (locs1 : List Loc), K r S1 N1 → TS vwCl D (ws' (S1, N1)) A H0 H1 locs1 → W p l e (rk rn mcR msR) s m args below meth c H1 locs1 cells slots Q (F0 m (pc + 3) ls (.int r :: rest))) : W p l e (rk rn mcR msR) s m args below meth c H locs cells slots Q (F0 m pc ls (.ref (g 220) :: rest)) :=
  rw_go (wsF := (fun u : M2 × M2 => QW Z a q g rg aa P u.1 u.2)) (u0 := (S, N)) (wr := wr) (isC := isC) (isR := isR) (pm := pm) (ws' := ws') (runV (As := []) hC hN (c_X8_air l D Z a q g rg aa P S N H.size K hm) mi_X8_air hl wq_1859 wq_1860 hlt (hT.1.sub isC (map_fm hc.1)) (hT.D'.sub isC hnd hc.1) hK (q0 := 12) rfl rfl rfl hsize rfl hW hdg hf) hc hT (fun r u H1 locs1 hk hT1 => kk r u.1 u.2 H1 locs1 hk hT1)
end LX8_air0x
section LX8_cap0x
variable {p : Program} {l : Launch} {e : Env} {s : State} {m : MethodId} {args : Array Value} {below : List Frame} {meth : Method} {c : Code} {H H0 : Heap} {locs : List Loc} {cells slots : Nat} {Q : State → Prop} {R : Room} {rn mcR msR : Nat}
variable {pc : Nat} {ls : Array Slot} {rest : List Value} {A : Nat → Prop} {D : va_G}
variable {cc : ByteArray} {nL index : Nat} {own host : String}
theorem kx_X8_cap {Z : Nat → ClassId} {a q g : Nat → Nat} {rg aa : Nat} {P : M2} {S : M2} {N : M2} {x1 : Int32} {K : Int32 → M2 → M2 → Prop} {ws wr : va_W} {isC isR pm : List Nat} {ws' : M2 × M2 → va_W} (hC : CallFix p m c cc nL s args lw_g own) (hN : NW s) (hK : va_K D vwCl (tysG Z) s) (hT : TS vwCl D ws A H0 H locs) (hc : Cut ws (fun u : M2 × M2 => QW Z a q g rg aa P u.1 u.2) (S, N) wr isC isR pm ws') (hnd : va_nd isC = true) (hm : wp_X8_cap P S N x1 K) (hl : Cond.methodLink own index yX8_cap ∈ lw_g) (hlt : 3 < rn) (hsize : ls.size = nL) (hW : (rest.map fun v => v.category).sum ≤ 8) (hf : cells + 0 ≤ mcR ∧ slots + 0 ≤ msR) (hdg : decode cc pc = .ok (.invokevirtual index, 3)) (kk : ∀ (r : Int32) (S1 : M2) (N1 : M2) (H1 : Heap) (locs1 : List Loc), K r S1 N1 → TS vwCl D (ws' (S1, N1)) A H0 H1 locs1 → W p l e (rk rn mcR msR) s m args below meth c H1 locs1 cells slots Q (F0 m (pc + 3) ls (.int r :: rest))) : W p l e (rk rn mcR msR) s m args below meth c H locs cells slots Q (F0 m pc ls (.int x1 :: .ref (g 220) :: rest)) :=
  rw_go (wsF := (fun u : M2 × M2 => QW Z a q g rg aa P u.1 u.2)) (u0 := (S, N)) (wr := wr) (isC := isC) (isR := isR) (pm := pm) (ws' := ws') (runV (As := [.int x1]) hC hN (c_X8_cap l D Z a q g rg aa P S N H.size x1 K hm) mi_X8_cap hl wq_1864 wq_1865 hlt (hT.1.sub isC (map_fm hc.1)) (hT.D'.sub isC hnd hc.1) hK (q0 := 12) rfl rfl rfl hsize rfl hW hdg hf) hc hT (fun r u H1 locs1 hk hT1 => kk r u.1 u.2 H1 locs1 hk hT1)
end LX8_cap0x
section LX8_again0x
variable {p : Program} {l : Launch} {e : Env} {s : State} {m : MethodId} {args : Array Value} {below : List Frame} {meth : Method} {c : Code} {H H0 : Heap} {locs : List Loc} {cells slots : Nat} {Q : State → Prop} {R : Room} {rn mcR msR : Nat}
variable {pc : Nat} {ls : Array Slot} {rest : List Value} {A : Nat → Prop} {D : va_G}
variable {cc : ByteArray} {nL index : Nat} {own host : String}
theorem kx_X8_again {Z : Nat → ClassId} {a q g : Nat → Nat} {rg aa : Nat} {P : M2} {S : M2} {N : M2} {x1 : Int32} {x2 : Int32} {K : Int32 → M2 → M2 → Prop} {ws wr : va_W} {isC isR pm : List Nat} {ws' : M2 × M2 → va_W} (hC : CallFix p m c cc nL s args lw_g own) (hN : NW s) (hK : va_K D vwCl (tysG Z) s) (hT : TS vwCl D ws A H0 H locs) (hc : Cut ws (fun u : M2 × M2 => QW Z a q g rg aa P u.1 u.2) (S, N) wr isC isR pm ws') (hnd : va_nd isC = true) (hm : wp_X8_again P S N x1 x2 K) (hl : Cond.methodLink own index yX8_again ∈ lw_g) (hlt : 3 < rn) (hsize : ls.size = nL) (hW : (rest.map fun v => v.category).sum ≤ 8) (hf : cells + 0 ≤ mcR ∧ slots + 0 ≤ msR) (hdg : decode cc pc = .ok (.invokevirtual index, 3)) (kk : ∀ (r : Int32) (S1 : M2) (N1 : M2) (H1 : Heap) (locs1 : List Loc), K r S1 N1 → TS vwCl D (ws' (S1, N1)) A H0 H1 locs1 → W p l e (rk rn mcR msR) s m args below meth c H1 locs1 cells slots Q (F0 m (pc + 3) ls (.int r :: rest))) : W p l e (rk rn mcR msR) s m args below meth c H locs cells slots Q (F0 m pc ls (.int x2 :: .int x1 :: .ref (g 220) :: rest)) :=
  rw_go (wsF := (fun u : M2 × M2 => QW Z a q g rg aa P u.1 u.2)) (u0 := (S, N)) (wr := wr) (isC := isC) (isR := isR) (pm := pm) (ws' := ws') (runV (As := [.int x1, .int x2]) hC hN (c_X8_again l D Z a q g rg aa P S N H.size x1 x2 K hm) mi_X8_again hl wq_1868 wq_1869 hlt (hT.1.sub isC (map_fm hc.1)) (hT.D'.sub isC hnd hc.1) hK (q0 := 12) rfl rfl rfl hsize rfl hW hdg hf) hc hT (fun r u H1 locs1 hk hT1 => kk r u.1 u.2 H1 locs1 hk hT1)
end LX8_again0x
section LX8_pass0x
variable {p : Program} {l : Launch} {e : Env} {s : State} {m : MethodId} {args : Array Value} {below : List Frame} {meth : Method} {c : Code} {H H0 : Heap} {locs : List Loc} {cells slots : Nat} {Q : State → Prop} {R : Room} {rn mcR msR : Nat}
variable {pc : Nat} {ls : Array Slot} {rest : List Value} {A : Nat → Prop} {D : va_G}
variable {cc : ByteArray} {nL index : Nat} {own host : String}
theorem kx_X8_pass {Z : Nat → ClassId} {a q g : Nat → Nat} {rg aa : Nat} {P : M2} {S : M2} {N : M2} {x1 : Int32} {K : Int32 → M2 → M2 → Prop} {ws wr : va_W} {isC isR pm : List Nat} {ws' : M2 × M2 → va_W} (hC : CallFix p m c cc nL s args lw_g own) (hN : NW s) (hK : va_K D vwCl (tysG Z) s) (hT : TS vwCl D ws A H0 H locs) (hc : Cut ws (fun u : M2 × M2 => QW Z a q g rg aa P u.1 u.2) (S, N) wr isC isR pm ws') (hnd : va_nd isC = true) (hm : wp_X8_pass P S N x1 K) (hl : Cond.methodLink own index yX8_pass ∈ lw_g) (hlt : 11 < rn) (hsize : ls.size = nL) (hW : (rest.map fun v => v.category).sum ≤ 8) (hf : cells + 0 ≤ mcR ∧ slots + 0 ≤ msR) (hdg : decode cc pc = .ok (.invokevirtual index, 3)) (kk : ∀ (r : Int32) (S1 : M2) (N1 : M2) (H1 : Heap) (locs1 : List Loc), K r S1 N1 → TS vwCl D (ws' (S1, N1)) A H0 H1 locs1 → W p l e (rk rn mcR msR) s m args below meth c H1 locs1 cells slots Q (F0 m (pc + 3) ls (.int r :: rest))) : W p l e (rk rn mcR msR) s m args below meth c H locs cells slots Q (F0 m pc ls (.int x1 :: .ref (g 220) :: rest)) :=
  rw_go (wsF := (fun u : M2 × M2 => QW Z a q g rg aa P u.1 u.2)) (u0 := (S, N)) (wr := wr) (isC := isC) (isR := isR) (pm := pm) (ws' := ws') (runV (As := [.int x1]) hC hN (c_X8_pass l D Z a q g rg aa P S N H.size x1 K hm) mi_X8_pass hl wq_1872 wq_1873 hlt (hT.1.sub isC (map_fm hc.1)) (hT.D'.sub isC hnd hc.1) hK (q0 := 12) rfl rfl rfl hsize rfl hW hdg hf) hc hT (fun r u H1 locs1 hk hT1 => kk r u.1 u.2 H1 locs1 hk hT1)
end LX8_pass0x
section LX8_until0x
variable {p : Program} {l : Launch} {e : Env} {s : State} {m : MethodId} {args : Array Value} {below : List Frame} {meth : Method} {c : Code} {H H0 : Heap} {locs : List Loc} {cells slots : Nat} {Q : State → Prop} {R : Room} {rn mcR msR : Nat}
variable {pc : Nat} {ls : Array Slot} {rest : List Value} {A : Nat → Prop} {D : va_G}
variable {cc : ByteArray} {nL index : Nat} {own host : String}
theorem kx_X8_until {Z : Nat → ClassId} {a b q g : Nat → Nat} {rg : Nat} {P : M2} {S : M2} {O : M2} {N : M2} {x1 : Int32} {K : Int32 → M2 → M2 → M2 → Prop} {ws wr : va_W} {isC isR pm : List Nat} {ws' : M2 × M2 × M2 → va_W} (hC : CallFix p m c cc nL s args lw_g own) (hN : NW s) (hK : va_K D vwCl (tysG Z) s) (hT : TS vwCl D ws A H0 H locs) (hc : Cut ws (fun u : M2 × M2 × M2 => MA Z a b q g rg P u.1 u.2.1 u.2.2) (S, O, N) wr isC isR pm ws') (hnd : va_nd isC = true) (hm : wp_X8_until P S O N x1 K) (hl : Cond.methodLink own index yX8_until ∈ lw_g) (hlt : 10 < rn) (hsize : ls.size = nL) (hW : (rest.map fun v => v.category).sum ≤ 8) (hf : cells + 0 ≤ mcR ∧ slots + 0 ≤ msR) (hdg : decode cc pc = .ok (.invokevirtual index, 3)) (kk : ∀ (r : Int32) (S1 : M2) (O1 : M2) (N1 : M2) (H1 : Heap) (locs1 : List Loc), K r S1 O1 N1 → TS vwCl D (ws' (S1, O1, N1)) A H0 H1 locs1 → W p l e (rk rn mcR msR) s m args below meth c H1 locs1 cells slots Q (F0 m (pc + 3) ls (.int r :: rest))) : W p l e (rk rn mcR msR) s m args below meth c H locs cells slots Q (F0 m pc ls (.int x1 :: .ref (g 220) :: rest)) :=
  rw_go (wsF := (fun u : M2 × M2 × M2 => MA Z a b q g rg P u.1 u.2.1 u.2.2)) (u0 := (S, O, N)) (wr := wr) (isC := isC) (isR := isR) (pm := pm) (ws' := ws') (runV (As := [.int x1]) hC hN (c_X8_until l D Z a b q g rg P S O N H.size x1 K hm) mi_X8_until hl wq_1918 wq_1919 hlt (hT.1.sub isC (map_fm hc.1)) (hT.D'.sub isC hnd hc.1) hK (q0 := 24) rfl rfl rfl hsize rfl hW hdg hf) hc hT (fun r u H1 locs1 hk hT1 => kk r u.1 u.2.1 u.2.2 H1 locs1 hk hT1)
end LX8_until0x
section LX8_foresee0x
variable {p : Program} {l : Launch} {e : Env} {s : State} {m : MethodId} {args : Array Value} {below : List Frame} {meth : Method} {c : Code} {H H0 : Heap} {locs : List Loc} {cells slots : Nat} {Q : State → Prop} {R : Room} {rn mcR msR : Nat}
variable {pc : Nat} {ls : Array Slot} {rest : List Value} {A : Nat → Prop} {D : va_G}
variable {cc : ByteArray} {nL index : Nat} {own host : String}
theorem kx_X8_foresee {Z : Nat → ClassId} {a b q g : Nat → Nat} {rg : Nat} {P : M2} {S : M2} {O : M2} {N : M2} {x1 : Int32} {x2 : Int32} {K : Int32 → M2 → M2 → M2 → Prop} {ws wr : va_W} {isC isR pm : List Nat} {ws' : M2 × M2 × M2 → va_W} (hC : CallFix p m c cc nL s args lw_g own) (hN : NW s) (hK : va_K D vwCl (tysG Z) s) (hT : TS vwCl D ws A H0 H locs) (hc : Cut ws (fun u : M2 × M2 × M2 => MA Z a b q g rg P u.1 u.2.1 u.2.2) (S, O, N) wr isC isR pm ws') (hnd : va_nd isC = true) (hm : wp_X8_foresee P S O N x1 x2 K) (hl : Cond.methodLink own index yX8_foresee ∈ lw_g) (hlt : 11 < rn) (hsize : ls.size = nL) (hW : (rest.map fun v => v.category).sum ≤ 8) (hf : cells + 0 ≤ mcR ∧ slots + 0 ≤ msR) (hdg : decode cc pc = .ok (.invokevirtual index, 3)) (kk : ∀ (r : Int32) (S1 : M2) (O1 : M2) (N1 : M2) (H1 : Heap) (locs1 : List Loc), K r S1 O1 N1 → TS vwCl D (ws' (S1, O1, N1)) A H0 H1 locs1 → W p l e (rk rn mcR msR) s m args below meth c H1 locs1 cells slots Q (F0 m (pc + 3) ls (.int r :: rest))) : W p l e (rk rn mcR msR) s m args below meth c H locs cells slots Q (F0 m pc ls (.int x2 :: .int x1 :: .ref (g 220) :: rest)) :=
  rw_go (wsF := (fun u : M2 × M2 × M2 => MA Z a b q g rg P u.1 u.2.1 u.2.2)) (u0 := (S, O, N)) (wr := wr) (isC := isC) (isR := isR) (pm := pm) (ws' := ws') (runV (As := [.int x1, .int x2]) hC hN (c_X8_foresee l D Z a b q g rg P S O N H.size x1 x2 K hm) mi_X8_foresee hl wq_1934 wq_1935 hlt (hT.1.sub isC (map_fm hc.1)) (hT.D'.sub isC hnd hc.1) hK (q0 := 24) rfl rfl rfl hsize rfl hW hdg hf) hc hT (fun r u H1 locs1 hk hT1 => kk r u.1 u.2.1 u.2.2 H1 locs1 hk hT1)
end LX8_foresee0x
section LX8_advise0x
variable {p : Program} {l : Launch} {e : Env} {s : State} {m : MethodId} {args : Array Value} {below : List Frame} {meth : Method} {c : Code} {H H0 : Heap} {locs : List Loc} {cells slots : Nat} {Q : State → Prop} {R : Room} {rn mcR msR : Nat}
variable {pc : Nat} {ls : Array Slot} {rest : List Value} {A : Nat → Prop} {D : va_G}
variable {cc : ByteArray} {nL index : Nat} {own host : String}
theorem kx_X8_advise {Z : Nat → ClassId} {a b q g : Nat → Nat} {rg : Nat} {P : M2} {S : M2} {O : M2} {N : M2} {x1 : Int32} {K : Int32 → M2 → M2 → M2 → Prop} {ws wr : va_W} {isC isR pm : List Nat} {ws' : M2 × M2 × M2 → va_W} (hC : CallFix p m c cc nL s args lw_g own) (hN : NW s) (hK : va_K D vwCl (tysG Z) s) (hT : TS vwCl D ws A H0 H locs) (hc : Cut ws (fun u : M2 × M2 × M2 => MA Z a b q g rg P u.1 u.2.1 u.2.2) (S, O, N) wr isC isR pm ws') (hnd : va_nd isC = true) (hm : wp_X8_advise P S O N x1 K) (hl : Cond.methodLink own index yX8_advise ∈ lw_g) (hlt : 11 < rn) (hsize : ls.size = nL) (hW : (rest.map fun v => v.category).sum ≤ 8) (hf : cells + 0 ≤ mcR ∧ slots + 0 ≤ msR) (hdg : decode cc pc = .ok (.invokevirtual index, 3)) (kk : ∀ (r : Int32) (S1 : M2) (O1 : M2) (N1 : M2) (H1 : Heap) (locs1 : List Loc), K r S1 O1 N1 → TS vwCl D (ws' (S1, O1, N1)) A H0 H1 locs1 → W p l e (rk rn mcR msR) s m args below meth c H1 locs1 cells slots Q (F0 m (pc + 3) ls (.int r :: rest))) : W p l e (rk rn mcR msR) s m args below meth c H locs cells slots Q (F0 m pc ls (.int x1 :: .ref (g 220) :: rest)) :=
  rw_go (wsF := (fun u : M2 × M2 × M2 => MA Z a b q g rg P u.1 u.2.1 u.2.2)) (u0 := (S, O, N)) (wr := wr) (isC := isC) (isR := isR) (pm := pm) (ws' := ws') (runV (As := [.int x1]) hC hN (c_X8_advise l D Z a b q g rg P S O N H.size x1 K hm) mi_X8_advise hl wq_1938 wq_1939 hlt (hT.1.sub isC (map_fm hc.1)) (hT.D'.sub isC hnd hc.1) hK (q0 := 24) rfl rfl rfl hsize rfl hW hdg hf) hc hT (fun r u H1 locs1 hk hT1 => kk r u.1 u.2.1 u.2.2 H1 locs1 hk hT1)
end LX8_advise0x
section LX8_missed0x
variable {p : Program} {l : Launch} {e : Env} {s : State} {m : MethodId} {args : Array Value} {below : List Frame} {meth : Method} {c : Code} {H H0 : Heap} {locs : List Loc} {cells slots : Nat} {Q : State → Prop} {R : Room} {rn mcR msR : Nat}
variable {pc : Nat} {ls : Array Slot} {rest : List Value} {A : Nat → Prop} {D : va_G}
variable {cc : ByteArray} {nL index : Nat} {own host : String}
theorem kx_X8_missed {Z : Nat → ClassId} {a b q g : Nat → Nat} {rg : Nat} {P : M2} {S : M2} {O : M2} {N : M2} {x1 : Int32} {K : Int32 → M2 → M2 → M2 → Prop} {ws wr : va_W} {isC isR pm : List Nat} {ws' : M2 × M2 × M2 → va_W} (hC : CallFix p m c cc nL s args lw_g own) (hN : NW s) (hK : va_K D vwCl (tysG Z) s) (hT : TS vwCl D ws A H0 H locs) (hc : Cut ws (fun u : M2 × M2 × M2 => MA Z a b q g rg P u.1 u.2.1 u.2.2) (S, O, N) wr isC isR pm ws') (hnd : va_nd isC = true) (hm : wp_X8_missed P S O N x1 K) (hl : Cond.methodLink own index yX8_missed ∈ lw_g) (hlt : 11 < rn) (hsize : ls.size = nL) (hW : (rest.map fun v => v.category).sum ≤ 8) (hf : cells + 0 ≤ mcR ∧ slots + 0 ≤ msR) (hdg : decode cc pc = .ok (.invokevirtual index, 3)) (kk : ∀ (r : Int32) (S1 : M2) (O1 : M2) (N1 : M2) (H1 : Heap) (locs1 : List Loc), K r S1 O1 N1 → TS vwCl D (ws' (S1, O1, N1)) A H0 H1 locs1 → W p l e (rk rn mcR msR) s m args below meth c H1 locs1 cells slots Q (F0 m (pc + 3) ls (.int r :: rest))) : W p l e (rk rn mcR msR) s m args below meth c H locs cells slots Q (F0 m pc ls (.int x1 :: .ref (g 220) :: rest)) :=
  rw_go (wsF := (fun u : M2 × M2 × M2 => MA Z a b q g rg P u.1 u.2.1 u.2.2)) (u0 := (S, O, N)) (wr := wr) (isC := isC) (isR := isR) (pm := pm) (ws' := ws') (runV (As := [.int x1]) hC hN (c_X8_missed l D Z a b q g rg P S O N H.size x1 K hm) mi_X8_missed hl wq_1942 wq_1943 hlt (hT.1.sub isC (map_fm hc.1)) (hT.D'.sub isC hnd hc.1) hK (q0 := 24) rfl rfl rfl hsize rfl hW hdg hf) hc hT (fun r u H1 locs1 hk hT1 => kk r u.1 u.2.1 u.2.2 H1 locs1 hk hT1)
end LX8_missed0x
section LX5_errorAt0x
variable {p : Program} {l : Launch} {e : Env} {s : State} {m : MethodId} {args : Array Value} {below : List Frame} {meth : Method} {c : Code} {H H0 : Heap} {locs : List Loc} {cells slots : Nat} {Q : State → Prop} {R : Room} {rn mcR msR : Nat}
variable {pc : Nat} {ls : Array Slot} {rest : List Value} {A : Nat → Prop} {D : va_G}
variable {cc : ByteArray} {nL index : Nat} {own host : String}
theorem kx_X5_errorAt {Z : Nat → ClassId} {a q : Nat → Nat} {ca tp rd sp ah : Nat} {P : M2} {F : M2} {C : M2} {K : Int32 → Prop} {ws : va_W} {isC : List Nat} (hC : CallFix p m c cc nL s args lw_g own) (hN : NW s) (hK : va_K D vwCl (tysG Z) s) (hP : va_P D vwCl ws H) (hD : va_D (fun _ => True) ws) (hs : isC.map (fun i => ws[i]?) = (CQ Z a q ca tp rd sp ah P F C).map some) (hnd : va_nd isC = true) (hm : wp_X5_errorAt P F C K) (hl : Cond.methodLink own index yX5_errorAt ∈ lw_g) (hlt : 1 < rn) (hsize : ls.size = nL) (hW : (rest.map fun v => v.category).sum ≤ 8) (hf : cells + 0 ≤ mcR ∧ slots + 0 ≤ msR) (hdg : decode cc pc = .ok (.invokevirtual index, 3)) (kk : ∀ r : Int32, K r → W p l e (rk rn mcR msR) s m args below meth c H locs cells slots Q (F0 m (pc + 3) ls (.int r :: rest))) : W p l e (rk rn mcR msR) s m args below meth c H locs cells slots Q (F0 m pc ls (.ref (ca) :: rest)) :=
  ro_go (runV (As := []) hC hN (c_X5_errorAt l D Z a q ca tp rd sp ah P F C H.size K hm) mi_X5_errorAt hl wq_789 wq_790 hlt (hP.sub isC (map_fm hs)) (hD.sub isC hnd hs) hK (q0 := 33) rfl rfl rfl hsize rfl hW hdg hf) kk
end LX5_errorAt0x
section LX5_worst0x
variable {p : Program} {l : Launch} {e : Env} {s : State} {m : MethodId} {args : Array Value} {below : List Frame} {meth : Method} {c : Code} {H H0 : Heap} {locs : List Loc} {cells slots : Nat} {Q : State → Prop} {R : Room} {rn mcR msR : Nat}
variable {pc : Nat} {ls : Array Slot} {rest : List Value} {A : Nat → Prop} {D : va_G}
variable {cc : ByteArray} {nL index : Nat} {own host : String}
theorem kx_X5_worst {Z : Nat → ClassId} {a q : Nat → Nat} {ca tp rd sp ah : Nat} {P : M2} {F : M2} {C : M2} {K : Int32 → Prop} {ws : va_W} {isC : List Nat} (hC : CallFix p m c cc nL s args lw_g own) (hN : NW s) (hK : va_K D vwCl (tysG Z) s) (hP : va_P D vwCl ws H) (hD : va_D (fun _ => True) ws) (hs : isC.map (fun i => ws[i]?) = (CQ Z a q ca tp rd sp ah P F C).map some) (hnd : va_nd isC = true) (hm : wp_X5_worst P F C K) (hl : Cond.methodLink own index yX5_worst ∈ lw_g) (hlt : 1 < rn) (hsize : ls.size = nL) (hW : (rest.map fun v => v.category).sum ≤ 8) (hf : cells + 0 ≤ mcR ∧ slots + 0 ≤ msR) (hdg : decode cc pc = .ok (.invokevirtual index, 3)) (kk : ∀ r : Int32, K r → W p l e (rk rn mcR msR) s m args below meth c H locs cells slots Q (F0 m (pc + 3) ls (.int r :: rest))) : W p l e (rk rn mcR msR) s m args below meth c H locs cells slots Q (F0 m pc ls (.ref (ca) :: rest)) :=
  ro_go (runV (As := []) hC hN (c_X5_worst l D Z a q ca tp rd sp ah P F C H.size K hm) mi_X5_worst hl wq_793 wq_794 hlt (hP.sub isC (map_fm hs)) (hD.sub isC hnd hs) hK (q0 := 33) rfl rfl rfl hsize rfl hW hdg hf) kk
end LX5_worst0x
section LX5_air0x
variable {p : Program} {l : Launch} {e : Env} {s : State} {m : MethodId} {args : Array Value} {below : List Frame} {meth : Method} {c : Code} {H H0 : Heap} {locs : List Loc} {cells slots : Nat} {Q : State → Prop} {R : Room} {rn mcR msR : Nat}
variable {pc : Nat} {ls : Array Slot} {rest : List Value} {A : Nat → Prop} {D : va_G}
variable {cc : ByteArray} {nL index : Nat} {own host : String}
theorem kx_X5_air {Z : Nat → ClassId} {a q : Nat → Nat} {ca tp rd sp ah : Nat} {P : M2} {F : M2} {C : M2} {K : Int32 → M2 → M2 → Prop} {ws wr : va_W} {isC isR pm : List Nat} {ws' : M2 × M2 → va_W} (hC : CallFix p m c cc nL s args lw_g own) (hN : NW s) (hK : va_K D vwCl (tysG Z) s) (hT : TS vwCl D ws A H0 H locs) (hc : Cut ws (fun u : M2 × M2 => CQ Z a q ca tp rd sp ah P u.1 u.2) (F, C) wr isC isR pm ws') (hnd : va_nd isC = true) (hm : wp_X5_air P F C K) (hl : Cond.methodLink own index yX5_air ∈ lw_g) (hlt : 1 < rn) (hsize : ls.size = nL) (hW : (rest.map fun v => v.category).sum ≤ 8) (hf : cells + 0 ≤ mcR ∧ slots + 0 ≤ msR) (hdg : decode cc pc = .ok (.invokevirtual index, 3)) (kk : ∀ (r : Int32) (F1 : M2) (C1 : M2) (H1 : Heap) (locs1 : List Loc), K r F1 C1 → TS vwCl D (ws' (F1, C1)) A H0 H1 locs1 → W p l e (rk rn mcR msR) s m args below meth c H1 locs1 cells slots Q (F0 m (pc + 3) ls (.int r :: rest))) : W p l e (rk rn mcR msR) s m args below meth c H locs cells slots Q (F0 m pc ls (.ref (ca) :: rest)) :=
  rw_go (wsF := (fun u : M2 × M2 => CQ Z a q ca tp rd sp ah P u.1 u.2)) (u0 := (F, C)) (wr := wr) (isC := isC) (isR := isR) (pm := pm) (ws' := ws') (runV (As := []) hC hN (c_X5_air l D Z a q ca tp rd sp ah P F C H.size K hm) mi_X5_air hl wq_798 wq_799 hlt (hT.1.sub isC (map_fm hc.1)) (hT.D'.sub isC hnd hc.1) hK (q0 := 33) rfl rfl rfl hsize rfl hW hdg hf) hc hT (fun r u H1 locs1 hk hT1 => kk r u.1 u.2 H1 locs1 hk hT1)
end LX5_air0x
section LX8_count0x
variable {p : Program} {l : Launch} {e : Env} {s : State} {m : MethodId} {args : Array Value} {below : List Frame} {meth : Method} {c : Code} {H H0 : Heap} {locs : List Loc} {cells slots : Nat} {Q : State → Prop} {R : Room} {rn mcR msR : Nat}
variable {pc : Nat} {ls : Array Slot} {rest : List Value} {A : Nat → Prop} {D : va_G}
variable {cc : ByteArray} {nL index : Nat} {own host : String}
theorem kx_X8_count {Z : Nat → ClassId} {a q g : Nat → Nat} {rg aa : Nat} {P : M2} {S : M2} {N : M2} {x1 : Int32} {K : Int32 → M2 → M2 → Prop} {ws wr : va_W} {isC isR pm : List Nat} {ws' : M2 × M2 → va_W} (hC : CallFix p m c cc nL s args lw_g own) (hN : NW s) (hK : va_K D vwCl (tysG Z) s) (hT : TS vwCl D ws A H0 H locs) (hc : Cut ws (fun u : M2 × M2 => QW Z a q g rg aa P u.1 u.2) (S, N) wr isC isR pm ws') (hnd : va_nd isC = true) (hm : wp_X8_count P S N x1 K) (hl : Cond.methodLink own index yX8_count ∈ lw_g) (hlt : 4 < rn) (hsize : ls.size = nL) (hW : (rest.map fun v => v.category).sum ≤ 8) (hf : cells + 1 ≤ mcR ∧ slots + 8 ≤ msR) (hdg : decode cc pc = .ok (.invokevirtual index, 3)) (kk : ∀ (r : Int32) (S1 : M2) (N1 : M2) (H1 : Heap) (locs1 : List Loc), K r S1 N1 → TS vwCl D (ws' (S1, N1)) A H0 H1 locs1 → W p l e (rk rn mcR msR) s m args below meth c H1 locs1 (cells + 1) (slots + 8) Q (F0 m (pc + 3) ls (.int r :: rest))) : W p l e (rk rn mcR msR) s m args below meth c H locs cells slots Q (F0 m pc ls (.int x1 :: .ref (g 220) :: rest)) :=
  rw_go (wsF := (fun u : M2 × M2 => QW Z a q g rg aa P u.1 u.2)) (u0 := (S, N)) (wr := wr) (isC := isC) (isR := isR) (pm := pm) (ws' := ws') (runV (As := [.int x1]) hC hN (c_X8_count l D Z a q g rg aa P S N H.size x1 K hm) mi_X8_count hl wq_1717 wq_1718 hlt (hT.1.sub isC (map_fm hc.1)) (hT.D'.sub isC hnd hc.1) hK (q0 := 12) rfl rfl rfl hsize rfl hW hdg hf) hc hT (fun r u H1 locs1 hk hT1 => kk r u.1 u.2 H1 locs1 hk hT1)
end LX8_count0x
section LX8_legger0x
variable {p : Program} {l : Launch} {e : Env} {s : State} {m : MethodId} {args : Array Value} {below : List Frame} {meth : Method} {c : Code} {H H0 : Heap} {locs : List Loc} {cells slots : Nat} {Q : State → Prop} {R : Room} {rn mcR msR : Nat}
variable {pc : Nat} {ls : Array Slot} {rest : List Value} {A : Nat → Prop} {D : va_G}
variable {cc : ByteArray} {nL index : Nat} {own host : String}
theorem kx_X8_legger {Z : Nat → ClassId} {a q g : Nat → Nat} {rg aa : Nat} {P : M2} {S : M2} {N : M2} {x1 : Int32} {x2 : Int32} {K : Int32 → M2 → M2 → Prop} {ws wr : va_W} {isC isR pm : List Nat} {ws' : M2 × M2 → va_W} (hC : CallFix p m c cc nL s args lw_g own) (hN : NW s) (hK : va_K D vwCl (tysG Z) s) (hT : TS vwCl D ws A H0 H locs) (hc : Cut ws (fun u : M2 × M2 => QW Z a q g rg aa P u.1 u.2) (S, N) wr isC isR pm ws') (hnd : va_nd isC = true) (hm : wp_X8_legger P S N x1 x2 K) (hl : Cond.methodLink own index yX8_legger ∈ lw_g) (hlt : 3 < rn) (hsize : ls.size = nL) (hW : (rest.map fun v => v.category).sum ≤ 8) (hf : cells + 1 ≤ mcR ∧ slots + 7 ≤ msR) (hdg : decode cc pc = .ok (.invokevirtual index, 3)) (kk : ∀ (r : Int32) (S1 : M2) (N1 : M2) (H1 : Heap) (locs1 : List Loc), K r S1 N1 → TS vwCl D (ws' (S1, N1)) A H0 H1 locs1 → W p l e (rk rn mcR msR) s m args below meth c H1 locs1 (cells + 1) (slots + 7) Q (F0 m (pc + 3) ls (.int r :: rest))) : W p l e (rk rn mcR msR) s m args below meth c H locs cells slots Q (F0 m pc ls (.int x2 :: .int x1 :: .ref (g 220) :: rest)) :=
  rw_go (wsF := (fun u : M2 × M2 => QW Z a q g rg aa P u.1 u.2)) (u0 := (S, N)) (wr := wr) (isC := isC) (isR := isR) (pm := pm) (ws' := ws') (runV (As := [.int x1, .int x2]) hC hN (c_X8_legger l D Z a q g rg aa P S N H.size x1 x2 K hm) mi_X8_legger hl wq_1770 wq_1771 hlt (hT.1.sub isC (map_fm hc.1)) (hT.D'.sub isC hnd hc.1) hK (q0 := 12) rfl rfl rfl hsize rfl hW hdg hf) hc hT (fun r u H1 locs1 hk hT1 => kk r u.1 u.2 H1 locs1 hk hT1)
end LX8_legger0x
section LX8_boat0x
variable {p : Program} {l : Launch} {e : Env} {s : State} {m : MethodId} {args : Array Value} {below : List Frame} {meth : Method} {c : Code} {H H0 : Heap} {locs : List Loc} {cells slots : Nat} {Q : State → Prop} {R : Room} {rn mcR msR : Nat}
variable {pc : Nat} {ls : Array Slot} {rest : List Value} {A : Nat → Prop} {D : va_G}
variable {cc : ByteArray} {nL index : Nat} {own host : String}
theorem kx_X8_boat {Z : Nat → ClassId} {a q g : Nat → Nat} {rg aa : Nat} {P : M2} {S : M2} {N : M2} {x1 : Int32} {x2 : Int32} {K : Int32 → M2 → M2 → Prop} {ws wr : va_W} {isC isR pm : List Nat} {ws' : M2 × M2 → va_W} (hC : CallFix p m c cc nL s args lw_g own) (hN : NW s) (hK : va_K D vwCl (tysG Z) s) (hT : TS vwCl D ws A H0 H locs) (hc : Cut ws (fun u : M2 × M2 => QW Z a q g rg aa P u.1 u.2) (S, N) wr isC isR pm ws') (hnd : va_nd isC = true) (hm : wp_X8_boat P S N x1 x2 K) (hl : Cond.methodLink own index yX8_boat ∈ lw_g) (hlt : 3 < rn) (hsize : ls.size = nL) (hW : (rest.map fun v => v.category).sum ≤ 8) (hf : cells + 1 ≤ mcR ∧ slots + 7 ≤ msR) (hdg : decode cc pc = .ok (.invokevirtual index, 3)) (kk : ∀ (r : Int32) (S1 : M2) (N1 : M2) (H1 : Heap) (locs1 : List Loc), K r S1 N1 → TS vwCl D (ws' (S1, N1)) A H0 H1 locs1 → W p l e (rk rn mcR msR) s m args below meth c H1 locs1 (cells + 1) (slots + 7) Q (F0 m (pc + 3) ls (.int r :: rest))) : W p l e (rk rn mcR msR) s m args below meth c H locs cells slots Q (F0 m pc ls (.int x2 :: .int x1 :: .ref (g 220) :: rest)) :=
  rw_go (wsF := (fun u : M2 × M2 => QW Z a q g rg aa P u.1 u.2)) (u0 := (S, N)) (wr := wr) (isC := isC) (isR := isR) (pm := pm) (ws' := ws') (runV (As := [.int x1, .int x2]) hC hN (c_X8_boat l D Z a q g rg aa P S N H.size x1 x2 K hm) mi_X8_boat hl wq_1786 wq_1787 hlt (hT.1.sub isC (map_fm hc.1)) (hT.D'.sub isC hnd hc.1) hK (q0 := 12) rfl rfl rfl hsize rfl hW hdg hf) hc hT (fun r u H1 locs1 hk hT1 => kk r u.1 u.2 H1 locs1 hk hT1)
end LX8_boat0x
section LX8_mean0x
variable {p : Program} {l : Launch} {e : Env} {s : State} {m : MethodId} {args : Array Value} {below : List Frame} {meth : Method} {c : Code} {H H0 : Heap} {locs : List Loc} {cells slots : Nat} {Q : State → Prop} {R : Room} {rn mcR msR : Nat}
variable {pc : Nat} {ls : Array Slot} {rest : List Value} {A : Nat → Prop} {D : va_G}
variable {cc : ByteArray} {nL index : Nat} {own host : String}
theorem kx_X8_mean {Z : Nat → ClassId} {a q g : Nat → Nat} {rg aa : Nat} {P : M2} {S : M2} {N : M2} {K : UInt64 → M2 → M2 → Prop} {ws wr : va_W} {isC isR pm : List Nat} {ws' : M2 × M2 → va_W} (hC : CallFix p m c cc nL s args lw_g own) (hN : NW s) (hK : va_K D vwCl (tysG Z) s) (hT : TS vwCl D ws A H0 H locs) (hc : Cut ws (fun u : M2 × M2 => QW Z a q g rg aa P u.1 u.2) (S, N) wr isC isR pm ws') (hnd : va_nd isC = true) (hm : wp_X8_mean P S N K) (hl : Cond.methodLink own index yX8_mean ∈ lw_g) (hlt : 1 < rn) (hsize : ls.size = nL) (hW : (rest.map fun v => v.category).sum ≤ 8) (hf : cells + 0 ≤ mcR ∧ slots + 0 ≤ msR) (hdg : decode cc pc = .ok (.invokevirtual index, 3)) (kk : ∀ (r : UInt64) (S1 : M2) (N1 : M2) (H1 : Heap) (locs1 : List Loc), K r S1 N1 → TS vwCl D (ws' (S1, N1)) A H0 H1 locs1 → W p l e (rk rn mcR msR) s m args below meth c H1 locs1 cells slots Q (F0 m (pc + 3) ls (.double r :: rest))) : W p l e (rk rn mcR msR) s m args below meth c H locs cells slots Q (F0 m pc ls (.ref (g 220) :: rest)) :=
  rwd_go (wsF := (fun u : M2 × M2 => QW Z a q g rg aa P u.1 u.2)) (u0 := (S, N)) (wr := wr) (isC := isC) (isR := isR) (pm := pm) (ws' := ws') (runV (As := []) hC hN (c_X8_mean l D Z a q g rg aa P S N H.size K hm) mi_X8_mean hl wq_1946 wq_1947 hlt (hT.1.sub isC (map_fm hc.1)) (hT.D'.sub isC hnd hc.1) hK (q0 := 12) rfl rfl rfl hsize rfl hW hdg hf) hc hT (fun r u H1 locs1 hk hT1 => kk r u.1 u.2 H1 locs1 hk hT1)
end LX8_mean0x
section LX8_digest0x
variable {p : Program} {l : Launch} {e : Env} {s : State} {m : MethodId} {args : Array Value} {below : List Frame} {meth : Method} {c : Code} {H H0 : Heap} {locs : List Loc} {cells slots : Nat} {Q : State → Prop} {R : Room} {rn mcR msR : Nat}
variable {pc : Nat} {ls : Array Slot} {rest : List Value} {A : Nat → Prop} {D : va_G}
variable {cc : ByteArray} {nL index : Nat} {own host : String}
theorem kx_X8_digest {Z : Nat → ClassId} {a q g : Nat → Nat} {rg aa : Nat} {P : M2} {S : M2} {N : M2} {K : Int64 → M2 → M2 → Prop} {ws wr : va_W} {isC isR pm : List Nat} {ws' : M2 × M2 → va_W} (hC : CallFix p m c cc nL s args lw_g own) (hN : NW s) (hK : va_K D vwCl (tysG Z) s) (hT : TS vwCl D ws A H0 H locs) (hc : Cut ws (fun u : M2 × M2 => QW Z a q g rg aa P u.1 u.2) (S, N) wr isC isR pm ws') (hnd : va_nd isC = true) (hm : wp_X8_digest P S N K) (hl : Cond.methodLink own index yX8_digest ∈ lw_g) (hlt : 4 < rn) (hsize : ls.size = nL) (hW : (rest.map fun v => v.category).sum ≤ 8) (hf : cells + 143 ≤ mcR ∧ slots + 1016 ≤ msR) (hdg : decode cc pc = .ok (.invokevirtual index, 3)) (kk : ∀ (r : Int64) (S1 : M2) (N1 : M2) (H1 : Heap) (locs1 : List Loc), K r S1 N1 → TS vwCl D (ws' (S1, N1)) A H0 H1 locs1 → W p l e (rk rn mcR msR) s m args below meth c H1 locs1 (cells + 143) (slots + 1016) Q (F0 m (pc + 3) ls (.long r :: rest))) : W p l e (rk rn mcR msR) s m args below meth c H locs cells slots Q (F0 m pc ls (.ref (g 220) :: rest)) :=
  rwl_go (wsF := (fun u : M2 × M2 => QW Z a q g rg aa P u.1 u.2)) (u0 := (S, N)) (wr := wr) (isC := isC) (isR := isR) (pm := pm) (ws' := ws') (runV (As := []) hC hN (c_X8_digest l D Z a q g rg aa P S N H.size K hm) mi_X8_digest hl wq_1950 wq_1951 hlt (hT.1.sub isC (map_fm hc.1)) (hT.D'.sub isC hnd hc.1) hK (q0 := 12) rfl rfl rfl hsize rfl hW hdg hf) hc hT (fun r u H1 locs1 hk hT1 => kk r u.1 u.2 H1 locs1 hk hT1)
end LX8_digest0x
section LX5_digest0x
variable {p : Program} {l : Launch} {e : Env} {s : State} {m : MethodId} {args : Array Value} {below : List Frame} {meth : Method} {c : Code} {H H0 : Heap} {locs : List Loc} {cells slots : Nat} {Q : State → Prop} {R : Room} {rn mcR msR : Nat}
variable {pc : Nat} {ls : Array Slot} {rest : List Value} {A : Nat → Prop} {D : va_G}
variable {cc : ByteArray} {nL index : Nat} {own host : String}
theorem kx_X5_digest {Z : Nat → ClassId} {a q : Nat → Nat} {ca tp rd sp ah : Nat} {P : M2} {F : M2} {C : M2} {K : Int64 → Prop} {ws : va_W} {isC : List Nat} (hC : CallFix p m c cc nL s args lw_g own) (hN : NW s) (hK : va_K D vwCl (tysG Z) s) (hP : va_P D vwCl ws H) (hD : va_D (fun _ => True) ws) (hs : isC.map (fun i => ws[i]?) = (CQ Z a q ca tp rd sp ah P F C).map some) (hnd : va_nd isC = true) (hm : wp_X5_digest P F C K) (hl : Cond.methodLink own index yX5_digest ∈ lw_g) (hlt : 8 < rn) (hsize : ls.size = nL) (hW : (rest.map fun v => v.category).sum ≤ 8) (hf : cells + 0 ≤ mcR ∧ slots + 0 ≤ msR) (hdg : decode cc pc = .ok (.invokevirtual index, 3)) (kk : ∀ r : Int64, K r → W p l e (rk rn mcR msR) s m args below meth c H locs cells slots Q (F0 m (pc + 3) ls (.long r :: rest))) : W p l e (rk rn mcR msR) s m args below meth c H locs cells slots Q (F0 m pc ls (.ref (ca) :: rest)) :=
  rol_go (runV (As := []) hC hN (c_X5_digest l D Z a q ca tp rd sp ah P F C H.size K hm) mi_X5_digest hl wq_807 wq_808 hlt (hP.sub isC (map_fm hs)) (hD.sub isC hnd hs) hK (q0 := 33) rfl rfl rfl hsize rfl hW hdg hf) kk
end LX5_digest0x
section LX5_mean0x
variable {p : Program} {l : Launch} {e : Env} {s : State} {m : MethodId} {args : Array Value} {below : List Frame} {meth : Method} {c : Code} {H H0 : Heap} {locs : List Loc} {cells slots : Nat} {Q : State → Prop} {R : Room} {rn mcR msR : Nat}
variable {pc : Nat} {ls : Array Slot} {rest : List Value} {A : Nat → Prop} {D : va_G}
variable {cc : ByteArray} {nL index : Nat} {own host : String}
theorem kx_X5_mean {Z : Nat → ClassId} {a q : Nat → Nat} {ca tp rd sp ah : Nat} {P : M2} {F : M2} {C : M2} {K : UInt64 → M2 → M2 → Prop} {ws wr : va_W} {isC isR pm : List Nat} {ws' : M2 × M2 → va_W} (hC : CallFix p m c cc nL s args lw_g own) (hN : NW s) (hK : va_K D vwCl (tysG Z) s) (hT : TS vwCl D ws A H0 H locs) (hc : Cut ws (fun u : M2 × M2 => CQ Z a q ca tp rd sp ah P u.1 u.2) (F, C) wr isC isR pm ws') (hnd : va_nd isC = true) (hm : wp_X5_mean P F C K) (hl : Cond.methodLink own index yX5_mean ∈ lw_g) (hlt : 1 < rn) (hsize : ls.size = nL) (hW : (rest.map fun v => v.category).sum ≤ 8) (hf : cells + 0 ≤ mcR ∧ slots + 0 ≤ msR) (hdg : decode cc pc = .ok (.invokevirtual index, 3)) (kk : ∀ (r : UInt64) (F1 : M2) (C1 : M2) (H1 : Heap) (locs1 : List Loc), K r F1 C1 → TS vwCl D (ws' (F1, C1)) A H0 H1 locs1 → W p l e (rk rn mcR msR) s m args below meth c H1 locs1 cells slots Q (F0 m (pc + 3) ls (.double r :: rest))) : W p l e (rk rn mcR msR) s m args below meth c H locs cells slots Q (F0 m pc ls (.ref (ca) :: rest)) :=
  rwd_go (wsF := (fun u : M2 × M2 => CQ Z a q ca tp rd sp ah P u.1 u.2)) (u0 := (F, C)) (wr := wr) (isC := isC) (isR := isR) (pm := pm) (ws' := ws') (runV (As := []) hC hN (c_X5_mean l D Z a q ca tp rd sp ah P F C H.size K hm) mi_X5_mean hl wq_803 wq_804 hlt (hT.1.sub isC (map_fm hc.1)) (hT.D'.sub isC hnd hc.1) hK (q0 := 33) rfl rfl rfl hsize rfl hW hdg hf) hc hT (fun r u H1 locs1 hk hT1 => kk r u.1 u.2 H1 locs1 hk hT1)
end LX5_mean0x
section LX8_feed0x
variable {p : Program} {l : Launch} {e : Env} {s : State} {m : MethodId} {args : Array Value} {below : List Frame} {meth : Method} {c : Code} {H H0 : Heap} {locs : List Loc} {cells slots : Nat} {Q : State → Prop} {R : Room} {rn mcR msR : Nat}
variable {pc : Nat} {ls : Array Slot} {rest : List Value} {A : Nat → Prop} {D : va_G}
variable {cc : ByteArray} {nL index : Nat} {own host : String}
theorem kx_X8_feed {Z : Nat → ClassId} {g : Nat → Nat} {pl rg sa aa : Nat} {N : M2} {V : M2} {x1 : Int32} {x2 : Int32} {x3 : Int32} {x4 : Int32} {x5 : Int32} {K : Int32 → M2 → M2 → Prop} {ws wr : va_W} {isC isR pm : List Nat} {ws' : M2 × M2 → va_W} (hC : CallFix p m c cc nL s args lw_g own) (hN : NW s) (hK : va_K D vwCl (tysG Z) s) (hT : TS vwCl D ws A H0 H locs) (hc : Cut ws (fun u : M2 × M2 => FW Z g pl rg sa aa u.1 u.2) (N, V) wr isC isR pm ws') (hnd : va_nd isC = true) (hm : wp_X8_feed N V x1 x2 x3 x4 x5 K) (hl : Cond.methodLink own index yX8_feed ∈ lw_g) (hlt : 2 < rn) (hsize : ls.size = nL) (hW : (rest.map fun v => v.category).sum ≤ 8) (hf : cells + 1 ≤ mcR ∧ slots + 5 ≤ msR) (hdg : decode cc pc = .ok (.invokevirtual index, 3)) (kk : ∀ (r : Int32) (N1 : M2) (V1 : M2) (H1 : Heap) (locs1 : List Loc), K r N1 V1 → TS vwCl D (ws' (N1, V1)) A H0 H1 locs1 → W p l e (rk rn mcR msR) s m args below meth c H1 locs1 (cells + 1) (slots + 5) Q (F0 m (pc + 3) ls (.int r :: rest))) : W p l e (rk rn mcR msR) s m args below meth c H locs cells slots Q (F0 m pc ls (.int x5 :: .int x4 :: .int x3 :: .int x2 :: .int x1 :: .ref (g 220) :: rest)) :=
  rw_go (wsF := (fun u : M2 × M2 => FW Z g pl rg sa aa u.1 u.2)) (u0 := (N, V)) (wr := wr) (isC := isC) (isR := isR) (pm := pm) (ws' := ws') (runV (As := [.int x1, .int x2, .int x3, .int x4, .int x5]) hC hN (c_X8_feed l D Z g pl rg sa aa N V H.size x1 x2 x3 x4 x5 K hm) mi_X8_feed hl wq_1471 wq_1472 hlt (hT.1.sub isC (map_fm hc.1)) (hT.D'.sub isC hnd hc.1) hK (q0 := 0) rfl rfl rfl hsize rfl hW hdg hf) hc hT (fun r u H1 locs1 hk hT1 => kk r u.1 u.2 H1 locs1 hk hT1)
end LX8_feed0x
