def uL : Md := (yL_law, cL_law, 7, some .boolean)
theorem mlL_15 : Cond.methodLink RL 15 yX6_init ∈ wB := wB_of 148 (by decide +kernel) (by decide +kernel)
theorem mlL_18 : Cond.methodLink RL 18 yX7_init ∈ wB := wB_of 1242 (by decide +kernel) (by decide +kernel)
theorem mlL_19 : Cond.methodLink RL 19 yX6_feed ∈ wB := wB_of 484 (by decide +kernel) (by decide +kernel)
theorem mlL_23 : Cond.methodLink RL 23 yX7_feed ∈ wB := wB_of 1379 (by decide +kernel) (by decide +kernel)
theorem mlL_24 : Cond.methodLink RL 24 yX6_close ∈ wB := wB_of 492 (by decide +kernel) (by decide +kernel)
theorem mlL_27 : Cond.methodLink RL 27 yX7_close ∈ wB := wB_of 1383 (by decide +kernel) (by decide +kernel)
theorem mlL_28 : Cond.methodLink RL 28 yX6_fault ∈ wB := wB_of 705 (by decide +kernel) (by decide +kernel)
theorem mlL_32 : Cond.methodLink RL 32 yX7_fault ∈ wB := wB_of 1533 (by decide +kernel) (by decide +kernel)
theorem mlL_33 : Cond.methodLink RL 33 yX6_where ∈ wB := wB_of 709 (by decide +kernel) (by decide +kernel)
theorem mlL_36 : Cond.methodLink RL 36 yX7_where ∈ wB := wB_of 1537 (by decide +kernel) (by decide +kernel)
theorem mlL_37 : Cond.methodLink RL 37 yX6_face ∈ wB := wB_of 713 (by decide +kernel) (by decide +kernel)
theorem mlL_41 : Cond.methodLink RL 41 yX7_face ∈ wB := wB_of 1541 (by decide +kernel) (by decide +kernel)
theorem mlL_42 : Cond.methodLink RL 42 yX6_canon ∈ wB := wB_of 729 (by decide +kernel) (by decide +kernel)
theorem mlL_45 : Cond.methodLink RL 45 yX7_canon ∈ wB := wB_of 1553 (by decide +kernel) (by decide +kernel)
theorem mlL_46 : Cond.methodLink RL 46 yX6_cell ∈ wB := wB_of 737 (by decide +kernel) (by decide +kernel)
theorem mlL_49 : Cond.methodLink RL 49 yX7_cell ∈ wB := wB_of 1561 (by decide +kernel) (by decide +kernel)
theorem mlL_50 : Cond.methodLink RL 50 yX6_burden ∈ wB := wB_of 757 (by decide +kernel) (by decide +kernel)
theorem mlL_53 : Cond.methodLink RL 53 yX7_burden ∈ wB := wB_of 1589 (by decide +kernel) (by decide +kernel)
theorem mlL_54 : Cond.methodLink RL 54 yX6_bears ∈ wB := wB_of 765 (by decide +kernel) (by decide +kernel)
theorem mlL_57 : Cond.methodLink RL 57 yX7_bears ∈ wB := wB_of 1593 (by decide +kernel) (by decide +kernel)
theorem mlL_58 : Cond.methodLink RL 58 yX6_holds ∈ wB := wB_of 798 (by decide +kernel) (by decide +kernel)
theorem mlL_61 : Cond.methodLink RL 61 yX7_holds ∈ wB := wB_of 1621 (by decide +kernel) (by decide +kernel)
theorem mlL_62 : Cond.methodLink RL 62 yX6_drops ∈ wB := wB_of 802 (by decide +kernel) (by decide +kernel)
theorem mlL_65 : Cond.methodLink RL 65 yX7_drops ∈ wB := wB_of 1625 (by decide +kernel) (by decide +kernel)
theorem mlL_66 : Cond.methodLink RL 66 yX6_dropsIn ∈ wB := wB_of 806 (by decide +kernel) (by decide +kernel)
theorem mlL_69 : Cond.methodLink RL 69 yX7_dropsIn ∈ wB := wB_of 1629 (by decide +kernel) (by decide +kernel)
theorem mlL_70 : Cond.methodLink RL 70 yX6_fallsIn ∈ wB := wB_of 814 (by decide +kernel) (by decide +kernel)
theorem mlL_73 : Cond.methodLink RL 73 yX7_fallsIn ∈ wB := wB_of 1633 (by decide +kernel) (by decide +kernel)
theorem mlL_74 : Cond.methodLink RL 74 yX6_wet ∈ wB := wB_of 819 (by decide +kernel) (by decide +kernel)
theorem mlL_77 : Cond.methodLink RL 77 yX7_wet ∈ wB := wB_of 1637 (by decide +kernel) (by decide +kernel)
theorem mlL_78 : Cond.methodLink RL 78 yX6_wetDays ∈ wB := wB_of 831 (by decide +kernel) (by decide +kernel)
theorem mlL_81 : Cond.methodLink RL 81 yX7_wetDays ∈ wB := wB_of 1641 (by decide +kernel) (by decide +kernel)
theorem mlL_82 : Cond.methodLink RL 82 yX6_wettest ∈ wB := wB_of 839 (by decide +kernel) (by decide +kernel)
theorem mlL_85 : Cond.methodLink RL 85 yX7_wettest ∈ wB := wB_of 1649 (by decide +kernel) (by decide +kernel)
theorem mlL_86 : Cond.methodLink RL 86 yX6_sunny ∈ wB := wB_of 843 (by decide +kernel) (by decide +kernel)
theorem mlL_89 : Cond.methodLink RL 89 yX7_sunny ∈ wB := wB_of 1653 (by decide +kernel) (by decide +kernel)
theorem mlL_90 : Cond.methodLink RL 90 yX6_heaviest ∈ wB := wB_of 847 (by decide +kernel) (by decide +kernel)
theorem mlL_93 : Cond.methodLink RL 93 yX7_heaviest ∈ wB := wB_of 1657 (by decide +kernel) (by decide +kernel)
theorem mlL_94 : Cond.methodLink RL 94 yX6_fallen ∈ wB := wB_of 854 (by decide +kernel) (by decide +kernel)
theorem mlL_97 : Cond.methodLink RL 97 yX7_fallen ∈ wB := wB_of 1661 (by decide +kernel) (by decide +kernel)
theorem mlL_98 : Cond.methodLink RL 98 yX6_dropsIf ∈ wB := wB_of 858 (by decide +kernel) (by decide +kernel)
theorem mlL_102 : Cond.methodLink RL 102 yX7_dropsIf ∈ wB := wB_of 1669 (by decide +kernel) (by decide +kernel)
theorem mlL_103 : Cond.methodLink RL 103 yX6_faceFor ∈ wB := wB_of 874 (by decide +kernel) (by decide +kernel)
theorem mlL_106 : Cond.methodLink RL 106 yX7_faceFor ∈ wB := wB_of 1696 (by decide +kernel) (by decide +kernel)
theorem mlL_107 : Cond.methodLink RL 107 yX6_match ∈ wB := wB_of 878 (by decide +kernel) (by decide +kernel)
theorem mlL_110 : Cond.methodLink RL 110 yX7_match ∈ wB := wB_of 1704 (by decide +kernel) (by decide +kernel)
theorem mlL_111 : Cond.methodLink RL 111 yX6_matchDrops ∈ wB := wB_of 912 (by decide +kernel) (by decide +kernel)
theorem mlL_114 : Cond.methodLink RL 114 yX7_matchDrops ∈ wB := wB_of 1716 (by decide +kernel) (by decide +kernel)
theorem mlL_115 : Cond.methodLink RL 115 yX6_matchAt ∈ wB := wB_of 916 (by decide +kernel) (by decide +kernel)
theorem mlL_118 : Cond.methodLink RL 118 yX7_matchAt ∈ wB := wB_of 1720 (by decide +kernel) (by decide +kernel)
theorem mlL_119 : Cond.methodLink RL 119 yX6_steps ∈ wB := wB_of 920 (by decide +kernel) (by decide +kernel)
theorem mlL_122 : Cond.methodLink RL 122 yX7_steps ∈ wB := wB_of 1724 (by decide +kernel) (by decide +kernel)
theorem mlL_123 : Cond.methodLink RL 123 yX6_wets ∈ wB := wB_of 929 (by decide +kernel) (by decide +kernel)
theorem mlL_126 : Cond.methodLink RL 126 yX7_wets ∈ wB := wB_of 1741 (by decide +kernel) (by decide +kernel)
theorem mlL_127 : Cond.methodLink RL 127 yX6_way ∈ wB := wB_of 967 (by decide +kernel) (by decide +kernel)
theorem mlL_130 : Cond.methodLink RL 130 yX7_way ∈ wB := wB_of 1753 (by decide +kernel) (by decide +kernel)
theorem mlL_131 : Cond.methodLink RL 131 yX6_wayAt ∈ wB := wB_of 971 (by decide +kernel) (by decide +kernel)
theorem mlL_134 : Cond.methodLink RL 134 yX7_wayAt ∈ wB := wB_of 1757 (by decide +kernel) (by decide +kernel)
theorem mlL_135 : Cond.methodLink RL 135 yX6_dryDay ∈ wB := wB_of 983 (by decide +kernel) (by decide +kernel)
theorem mlL_138 : Cond.methodLink RL 138 yX7_dryDay ∈ wB := wB_of 1761 (by decide +kernel) (by decide +kernel)
theorem mlL_139 : Cond.methodLink RL 139 yX6_gate ∈ wB := wB_of 987 (by decide +kernel) (by decide +kernel)
theorem mlL_142 : Cond.methodLink RL 142 yX7_gate ∈ wB := wB_of 1765 (by decide +kernel) (by decide +kernel)
theorem mlL_143 : Cond.methodLink RL 143 yX6_fits ∈ wB := wB_of 995 (by decide +kernel) (by decide +kernel)
theorem mlL_146 : Cond.methodLink RL 146 yX7_fits ∈ wB := wB_of 1773 (by decide +kernel) (by decide +kernel)
theorem mlL_147 : Cond.methodLink RL 147 yX6_fitAt ∈ wB := wB_of 1018 (by decide +kernel) (by decide +kernel)
theorem mlL_150 : Cond.methodLink RL 150 yX7_fitAt ∈ wB := wB_of 1785 (by decide +kernel) (by decide +kernel)
theorem mlL_151 : Cond.methodLink RL 151 yX6_could ∈ wB := wB_of 1022 (by decide +kernel) (by decide +kernel)
theorem mlL_154 : Cond.methodLink RL 154 yX7_could ∈ wB := wB_of 1789 (by decide +kernel) (by decide +kernel)
theorem mlL_155 : Cond.methodLink RL 155 yX6_surely ∈ wB := wB_of 1029 (by decide +kernel) (by decide +kernel)
theorem mlL_158 : Cond.methodLink RL 158 yX7_surely ∈ wB := wB_of 1793 (by decide +kernel) (by decide +kernel)
theorem mlL_159 : Cond.methodLink RL 159 yX6_ask ∈ wB := wB_of 1033 (by decide +kernel) (by decide +kernel)
theorem mlL_162 : Cond.methodLink RL 162 yX7_ask ∈ wB := wB_of 1797 (by decide +kernel) (by decide +kernel)
theorem mlL_163 : Cond.methodLink RL 163 yX6_askLeaves ∈ wB := wB_of 1044 (by decide +kernel) (by decide +kernel)
theorem mlL_166 : Cond.methodLink RL 166 yX7_askLeaves ∈ wB := wB_of 1809 (by decide +kernel) (by decide +kernel)
theorem mlL_167 : Cond.methodLink RL 167 yX6_judge ∈ wB := wB_of 1048 (by decide +kernel) (by decide +kernel)
theorem mlL_170 : Cond.methodLink RL 170 yX7_judge ∈ wB := wB_of 1813 (by decide +kernel) (by decide +kernel)
theorem mlL_171 : Cond.methodLink RL 171 yX6_sulks ∈ wB := wB_of 1052 (by decide +kernel) (by decide +kernel)
theorem mlL_175 : Cond.methodLink RL 175 yX7_sulks ∈ wB := wB_of 1817 (by decide +kernel) (by decide +kernel)
theorem mlL_176 : Cond.methodLink RL 176 yX6_rests ∈ wB := wB_of 1063 (by decide +kernel) (by decide +kernel)
theorem mlL_179 : Cond.methodLink RL 179 yX7_rests ∈ wB := wB_of 1827 (by decide +kernel) (by decide +kernel)
theorem mlL_180 : Cond.methodLink RL 180 yX6_rest ∈ wB := wB_of 1070 (by decide +kernel) (by decide +kernel)
theorem mlL_183 : Cond.methodLink RL 183 yX7_rest ∈ wB := wB_of 1835 (by decide +kernel) (by decide +kernel)
theorem mlL_184 : Cond.methodLink RL 184 yX6_odds ∈ wB := wB_of 1074 (by decide +kernel) (by decide +kernel)
theorem mlL_188 : Cond.methodLink RL 188 yX7_odds ∈ wB := wB_of 1839 (by decide +kernel) (by decide +kernel)
theorem mlL_189 : Cond.methodLink RL 189 yX6_mean ∈ wB := wB_of 1094 (by decide +kernel) (by decide +kernel)
theorem mlL_192 : Cond.methodLink RL 192 yX7_mean ∈ wB := wB_of 1850 (by decide +kernel) (by decide +kernel)
theorem mlL_193 : Cond.methodLink RL 193 yX6_borne ∈ wB := wB_of 1098 (by decide +kernel) (by decide +kernel)
theorem mlL_196 : Cond.methodLink RL 196 yX7_borne ∈ wB := wB_of 1854 (by decide +kernel) (by decide +kernel)
theorem mlL_197 : Cond.methodLink RL 197 yX6_firstWet ∈ wB := wB_of 1113 (by decide +kernel) (by decide +kernel)
theorem mlL_200 : Cond.methodLink RL 200 yX7_firstWet ∈ wB := wB_of 1864 (by decide +kernel) (by decide +kernel)
theorem mlL_201 : Cond.methodLink RL 201 yX6_day ∈ wB := wB_of 1121 (by decide +kernel) (by decide +kernel)
theorem mlL_204 : Cond.methodLink RL 204 yX7_day ∈ wB := wB_of 1868 (by decide +kernel) (by decide +kernel)
theorem mlL_205 : Cond.methodLink RL 205 yX6_give ∈ wB := wB_of 1134 (by decide +kernel) (by decide +kernel)
theorem mlL_208 : Cond.methodLink RL 208 yX7_give ∈ wB := wB_of 1876 (by decide +kernel) (by decide +kernel)
theorem mlL_209 : Cond.methodLink RL 209 yX6_mend ∈ wB := wB_of 1138 (by decide +kernel) (by decide +kernel)
theorem mlL_213 : Cond.methodLink RL 213 yX7_mend ∈ wB := wB_of 1880 (by decide +kernel) (by decide +kernel)
theorem mlL_214 : Cond.methodLink RL 214 yX6_vex ∈ wB := wB_of 1142 (by decide +kernel) (by decide +kernel)
theorem mlL_217 : Cond.methodLink RL 217 yX7_vex ∈ wB := wB_of 1888 (by decide +kernel) (by decide +kernel)
theorem mlL_218 : Cond.methodLink RL 218 yX6_undo ∈ wB := wB_of 1146 (by decide +kernel) (by decide +kernel)
theorem mlL_222 : Cond.methodLink RL 222 yX7_undo ∈ wB := wB_of 1892 (by decide +kernel) (by decide +kernel)
theorem mlL_223 : Cond.methodLink RL 223 yX6_image ∈ wB := wB_of 1150 (by decide +kernel) (by decide +kernel)
theorem mlL_226 : Cond.methodLink RL 226 yX7_image ∈ wB := wB_of 1896 (by decide +kernel) (by decide +kernel)
theorem mlL_227 : Cond.methodLink RL 227 yX6_back ∈ wB := wB_of 1154 (by decide +kernel) (by decide +kernel)
theorem mlL_230 : Cond.methodLink RL 230 yX7_back ∈ wB := wB_of 1900 (by decide +kernel) (by decide +kernel)
theorem mlL_236 : Cond.methodLink RL 236 yX7_led ∈ wB := wB_of 1904 (by decide +kernel) (by decide +kernel)
theorem mlL_237 : Cond.methodLink RL 237 yX6_size ∈ wB := wB_of 1158 (by decide +kernel) (by decide +kernel)
theorem mlL_240 : Cond.methodLink RL 240 yX7_size ∈ wB := wB_of 1908 (by decide +kernel) (by decide +kernel)
theorem mlL_241 : Cond.methodLink RL 241 yX6_trouble ∈ wB := wB_of 1167 (by decide +kernel) (by decide +kernel)
theorem mlL_244 : Cond.methodLink RL 244 yX7_trouble ∈ wB := wB_of 1912 (by decide +kernel) (by decide +kernel)
theorem cw_X6_ask : cV uX6_ask 0 := ⟨⟨wB_of 1036 (by decide +kernel) (by decide +kernel), wB_of 127 (by decide +kernel) (by decide +kernel), by decide +kernel, by decide⟩, wB_of 1034 (by decide +kernel) (by decide +kernel), wB_of 1035 (by decide +kernel) (by decide +kernel)⟩
theorem cw_X6_askLeaves : cV uX6_askLeaves 0 := ⟨⟨wB_of 1047 (by decide +kernel) (by decide +kernel), wB_of 127 (by decide +kernel) (by decide +kernel), by decide +kernel, by decide⟩, wB_of 1045 (by decide +kernel) (by decide +kernel), wB_of 1046 (by decide +kernel) (by decide +kernel)⟩
theorem cw_X6_back : cV uX6_back 1 := ⟨⟨wB_of 1157 (by decide +kernel) (by decide +kernel), wB_of 127 (by decide +kernel) (by decide +kernel), by decide +kernel, by decide⟩, wB_of 1155 (by decide +kernel) (by decide +kernel), wB_of 1156 (by decide +kernel) (by decide +kernel)⟩
theorem cw_X6_bears : cV uX6_bears 2 := ⟨⟨wB_of 768 (by decide +kernel) (by decide +kernel), wB_of 127 (by decide +kernel) (by decide +kernel), by decide +kernel, by decide⟩, wB_of 766 (by decide +kernel) (by decide +kernel), wB_of 767 (by decide +kernel) (by decide +kernel)⟩
theorem cw_X6_borne : cV uX6_borne 3 := ⟨⟨wB_of 1101 (by decide +kernel) (by decide +kernel), wB_of 127 (by decide +kernel) (by decide +kernel), by decide +kernel, by decide⟩, wB_of 1099 (by decide +kernel) (by decide +kernel), wB_of 1100 (by decide +kernel) (by decide +kernel)⟩
theorem cw_X6_burden : cV uX6_burden 0 := ⟨⟨wB_of 760 (by decide +kernel) (by decide +kernel), wB_of 127 (by decide +kernel) (by decide +kernel), by decide +kernel, by decide⟩, wB_of 758 (by decide +kernel) (by decide +kernel), wB_of 759 (by decide +kernel) (by decide +kernel)⟩
theorem cw_X6_canon : cV uX6_canon 2 := ⟨⟨wB_of 732 (by decide +kernel) (by decide +kernel), wB_of 127 (by decide +kernel) (by decide +kernel), by decide +kernel, by decide⟩, wB_of 730 (by decide +kernel) (by decide +kernel), wB_of 731 (by decide +kernel) (by decide +kernel)⟩
theorem cw_X6_cell : cV uX6_cell 2 := ⟨⟨wB_of 740 (by decide +kernel) (by decide +kernel), wB_of 127 (by decide +kernel) (by decide +kernel), by decide +kernel, by decide⟩, wB_of 738 (by decide +kernel) (by decide +kernel), wB_of 739 (by decide +kernel) (by decide +kernel)⟩
theorem cw_X6_close : cV uX6_close 1 := ⟨⟨wB_of 495 (by decide +kernel) (by decide +kernel), wB_of 127 (by decide +kernel) (by decide +kernel), by decide +kernel, by decide⟩, wB_of 493 (by decide +kernel) (by decide +kernel), wB_of 494 (by decide +kernel) (by decide +kernel)⟩
theorem cw_X6_could : cV uX6_could 0 := ⟨⟨wB_of 1025 (by decide +kernel) (by decide +kernel), wB_of 127 (by decide +kernel) (by decide +kernel), by decide +kernel, by decide⟩, wB_of 1023 (by decide +kernel) (by decide +kernel), wB_of 1024 (by decide +kernel) (by decide +kernel)⟩
theorem cw_X6_day : cV uX6_day 0 := ⟨⟨wB_of 1124 (by decide +kernel) (by decide +kernel), wB_of 127 (by decide +kernel) (by decide +kernel), by decide +kernel, by decide⟩, wB_of 1122 (by decide +kernel) (by decide +kernel), wB_of 1123 (by decide +kernel) (by decide +kernel)⟩
theorem cw_X6_drops : cV uX6_drops 2 := ⟨⟨wB_of 805 (by decide +kernel) (by decide +kernel), wB_of 127 (by decide +kernel) (by decide +kernel), by decide +kernel, by decide⟩, wB_of 803 (by decide +kernel) (by decide +kernel), wB_of 804 (by decide +kernel) (by decide +kernel)⟩
theorem cw_X6_dropsIf : cV uX6_dropsIf 3 := ⟨⟨wB_of 861 (by decide +kernel) (by decide +kernel), wB_of 127 (by decide +kernel) (by decide +kernel), by decide +kernel, by decide⟩, wB_of 859 (by decide +kernel) (by decide +kernel), wB_of 860 (by decide +kernel) (by decide +kernel)⟩
theorem cw_X6_dropsIn : cV uX6_dropsIn 1 := ⟨⟨wB_of 809 (by decide +kernel) (by decide +kernel), wB_of 127 (by decide +kernel) (by decide +kernel), by decide +kernel, by decide⟩, wB_of 807 (by decide +kernel) (by decide +kernel), wB_of 808 (by decide +kernel) (by decide +kernel)⟩
theorem cw_X6_dryDay : cV uX6_dryDay 1 := ⟨⟨wB_of 986 (by decide +kernel) (by decide +kernel), wB_of 127 (by decide +kernel) (by decide +kernel), by decide +kernel, by decide⟩, wB_of 984 (by decide +kernel) (by decide +kernel), wB_of 985 (by decide +kernel) (by decide +kernel)⟩
theorem cw_X6_face : cV uX6_face 2 := ⟨⟨wB_of 716 (by decide +kernel) (by decide +kernel), wB_of 127 (by decide +kernel) (by decide +kernel), by decide +kernel, by decide⟩, wB_of 714 (by decide +kernel) (by decide +kernel), wB_of 715 (by decide +kernel) (by decide +kernel)⟩
theorem cw_X6_faceFor : cV uX6_faceFor 2 := ⟨⟨wB_of 877 (by decide +kernel) (by decide +kernel), wB_of 127 (by decide +kernel) (by decide +kernel), by decide +kernel, by decide⟩, wB_of 875 (by decide +kernel) (by decide +kernel), wB_of 876 (by decide +kernel) (by decide +kernel)⟩
theorem cw_X6_fallen : cV uX6_fallen 1 := ⟨⟨wB_of 857 (by decide +kernel) (by decide +kernel), wB_of 127 (by decide +kernel) (by decide +kernel), by decide +kernel, by decide⟩, wB_of 855 (by decide +kernel) (by decide +kernel), wB_of 856 (by decide +kernel) (by decide +kernel)⟩
theorem cw_X6_fallsIn : cV uX6_fallsIn 1 := ⟨⟨wB_of 817 (by decide +kernel) (by decide +kernel), wB_of 127 (by decide +kernel) (by decide +kernel), by decide +kernel, by decide⟩, wB_of 815 (by decide +kernel) (by decide +kernel), wB_of 816 (by decide +kernel) (by decide +kernel)⟩
theorem cw_X6_fault : cV uX6_fault 0 := ⟨⟨wB_of 708 (by decide +kernel) (by decide +kernel), wB_of 127 (by decide +kernel) (by decide +kernel), by decide +kernel, by decide⟩, wB_of 706 (by decide +kernel) (by decide +kernel), wB_of 707 (by decide +kernel) (by decide +kernel)⟩
theorem cw_X6_feed : cV uX6_feed 5 := ⟨⟨wB_of 487 (by decide +kernel) (by decide +kernel), wB_of 127 (by decide +kernel) (by decide +kernel), by decide +kernel, by decide⟩, wB_of 485 (by decide +kernel) (by decide +kernel), wB_of 486 (by decide +kernel) (by decide +kernel)⟩
theorem cw_X6_firstWet : cV uX6_firstWet 2 := ⟨⟨wB_of 1116 (by decide +kernel) (by decide +kernel), wB_of 127 (by decide +kernel) (by decide +kernel), by decide +kernel, by decide⟩, wB_of 1114 (by decide +kernel) (by decide +kernel), wB_of 1115 (by decide +kernel) (by decide +kernel)⟩
theorem cw_X6_fitAt : cV uX6_fitAt 1 := ⟨⟨wB_of 1021 (by decide +kernel) (by decide +kernel), wB_of 127 (by decide +kernel) (by decide +kernel), by decide +kernel, by decide⟩, wB_of 1019 (by decide +kernel) (by decide +kernel), wB_of 1020 (by decide +kernel) (by decide +kernel)⟩
theorem cw_X6_fits : cV uX6_fits 0 := ⟨⟨wB_of 998 (by decide +kernel) (by decide +kernel), wB_of 127 (by decide +kernel) (by decide +kernel), by decide +kernel, by decide⟩, wB_of 996 (by decide +kernel) (by decide +kernel), wB_of 997 (by decide +kernel) (by decide +kernel)⟩
theorem cw_X6_gate : cV uX6_gate 0 := ⟨⟨wB_of 990 (by decide +kernel) (by decide +kernel), wB_of 127 (by decide +kernel) (by decide +kernel), by decide +kernel, by decide⟩, wB_of 988 (by decide +kernel) (by decide +kernel), wB_of 989 (by decide +kernel) (by decide +kernel)⟩
theorem cw_X6_give : cV uX6_give 2 := ⟨⟨wB_of 1137 (by decide +kernel) (by decide +kernel), wB_of 127 (by decide +kernel) (by decide +kernel), by decide +kernel, by decide⟩, wB_of 1135 (by decide +kernel) (by decide +kernel), wB_of 1136 (by decide +kernel) (by decide +kernel)⟩
theorem cw_X6_heaviest : cV uX6_heaviest 0 := ⟨⟨wB_of 850 (by decide +kernel) (by decide +kernel), wB_of 127 (by decide +kernel) (by decide +kernel), by decide +kernel, by decide⟩, wB_of 848 (by decide +kernel) (by decide +kernel), wB_of 849 (by decide +kernel) (by decide +kernel)⟩
theorem cw_X6_holds : cV uX6_holds 2 := ⟨⟨wB_of 801 (by decide +kernel) (by decide +kernel), wB_of 127 (by decide +kernel) (by decide +kernel), by decide +kernel, by decide⟩, wB_of 799 (by decide +kernel) (by decide +kernel), wB_of 800 (by decide +kernel) (by decide +kernel)⟩
theorem cw_X6_image : cV uX6_image 0 := ⟨⟨wB_of 1153 (by decide +kernel) (by decide +kernel), wB_of 127 (by decide +kernel) (by decide +kernel), by decide +kernel, by decide⟩, wB_of 1151 (by decide +kernel) (by decide +kernel), wB_of 1152 (by decide +kernel) (by decide +kernel)⟩
theorem cw_X6_judge : cV uX6_judge 0 := ⟨⟨wB_of 1051 (by decide +kernel) (by decide +kernel), wB_of 127 (by decide +kernel) (by decide +kernel), by decide +kernel, by decide⟩, wB_of 1049 (by decide +kernel) (by decide +kernel), wB_of 1050 (by decide +kernel) (by decide +kernel)⟩
theorem cw_X6_match : cV uX6_match 1 := ⟨⟨wB_of 881 (by decide +kernel) (by decide +kernel), wB_of 127 (by decide +kernel) (by decide +kernel), by decide +kernel, by decide⟩, wB_of 879 (by decide +kernel) (by decide +kernel), wB_of 880 (by decide +kernel) (by decide +kernel)⟩
theorem cw_X6_matchAt : cV uX6_matchAt 2 := ⟨⟨wB_of 919 (by decide +kernel) (by decide +kernel), wB_of 127 (by decide +kernel) (by decide +kernel), by decide +kernel, by decide⟩, wB_of 917 (by decide +kernel) (by decide +kernel), wB_of 918 (by decide +kernel) (by decide +kernel)⟩
theorem cw_X6_matchDrops : cV uX6_matchDrops 1 := ⟨⟨wB_of 915 (by decide +kernel) (by decide +kernel), wB_of 127 (by decide +kernel) (by decide +kernel), by decide +kernel, by decide⟩, wB_of 913 (by decide +kernel) (by decide +kernel), wB_of 914 (by decide +kernel) (by decide +kernel)⟩
theorem cw_X6_mean : cV uX6_mean 3 := ⟨⟨wB_of 1097 (by decide +kernel) (by decide +kernel), wB_of 127 (by decide +kernel) (by decide +kernel), by decide +kernel, by decide⟩, wB_of 1095 (by decide +kernel) (by decide +kernel), wB_of 1096 (by decide +kernel) (by decide +kernel)⟩
theorem cw_X6_mend : cV uX6_mend 1 := ⟨⟨wB_of 1141 (by decide +kernel) (by decide +kernel), wB_of 127 (by decide +kernel) (by decide +kernel), by decide +kernel, by decide⟩, wB_of 1139 (by decide +kernel) (by decide +kernel), wB_of 1140 (by decide +kernel) (by decide +kernel)⟩
theorem cw_X6_odds : cV uX6_odds 3 := ⟨⟨wB_of 1077 (by decide +kernel) (by decide +kernel), wB_of 127 (by decide +kernel) (by decide +kernel), by decide +kernel, by decide⟩, wB_of 1075 (by decide +kernel) (by decide +kernel), wB_of 1076 (by decide +kernel) (by decide +kernel)⟩
theorem cw_X6_rest : cV uX6_rest 1 := ⟨⟨wB_of 1073 (by decide +kernel) (by decide +kernel), wB_of 127 (by decide +kernel) (by decide +kernel), by decide +kernel, by decide⟩, wB_of 1071 (by decide +kernel) (by decide +kernel), wB_of 1072 (by decide +kernel) (by decide +kernel)⟩
theorem cw_X6_rests : cV uX6_rests 1 := ⟨⟨wB_of 1066 (by decide +kernel) (by decide +kernel), wB_of 127 (by decide +kernel) (by decide +kernel), by decide +kernel, by decide⟩, wB_of 1064 (by decide +kernel) (by decide +kernel), wB_of 1065 (by decide +kernel) (by decide +kernel)⟩
theorem cw_X6_size : cV uX6_size 1 := ⟨⟨wB_of 1161 (by decide +kernel) (by decide +kernel), wB_of 127 (by decide +kernel) (by decide +kernel), by decide +kernel, by decide⟩, wB_of 1159 (by decide +kernel) (by decide +kernel), wB_of 1160 (by decide +kernel) (by decide +kernel)⟩
theorem cw_X6_steps : cV uX6_steps 2 := ⟨⟨wB_of 923 (by decide +kernel) (by decide +kernel), wB_of 127 (by decide +kernel) (by decide +kernel), by decide +kernel, by decide⟩, wB_of 921 (by decide +kernel) (by decide +kernel), wB_of 922 (by decide +kernel) (by decide +kernel)⟩
theorem cw_X6_sulks : cV uX6_sulks 4 := ⟨⟨wB_of 1055 (by decide +kernel) (by decide +kernel), wB_of 127 (by decide +kernel) (by decide +kernel), by decide +kernel, by decide⟩, wB_of 1053 (by decide +kernel) (by decide +kernel), wB_of 1054 (by decide +kernel) (by decide +kernel)⟩
theorem cw_X6_sunny : cV uX6_sunny 0 := ⟨⟨wB_of 846 (by decide +kernel) (by decide +kernel), wB_of 127 (by decide +kernel) (by decide +kernel), by decide +kernel, by decide⟩, wB_of 844 (by decide +kernel) (by decide +kernel), wB_of 845 (by decide +kernel) (by decide +kernel)⟩
theorem cw_X6_surely : cV uX6_surely 0 := ⟨⟨wB_of 1032 (by decide +kernel) (by decide +kernel), wB_of 127 (by decide +kernel) (by decide +kernel), by decide +kernel, by decide⟩, wB_of 1030 (by decide +kernel) (by decide +kernel), wB_of 1031 (by decide +kernel) (by decide +kernel)⟩
theorem cw_X6_trouble : cV uX6_trouble 0 := ⟨⟨wB_of 1170 (by decide +kernel) (by decide +kernel), wB_of 127 (by decide +kernel) (by decide +kernel), by decide +kernel, by decide⟩, wB_of 1168 (by decide +kernel) (by decide +kernel), wB_of 1169 (by decide +kernel) (by decide +kernel)⟩
theorem cw_X6_undo : cV uX6_undo 0 := ⟨⟨wB_of 1149 (by decide +kernel) (by decide +kernel), wB_of 127 (by decide +kernel) (by decide +kernel), by decide +kernel, by decide⟩, wB_of 1147 (by decide +kernel) (by decide +kernel), wB_of 1148 (by decide +kernel) (by decide +kernel)⟩
theorem cw_X6_vex : cV uX6_vex 2 := ⟨⟨wB_of 1145 (by decide +kernel) (by decide +kernel), wB_of 127 (by decide +kernel) (by decide +kernel), by decide +kernel, by decide⟩, wB_of 1143 (by decide +kernel) (by decide +kernel), wB_of 1144 (by decide +kernel) (by decide +kernel)⟩
theorem cw_X6_way : cV uX6_way 2 := ⟨⟨wB_of 970 (by decide +kernel) (by decide +kernel), wB_of 127 (by decide +kernel) (by decide +kernel), by decide +kernel, by decide⟩, wB_of 968 (by decide +kernel) (by decide +kernel), wB_of 969 (by decide +kernel) (by decide +kernel)⟩
theorem cw_X6_wayAt : cV uX6_wayAt 3 := ⟨⟨wB_of 974 (by decide +kernel) (by decide +kernel), wB_of 127 (by decide +kernel) (by decide +kernel), by decide +kernel, by decide⟩, wB_of 972 (by decide +kernel) (by decide +kernel), wB_of 973 (by decide +kernel) (by decide +kernel)⟩
theorem cw_X6_wet : cV uX6_wet 1 := ⟨⟨wB_of 822 (by decide +kernel) (by decide +kernel), wB_of 127 (by decide +kernel) (by decide +kernel), by decide +kernel, by decide⟩, wB_of 820 (by decide +kernel) (by decide +kernel), wB_of 821 (by decide +kernel) (by decide +kernel)⟩
theorem cw_X6_wetDays : cV uX6_wetDays 2 := ⟨⟨wB_of 834 (by decide +kernel) (by decide +kernel), wB_of 127 (by decide +kernel) (by decide +kernel), by decide +kernel, by decide⟩, wB_of 832 (by decide +kernel) (by decide +kernel), wB_of 833 (by decide +kernel) (by decide +kernel)⟩
theorem cw_X6_wets : cV uX6_wets 2 := ⟨⟨wB_of 932 (by decide +kernel) (by decide +kernel), wB_of 127 (by decide +kernel) (by decide +kernel), by decide +kernel, by decide⟩, wB_of 930 (by decide +kernel) (by decide +kernel), wB_of 931 (by decide +kernel) (by decide +kernel)⟩
theorem cw_X6_wettest : cV uX6_wettest 0 := ⟨⟨wB_of 842 (by decide +kernel) (by decide +kernel), wB_of 127 (by decide +kernel) (by decide +kernel), by decide +kernel, by decide⟩, wB_of 840 (by decide +kernel) (by decide +kernel), wB_of 841 (by decide +kernel) (by decide +kernel)⟩
theorem cw_X6_where : cV uX6_where 0 := ⟨⟨wB_of 712 (by decide +kernel) (by decide +kernel), wB_of 127 (by decide +kernel) (by decide +kernel), by decide +kernel, by decide⟩, wB_of 710 (by decide +kernel) (by decide +kernel), wB_of 711 (by decide +kernel) (by decide +kernel)⟩
theorem cw_X7_ask : cV uX7_ask 0 := ⟨⟨wB_of 1800 (by decide +kernel) (by decide +kernel), wB_of 134 (by decide +kernel) (by decide +kernel), by decide +kernel, by decide⟩, wB_of 1798 (by decide +kernel) (by decide +kernel), wB_of 1799 (by decide +kernel) (by decide +kernel)⟩
theorem cw_X7_askLeaves : cV uX7_askLeaves 0 := ⟨⟨wB_of 1812 (by decide +kernel) (by decide +kernel), wB_of 134 (by decide +kernel) (by decide +kernel), by decide +kernel, by decide⟩, wB_of 1810 (by decide +kernel) (by decide +kernel), wB_of 1811 (by decide +kernel) (by decide +kernel)⟩
theorem cw_X7_back : cV uX7_back 1 := ⟨⟨wB_of 1903 (by decide +kernel) (by decide +kernel), wB_of 134 (by decide +kernel) (by decide +kernel), by decide +kernel, by decide⟩, wB_of 1901 (by decide +kernel) (by decide +kernel), wB_of 1902 (by decide +kernel) (by decide +kernel)⟩
theorem cw_X7_bears : cV uX7_bears 2 := ⟨⟨wB_of 1596 (by decide +kernel) (by decide +kernel), wB_of 134 (by decide +kernel) (by decide +kernel), by decide +kernel, by decide⟩, wB_of 1594 (by decide +kernel) (by decide +kernel), wB_of 1595 (by decide +kernel) (by decide +kernel)⟩
theorem cw_X7_borne : cV uX7_borne 3 := ⟨⟨wB_of 1857 (by decide +kernel) (by decide +kernel), wB_of 134 (by decide +kernel) (by decide +kernel), by decide +kernel, by decide⟩, wB_of 1855 (by decide +kernel) (by decide +kernel), wB_of 1856 (by decide +kernel) (by decide +kernel)⟩
theorem cw_X7_burden : cV uX7_burden 0 := ⟨⟨wB_of 1592 (by decide +kernel) (by decide +kernel), wB_of 134 (by decide +kernel) (by decide +kernel), by decide +kernel, by decide⟩, wB_of 1590 (by decide +kernel) (by decide +kernel), wB_of 1591 (by decide +kernel) (by decide +kernel)⟩
theorem cw_X7_canon : cV uX7_canon 2 := ⟨⟨wB_of 1556 (by decide +kernel) (by decide +kernel), wB_of 134 (by decide +kernel) (by decide +kernel), by decide +kernel, by decide⟩, wB_of 1554 (by decide +kernel) (by decide +kernel), wB_of 1555 (by decide +kernel) (by decide +kernel)⟩
theorem cw_X7_cell : cV uX7_cell 2 := ⟨⟨wB_of 1564 (by decide +kernel) (by decide +kernel), wB_of 134 (by decide +kernel) (by decide +kernel), by decide +kernel, by decide⟩, wB_of 1562 (by decide +kernel) (by decide +kernel), wB_of 1563 (by decide +kernel) (by decide +kernel)⟩
theorem cw_X7_close : cV uX7_close 1 := ⟨⟨wB_of 1386 (by decide +kernel) (by decide +kernel), wB_of 134 (by decide +kernel) (by decide +kernel), by decide +kernel, by decide⟩, wB_of 1384 (by decide +kernel) (by decide +kernel), wB_of 1385 (by decide +kernel) (by decide +kernel)⟩
theorem cw_X7_could : cV uX7_could 0 := ⟨⟨wB_of 1792 (by decide +kernel) (by decide +kernel), wB_of 134 (by decide +kernel) (by decide +kernel), by decide +kernel, by decide⟩, wB_of 1790 (by decide +kernel) (by decide +kernel), wB_of 1791 (by decide +kernel) (by decide +kernel)⟩
theorem cw_X7_day : cV uX7_day 0 := ⟨⟨wB_of 1871 (by decide +kernel) (by decide +kernel), wB_of 134 (by decide +kernel) (by decide +kernel), by decide +kernel, by decide⟩, wB_of 1869 (by decide +kernel) (by decide +kernel), wB_of 1870 (by decide +kernel) (by decide +kernel)⟩
theorem cw_X7_drops : cV uX7_drops 2 := ⟨⟨wB_of 1628 (by decide +kernel) (by decide +kernel), wB_of 134 (by decide +kernel) (by decide +kernel), by decide +kernel, by decide⟩, wB_of 1626 (by decide +kernel) (by decide +kernel), wB_of 1627 (by decide +kernel) (by decide +kernel)⟩
theorem cw_X7_dropsIf : cV uX7_dropsIf 3 := ⟨⟨wB_of 1672 (by decide +kernel) (by decide +kernel), wB_of 134 (by decide +kernel) (by decide +kernel), by decide +kernel, by decide⟩, wB_of 1670 (by decide +kernel) (by decide +kernel), wB_of 1671 (by decide +kernel) (by decide +kernel)⟩
theorem cw_X7_dropsIn : cV uX7_dropsIn 1 := ⟨⟨wB_of 1632 (by decide +kernel) (by decide +kernel), wB_of 134 (by decide +kernel) (by decide +kernel), by decide +kernel, by decide⟩, wB_of 1630 (by decide +kernel) (by decide +kernel), wB_of 1631 (by decide +kernel) (by decide +kernel)⟩
theorem cw_X7_dryDay : cV uX7_dryDay 1 := ⟨⟨wB_of 1764 (by decide +kernel) (by decide +kernel), wB_of 134 (by decide +kernel) (by decide +kernel), by decide +kernel, by decide⟩, wB_of 1762 (by decide +kernel) (by decide +kernel), wB_of 1763 (by decide +kernel) (by decide +kernel)⟩
theorem cw_X7_face : cV uX7_face 2 := ⟨⟨wB_of 1544 (by decide +kernel) (by decide +kernel), wB_of 134 (by decide +kernel) (by decide +kernel), by decide +kernel, by decide⟩, wB_of 1542 (by decide +kernel) (by decide +kernel), wB_of 1543 (by decide +kernel) (by decide +kernel)⟩
theorem cw_X7_faceFor : cV uX7_faceFor 2 := ⟨⟨wB_of 1699 (by decide +kernel) (by decide +kernel), wB_of 134 (by decide +kernel) (by decide +kernel), by decide +kernel, by decide⟩, wB_of 1697 (by decide +kernel) (by decide +kernel), wB_of 1698 (by decide +kernel) (by decide +kernel)⟩
theorem cw_X7_fallen : cV uX7_fallen 1 := ⟨⟨wB_of 1664 (by decide +kernel) (by decide +kernel), wB_of 134 (by decide +kernel) (by decide +kernel), by decide +kernel, by decide⟩, wB_of 1662 (by decide +kernel) (by decide +kernel), wB_of 1663 (by decide +kernel) (by decide +kernel)⟩
theorem cw_X7_fallsIn : cV uX7_fallsIn 1 := ⟨⟨wB_of 1636 (by decide +kernel) (by decide +kernel), wB_of 134 (by decide +kernel) (by decide +kernel), by decide +kernel, by decide⟩, wB_of 1634 (by decide +kernel) (by decide +kernel), wB_of 1635 (by decide +kernel) (by decide +kernel)⟩
theorem cw_X7_fault : cV uX7_fault 0 := ⟨⟨wB_of 1536 (by decide +kernel) (by decide +kernel), wB_of 134 (by decide +kernel) (by decide +kernel), by decide +kernel, by decide⟩, wB_of 1534 (by decide +kernel) (by decide +kernel), wB_of 1535 (by decide +kernel) (by decide +kernel)⟩
theorem cw_X7_feed : cV uX7_feed 5 := ⟨⟨wB_of 1382 (by decide +kernel) (by decide +kernel), wB_of 134 (by decide +kernel) (by decide +kernel), by decide +kernel, by decide⟩, wB_of 1380 (by decide +kernel) (by decide +kernel), wB_of 1381 (by decide +kernel) (by decide +kernel)⟩
theorem cw_X7_firstWet : cV uX7_firstWet 2 := ⟨⟨wB_of 1867 (by decide +kernel) (by decide +kernel), wB_of 134 (by decide +kernel) (by decide +kernel), by decide +kernel, by decide⟩, wB_of 1865 (by decide +kernel) (by decide +kernel), wB_of 1866 (by decide +kernel) (by decide +kernel)⟩
theorem cw_X7_fitAt : cV uX7_fitAt 1 := ⟨⟨wB_of 1788 (by decide +kernel) (by decide +kernel), wB_of 134 (by decide +kernel) (by decide +kernel), by decide +kernel, by decide⟩, wB_of 1786 (by decide +kernel) (by decide +kernel), wB_of 1787 (by decide +kernel) (by decide +kernel)⟩
theorem cw_X7_fits : cV uX7_fits 0 := ⟨⟨wB_of 1776 (by decide +kernel) (by decide +kernel), wB_of 134 (by decide +kernel) (by decide +kernel), by decide +kernel, by decide⟩, wB_of 1774 (by decide +kernel) (by decide +kernel), wB_of 1775 (by decide +kernel) (by decide +kernel)⟩
theorem cw_X7_gate : cV uX7_gate 0 := ⟨⟨wB_of 1768 (by decide +kernel) (by decide +kernel), wB_of 134 (by decide +kernel) (by decide +kernel), by decide +kernel, by decide⟩, wB_of 1766 (by decide +kernel) (by decide +kernel), wB_of 1767 (by decide +kernel) (by decide +kernel)⟩
theorem cw_X7_give : cV uX7_give 2 := ⟨⟨wB_of 1879 (by decide +kernel) (by decide +kernel), wB_of 134 (by decide +kernel) (by decide +kernel), by decide +kernel, by decide⟩, wB_of 1877 (by decide +kernel) (by decide +kernel), wB_of 1878 (by decide +kernel) (by decide +kernel)⟩
theorem cw_X7_heaviest : cV uX7_heaviest 0 := ⟨⟨wB_of 1660 (by decide +kernel) (by decide +kernel), wB_of 134 (by decide +kernel) (by decide +kernel), by decide +kernel, by decide⟩, wB_of 1658 (by decide +kernel) (by decide +kernel), wB_of 1659 (by decide +kernel) (by decide +kernel)⟩
theorem cw_X7_holds : cV uX7_holds 2 := ⟨⟨wB_of 1624 (by decide +kernel) (by decide +kernel), wB_of 134 (by decide +kernel) (by decide +kernel), by decide +kernel, by decide⟩, wB_of 1622 (by decide +kernel) (by decide +kernel), wB_of 1623 (by decide +kernel) (by decide +kernel)⟩
theorem cw_X7_image : cV uX7_image 0 := ⟨⟨wB_of 1899 (by decide +kernel) (by decide +kernel), wB_of 134 (by decide +kernel) (by decide +kernel), by decide +kernel, by decide⟩, wB_of 1897 (by decide +kernel) (by decide +kernel), wB_of 1898 (by decide +kernel) (by decide +kernel)⟩
theorem cw_X7_judge : cV uX7_judge 0 := ⟨⟨wB_of 1816 (by decide +kernel) (by decide +kernel), wB_of 134 (by decide +kernel) (by decide +kernel), by decide +kernel, by decide⟩, wB_of 1814 (by decide +kernel) (by decide +kernel), wB_of 1815 (by decide +kernel) (by decide +kernel)⟩
theorem cw_X7_led : cV uX7_led 1 := ⟨⟨wB_of 1907 (by decide +kernel) (by decide +kernel), wB_of 134 (by decide +kernel) (by decide +kernel), by decide +kernel, by decide⟩, wB_of 1905 (by decide +kernel) (by decide +kernel), wB_of 1906 (by decide +kernel) (by decide +kernel)⟩
theorem cw_X7_match : cV uX7_match 1 := ⟨⟨wB_of 1707 (by decide +kernel) (by decide +kernel), wB_of 134 (by decide +kernel) (by decide +kernel), by decide +kernel, by decide⟩, wB_of 1705 (by decide +kernel) (by decide +kernel), wB_of 1706 (by decide +kernel) (by decide +kernel)⟩
theorem cw_X7_matchAt : cV uX7_matchAt 2 := ⟨⟨wB_of 1723 (by decide +kernel) (by decide +kernel), wB_of 134 (by decide +kernel) (by decide +kernel), by decide +kernel, by decide⟩, wB_of 1721 (by decide +kernel) (by decide +kernel), wB_of 1722 (by decide +kernel) (by decide +kernel)⟩
theorem cw_X7_matchDrops : cV uX7_matchDrops 1 := ⟨⟨wB_of 1719 (by decide +kernel) (by decide +kernel), wB_of 134 (by decide +kernel) (by decide +kernel), by decide +kernel, by decide⟩, wB_of 1717 (by decide +kernel) (by decide +kernel), wB_of 1718 (by decide +kernel) (by decide +kernel)⟩
theorem cw_X7_mean : cV uX7_mean 3 := ⟨⟨wB_of 1853 (by decide +kernel) (by decide +kernel), wB_of 134 (by decide +kernel) (by decide +kernel), by decide +kernel, by decide⟩, wB_of 1851 (by decide +kernel) (by decide +kernel), wB_of 1852 (by decide +kernel) (by decide +kernel)⟩
theorem cw_X7_mend : cV uX7_mend 1 := ⟨⟨wB_of 1883 (by decide +kernel) (by decide +kernel), wB_of 134 (by decide +kernel) (by decide +kernel), by decide +kernel, by decide⟩, wB_of 1881 (by decide +kernel) (by decide +kernel), wB_of 1882 (by decide +kernel) (by decide +kernel)⟩
theorem cw_X7_odds : cV uX7_odds 3 := ⟨⟨wB_of 1842 (by decide +kernel) (by decide +kernel), wB_of 134 (by decide +kernel) (by decide +kernel), by decide +kernel, by decide⟩, wB_of 1840 (by decide +kernel) (by decide +kernel), wB_of 1841 (by decide +kernel) (by decide +kernel)⟩
theorem cw_X7_rest : cV uX7_rest 1 := ⟨⟨wB_of 1838 (by decide +kernel) (by decide +kernel), wB_of 134 (by decide +kernel) (by decide +kernel), by decide +kernel, by decide⟩, wB_of 1836 (by decide +kernel) (by decide +kernel), wB_of 1837 (by decide +kernel) (by decide +kernel)⟩
theorem cw_X7_rests : cV uX7_rests 1 := ⟨⟨wB_of 1830 (by decide +kernel) (by decide +kernel), wB_of 134 (by decide +kernel) (by decide +kernel), by decide +kernel, by decide⟩, wB_of 1828 (by decide +kernel) (by decide +kernel), wB_of 1829 (by decide +kernel) (by decide +kernel)⟩
theorem cw_X7_size : cV uX7_size 1 := ⟨⟨wB_of 1911 (by decide +kernel) (by decide +kernel), wB_of 134 (by decide +kernel) (by decide +kernel), by decide +kernel, by decide⟩, wB_of 1909 (by decide +kernel) (by decide +kernel), wB_of 1910 (by decide +kernel) (by decide +kernel)⟩
theorem cw_X7_steps : cV uX7_steps 2 := ⟨⟨wB_of 1727 (by decide +kernel) (by decide +kernel), wB_of 134 (by decide +kernel) (by decide +kernel), by decide +kernel, by decide⟩, wB_of 1725 (by decide +kernel) (by decide +kernel), wB_of 1726 (by decide +kernel) (by decide +kernel)⟩
theorem cw_X7_sulks : cV uX7_sulks 4 := ⟨⟨wB_of 1820 (by decide +kernel) (by decide +kernel), wB_of 134 (by decide +kernel) (by decide +kernel), by decide +kernel, by decide⟩, wB_of 1818 (by decide +kernel) (by decide +kernel), wB_of 1819 (by decide +kernel) (by decide +kernel)⟩
theorem cw_X7_sunny : cV uX7_sunny 0 := ⟨⟨wB_of 1656 (by decide +kernel) (by decide +kernel), wB_of 134 (by decide +kernel) (by decide +kernel), by decide +kernel, by decide⟩, wB_of 1654 (by decide +kernel) (by decide +kernel), wB_of 1655 (by decide +kernel) (by decide +kernel)⟩
theorem cw_X7_surely : cV uX7_surely 0 := ⟨⟨wB_of 1796 (by decide +kernel) (by decide +kernel), wB_of 134 (by decide +kernel) (by decide +kernel), by decide +kernel, by decide⟩, wB_of 1794 (by decide +kernel) (by decide +kernel), wB_of 1795 (by decide +kernel) (by decide +kernel)⟩
theorem cw_X7_trouble : cV uX7_trouble 0 := ⟨⟨wB_of 1915 (by decide +kernel) (by decide +kernel), wB_of 134 (by decide +kernel) (by decide +kernel), by decide +kernel, by decide⟩, wB_of 1913 (by decide +kernel) (by decide +kernel), wB_of 1914 (by decide +kernel) (by decide +kernel)⟩
theorem cw_X7_undo : cV uX7_undo 0 := ⟨⟨wB_of 1895 (by decide +kernel) (by decide +kernel), wB_of 134 (by decide +kernel) (by decide +kernel), by decide +kernel, by decide⟩, wB_of 1893 (by decide +kernel) (by decide +kernel), wB_of 1894 (by decide +kernel) (by decide +kernel)⟩
theorem cw_X7_vex : cV uX7_vex 2 := ⟨⟨wB_of 1891 (by decide +kernel) (by decide +kernel), wB_of 134 (by decide +kernel) (by decide +kernel), by decide +kernel, by decide⟩, wB_of 1889 (by decide +kernel) (by decide +kernel), wB_of 1890 (by decide +kernel) (by decide +kernel)⟩
theorem cw_X7_way : cV uX7_way 2 := ⟨⟨wB_of 1756 (by decide +kernel) (by decide +kernel), wB_of 134 (by decide +kernel) (by decide +kernel), by decide +kernel, by decide⟩, wB_of 1754 (by decide +kernel) (by decide +kernel), wB_of 1755 (by decide +kernel) (by decide +kernel)⟩
theorem cw_X7_wayAt : cV uX7_wayAt 3 := ⟨⟨wB_of 1760 (by decide +kernel) (by decide +kernel), wB_of 134 (by decide +kernel) (by decide +kernel), by decide +kernel, by decide⟩, wB_of 1758 (by decide +kernel) (by decide +kernel), wB_of 1759 (by decide +kernel) (by decide +kernel)⟩
theorem cw_X7_wet : cV uX7_wet 1 := ⟨⟨wB_of 1640 (by decide +kernel) (by decide +kernel), wB_of 134 (by decide +kernel) (by decide +kernel), by decide +kernel, by decide⟩, wB_of 1638 (by decide +kernel) (by decide +kernel), wB_of 1639 (by decide +kernel) (by decide +kernel)⟩
theorem cw_X7_wetDays : cV uX7_wetDays 2 := ⟨⟨wB_of 1644 (by decide +kernel) (by decide +kernel), wB_of 134 (by decide +kernel) (by decide +kernel), by decide +kernel, by decide⟩, wB_of 1642 (by decide +kernel) (by decide +kernel), wB_of 1643 (by decide +kernel) (by decide +kernel)⟩
theorem cw_X7_wets : cV uX7_wets 2 := ⟨⟨wB_of 1744 (by decide +kernel) (by decide +kernel), wB_of 134 (by decide +kernel) (by decide +kernel), by decide +kernel, by decide⟩, wB_of 1742 (by decide +kernel) (by decide +kernel), wB_of 1743 (by decide +kernel) (by decide +kernel)⟩
theorem cw_X7_wettest : cV uX7_wettest 0 := ⟨⟨wB_of 1652 (by decide +kernel) (by decide +kernel), wB_of 134 (by decide +kernel) (by decide +kernel), by decide +kernel, by decide⟩, wB_of 1650 (by decide +kernel) (by decide +kernel), wB_of 1651 (by decide +kernel) (by decide +kernel)⟩
theorem cw_X7_where : cV uX7_where 0 := ⟨⟨wB_of 1540 (by decide +kernel) (by decide +kernel), wB_of 134 (by decide +kernel) (by decide +kernel), by decide +kernel, by decide⟩, wB_of 1538 (by decide +kernel) (by decide +kernel), wB_of 1539 (by decide +kernel) (by decide +kernel)⟩
theorem clL_8 : Cond.classLink RL 8 RX6 ∈ wB := wB_of 146 (by decide +kernel) (by decide +kernel)
theorem clL_16 : Cond.classLink RL 16 RX7 ∈ wB := wB_of 1240 (by decide +kernel) (by decide +kernel)
theorem mlL_231 : Cond.methodLink RL 231 yL_led ∈ wB := wB_of 1171 (by decide +kernel) (by decide +kernel)
theorem stL_led : Cond.static yL_led ∈ wB := wB_of 1172 (by decide +kernel) (by decide +kernel)
theorem inL : Cond.initialized RL ∈ wB := wB_of 126 (by decide +kernel) (by decide +kernel)
section OCL
variable {l : Launch} {X : Nat × (Nat → Int32)} {q : Md} {d : Nat} {b : Nat × Nat} {pc : Nat}
/-- the law's led, as a contract over memories -/
def EvL (l : Launch) (X : Nat × (Nat → Int32)) (d mc ms : Nat) (av : List Value) (M : Mm) (kr : KR) : Prop := ∀ (D : va_G) (g : Nat → ClassId) (ad : Nat → Nat) (A : Nat → Prop), Met l yL_led wzL (rz d mc ms) (pz D g ad X A av M) (qz D g ad A false M kr) mc ms A
def rj (b : Nat × Nat) (M : Mm) (ls : Ls) (rest : List Value) (mc ms : Nat) : Bool := Nat.ble (cs rest) 8 && (ls.all (fun x => rk (mN M) x.2) && (rest.all (rk (mN M)) && (Nat.ble (mC M + mc) b.1 && Nat.ble (mS M + ms) b.2)))
theorem rj_of {b : Nat × Nat} {M : Mm} {ls : Ls} {rest : List Value} {mc ms : Nat} (h : rj b M ls rest mc ms = true) : cs rest ≤ 8 ∧ ls.all (fun x => rk (mN M) x.2) = true ∧ rest.all (rk (mN M)) = true ∧ mC M + mc ≤ b.1 ∧ mS M + ms ≤ b.2 := by
  obtain ⟨h1, h⟩ := Bool.and_eq_true_iff.mp h
  obtain ⟨h2, h⟩ := Bool.and_eq_true_iff.mp h
  obtain ⟨h3, h⟩ := Bool.and_eq_true_iff.mp h
  obtain ⟨h4, h⟩ := Bool.and_eq_true_iff.mp h
  exact ⟨Nat.le_of_ble_eq_true h1, h2, h3, Nat.le_of_ble_eq_true h4, Nat.le_of_ble_eq_true h⟩
def oCl (l : Launch) (X : Nat × (Nat → Int32)) (d : Nat) (b : Nat × Nat) (pc : Nat) : OP := fun kn _ ls st M => match st with
  | .ref c :: .int i :: .ref a :: rest => cond (rj b M ls rest 1 6) (EvL l X d 1 6 [.ref a, .int i, .ref c] M (fun r M' => (mC M' = mC M + 1 ∧ mS M' = mS M + 6) ∧ kn (pc + 3) ls (r.toList ++ rest) M')) False
  | _ => False
theorem wB_goodL : GoodIn wB wzL := by
  intro w hw
  rcases List.mem_cons.mp hw with e | hw
  · rw [e]; exact ⟨cwL_led, good_of_word (List.mem_filter.mp cwL_led).2⟩
  · exact ⟨hw, good_of_word (List.mem_filter.mp hw).2⟩
theorem ok_cl (hd : decode uL.2.1 pc = .ok (.invokestatic 231, 3)) : OK l X uL (d + 1) false b pc (oCl l X d b pc) := by
  intro kn kr ls st M hk h
  simp only [oCl] at h
  split at h
  · rename_i c0 i0 a0 rest
    obtain ⟨h0, h⟩ := condT h
    obtain ⟨i1, i2, i3, i4, i5⟩ := rj_of h0
    refine Wf.callA (rest := rest) (kr' := fun r M' => (mC M' = mC M + 1 ∧ mS M' = mS M + 6) ∧ kn (pc + 3) ls (r.toList ++ rest) M') i2 i3 i4 i5 (fun r M' z => z.1) (fun r M' z => hk _ _ _ _ z.2) (fun p e R s m args below meth c' H locs cells slots D g ad A la hx hb hml hla hown hts g1 g2 g3 hK hN hP hp => ?_)
    refine ⟨(([.ref a0, .int i0, .ref c0] : List Value).map (iv ad)).toArray, ?_⟩
    have hBk : Back l R p e below s args yL_led 3 8 (PreOf R 1 6 (pz D g ad X A [.ref a0, .int i0, .ref c0] M)) (PostOf (qz D g ad A false M (fun r M' => (mC M' = mC M + 1 ∧ mS M' = mS M + 6) ∧ kn (pc + 3) ls (r.toList ++ rest) M')) 1 6 A) :=
      va_backW (bytes := cL_led) (maxL := 4) (ret := some .int) (hh := [(0, 9, 12, 13)]) (h D g ad A) (hp _).1 rfl rfl (by show d + 1 ≤ R.frames; exact g1) (by show 8 + (4 + 11) + 64 * d ≤ R.locals; omega) (pay_in hts wB_goodL) List.mem_cons_self (fun a' U hW => word_at hW (good_of_word (List.mem_filter.mp inL).2) (hts _ inL))
    intro T hT XT
    obtain ⟨mk', methM, cM, hnamed, hmethM, hcM, -, -, -, -, -, hsigM⟩ := Cond.codeWith_spec (hts _ cwL_led)
    have hstatic : methM.isStatic = true := Cond.static_spec hnamed hmethM (hts _ stL_led)
    obtain ⟨kP, hkP, -⟩ := className_of_methodNamed hnamed
    have hinitP : kP.init = .initialized := Cond.initialized_spec (findClass_of_methodNamed hnamed) hkP (hts _ inL)
    have hsg : ∀ sig, parseMethodDescriptor yL_led.desc = some sig → (([.ref a0, .int i0, .ref c0] : List Value).map (iv ad)).length = sig.parameters.length := fun sig hsig => by
      have hd : (parseMethodDescriptor yL_led.desc).map (fun d => d.parameters.length) = some 3 := by decide +kernel
      rw [hsig] at hd
      exact (Option.some.inj hd).symm
    have hd' : decode c'.code pc = .ok (.invokestatic 231, 3) := by rw [hb]; exact hd
    obtain ⟨vm₁, X₁, hstep₁⟩ := XT.invokestatic hx hown (hts _ mlL_231) hnamed hmethM hstatic hkP hinitP (by decide) (g := F0 m pc la ((Value.ref c0 :: .int i0 :: .ref a0 :: rest).map (iv ad))) rfl (argsL := ([.ref a0, .int i0, .ref c0] : List Value).map (iv ad)) (rest := rest.map (iv ad)) (hsg _ hsigM) rfl hd'
    obtain ⟨v, ⟨U', l2, c2, s2⟩, X', ⟨g', mk2, t, L, e1, e2, hq, h1, hL, h2, h3⟩, hsteps⟩ := hBk m meth c' ⟨T.setVm vm₁, locs, cells, slots⟩ (F0 m pc la (rest.map (iv ad))) (.invokestatic 231) mk' (([.ref a0, .int i0, .ref c0] : List Value).map (iv ad)).toArray X₁ rfl (hla.trans hml.symm) hd' (lv_room (by rw [cs_of]; exact i1)) (X₁.named hnamed) ⟨g3.1, g3.2, (hp _).2 (T.setVm vm₁) hT X₁.warmed⟩
    dsimp only [Pt.U, Pt.locs, Pt.cells, Pt.slots] at X' e1 e2 h1 h2 h3 hsteps
    subst h1; subst h2; subst h3
    exact ⟨v, (T.setVm vm₁).calling g' mk2 (([.ref a0, .int i0, .ref c0] : List Value).map (iv ad)).toArray, t, U', L, hT, X', hL, e1, e2, hq, fun target hh => hstep₁ _ fun acts => by rw [doInvoke_state]; exact hsteps.trans hh⟩
  · exact h.elim
end OCL
section POP2
variable {l : Launch} {X : Nat × (Nat → Int32)} {q : Md} {d : Nat} {na : Bool} {b : Nat × Nat} {tb : List (Nat × OP)} {kr : KR} {pc : Nat} {ls : Ls} {st : List Value} {M : Mm}
def oPop2 (pc : Nat) : OP := fun kn _ ls st M => match st with
  | .long _ :: st => kn (pc + 1) ls st M
  | _ => False
theorem ok_pop2 (hd : decode q.2.1 pc = .ok (.pop2, 1)) : OK l X q d na b pc (oPop2 pc) := by
  intro kn kr ls st M hk h
  simp only [oPop2] at h
  split at h
  · exact Wf.pure (fun _ _ _ _ _ _ _ _ _ _ _ _ _ _ ad la hx hb hown hts hl k => lv_pop2_2 hx hb hd rfl (k la hl)) (hk _ _ _ _ h)
  · exact h.elim
theorem Wf.sPop2 (ht : ∀ x ∈ tb, OK l X q d na b x.1 x.2) {v : Int64} (ho : lo tb pc = oPop2 pc) (k : Wf l X q d na b (pc + 1) ls st M kr) : Wf l X q d na b pc ls (.long v :: st) M kr := Wf.stp1 ht ho k
theorem Wf.sScd (ht : ∀ x ∈ tb, OK l X q d na b x.1 x.2) {i : Int32} (ho : lo tb pc = oScd X pc) (hi : vp_in i X.1) (k : Wf l X q d na b (pc + 1) ls (.int (X.2 i.toNatClampNeg) :: st) M kr) : Wf l X q d na b pc ls (.int i :: .ref 4999 :: st) M kr := Wf.stp1 ht ho ⟨hi, k⟩
theorem Wf.sScl (ht : ∀ x ∈ tb, OK l X q d na b x.1 x.2) (ho : lo tb pc = oScl X pc) (k : Wf l X q d na b (pc + 1) ls (.int (Int32.ofNat X.1) :: st) M kr) : Wf l X q d na b pc ls (.ref 4999 :: st) M kr := Wf.stp1 ht ho k
theorem Wf.sTs (ht : ∀ x ∈ tb, OK l X q d na b x.1 x.2) {lw : Int} {ts : List Nat} {df : Nat} {x : Int32} (ho : lo tb pc = oTs lw ts df) (k1 : ∀ (k t : Nat), ts[k]? = some t → x.toInt = lw + (k : Int) → Wf l X q d na b t ls st M kr) (k2 : Wf l X q d na b df ls st M kr) : Wf l X q d na b pc ls (.int x :: st) M kr := Wf.stp1 ht ho ⟨k1, fun _ => k2⟩
theorem Wf.sCl (ht : ∀ x ∈ tb, OK l X q d na b x.1 x.2) {d' a c : Nat} {i : Int32} (ho : lo tb pc = oCl l X d' b pc) (hr : rj b M ls st 1 6 = true) (k : EvL l X d' 1 6 [.ref a, .int i, .ref c] M (fun r M' => (mC M' = mC M + 1 ∧ mS M' = mS M + 6) ∧ Wf l X q d na b (pc + 3) ls (r.toList ++ st) M' kr)) : Wf l X q d na b pc ls (.ref c :: .int i :: .ref a :: st) M kr := Wf.stp1 ht ho (by simp only [oCl, hr, cond_true]; exact k)
end POP2
