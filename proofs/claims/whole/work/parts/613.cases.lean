/-! ===== the cases of the law's loop (0) ===== -/
theorem ml_L_139 : Cond.methodLink RL 139 yX8_feed ∈ GW := gw_t 413 (by decide +kernel) (by decide +kernel)
theorem mw_X8_feed : MW yX8_feed (RRf 8) cX8_feed 6 (some .int) 5 := ⟨⟨rfl, by decide +kernel, by decide +kernel, by decide +kernel⟩, gw_t 414 (by decide +kernel) (by decide +kernel), gw_t 415 (by decide +kernel) (by decide +kernel), gw_t 1 (by decide +kernel) (by decide +kernel), gw_t 416 (by decide +kernel) (by decide +kernel)⟩
theorem ml_L_142 : Cond.methodLink RL 142 yX9_feed ∈ GW := gw_t 1471 (by decide +kernel) (by decide +kernel)
theorem mw_X9_feed : MW yX9_feed (RRf 9) cX9_feed 8 (some .int) 5 := ⟨⟨rfl, by decide +kernel, by decide +kernel, by decide +kernel⟩, gw_t 1472 (by decide +kernel) (by decide +kernel), gw_t 1473 (by decide +kernel) (by decide +kernel), gw_t 10 (by decide +kernel) (by decide +kernel), gw_t 1474 (by decide +kernel) (by decide +kernel)⟩
theorem ml_L_143 : Cond.methodLink RL 143 yL_scene ∈ GW := gw_t 602 (by decide +kernel) (by decide +kernel)
theorem mh_scene : MSH yL_scene cL_scene 4 [(0, 9, 12, 13)] 3 := ⟨⟨by decide +kernel, by decide +kernel, by decide +kernel⟩, gw_t 603 (by decide +kernel) (by decide +kernel), gw_t 0 (by decide +kernel) (by decide +kernel), gw_t 604 (by decide +kernel) (by decide +kernel)⟩
theorem ml_L_148 : Cond.methodLink RL 148 yX9_scene ∈ GW := gw_t 1475 (by decide +kernel) (by decide +kernel)
theorem mw_X9_scene : MW yX9_scene (RRf 9) cX9_scene 4 (some .int) 1 := ⟨⟨rfl, by decide +kernel, by decide +kernel, by decide +kernel⟩, gw_t 1476 (by decide +kernel) (by decide +kernel), gw_t 1477 (by decide +kernel) (by decide +kernel), gw_t 10 (by decide +kernel) (by decide +kernel), gw_t 1478 (by decide +kernel) (by decide +kernel)⟩
theorem ml_L_149 : Cond.methodLink RL 149 yX9_thrown ∈ GW := gw_t 1467 (by decide +kernel) (by decide +kernel)
theorem mw_X9_thrown : MW yX9_thrown (RRf 9) cX9_thrown 1 (some .int) 0 := ⟨⟨rfl, by decide +kernel, by decide +kernel, by decide +kernel⟩, gw_t 1468 (by decide +kernel) (by decide +kernel), gw_t 1469 (by decide +kernel) (by decide +kernel), gw_t 10 (by decide +kernel) (by decide +kernel), gw_t 1470 (by decide +kernel) (by decide +kernel)⟩
theorem ml_L_153 : Cond.methodLink RL 153 yL_task ∈ GW := gw_t 814 (by decide +kernel) (by decide +kernel)
theorem mh_task : MSH yL_task cL_task 4 [(0, 9, 12, 13)] 3 := ⟨⟨by decide +kernel, by decide +kernel, by decide +kernel⟩, gw_t 815 (by decide +kernel) (by decide +kernel), gw_t 0 (by decide +kernel) (by decide +kernel), gw_t 816 (by decide +kernel) (by decide +kernel)⟩
theorem ml_L_155 : Cond.methodLink RL 155 yX9_task ∈ GW := gw_t 1549 (by decide +kernel) (by decide +kernel)
theorem mw_X9_task : MW yX9_task (RRf 9) cX9_task 2 (some .int) 1 := ⟨⟨rfl, by decide +kernel, by decide +kernel, by decide +kernel⟩, gw_t 1550 (by decide +kernel) (by decide +kernel), gw_t 1551 (by decide +kernel) (by decide +kernel), gw_t 10 (by decide +kernel) (by decide +kernel), gw_t 1552 (by decide +kernel) (by decide +kernel)⟩
theorem ml_L_156 : Cond.methodLink RL 156 yL_law ∈ GW := gw_t 834 (by decide +kernel) (by decide +kernel)
theorem mh_law : MSH yL_law cL_law 4 [(0, 9, 12, 13)] 3 := ⟨⟨by decide +kernel, by decide +kernel, by decide +kernel⟩, gw_t 835 (by decide +kernel) (by decide +kernel), gw_t 0 (by decide +kernel) (by decide +kernel), gw_t 836 (by decide +kernel) (by decide +kernel)⟩
theorem ml_L_158 : Cond.methodLink RL 158 yX9_law ∈ GW := gw_t 1564 (by decide +kernel) (by decide +kernel)
theorem mw_X9_law : MW yX9_law (RRf 9) cX9_law 4 (some .int) 1 := ⟨⟨rfl, by decide +kernel, by decide +kernel, by decide +kernel⟩, gw_t 1565 (by decide +kernel) (by decide +kernel), gw_t 1566 (by decide +kernel) (by decide +kernel), gw_t 10 (by decide +kernel) (by decide +kernel), gw_t 1567 (by decide +kernel) (by decide +kernel)⟩
theorem ml_L_159 : Cond.methodLink RL 159 yX8_fault ∈ GW := gw_t 425 (by decide +kernel) (by decide +kernel)
theorem mw_X8_fault : MW yX8_fault (RRf 8) cX8_fault 1 (some .int) 0 := ⟨⟨rfl, by decide +kernel, by decide +kernel, by decide +kernel⟩, gw_t 426 (by decide +kernel) (by decide +kernel), gw_t 427 (by decide +kernel) (by decide +kernel), gw_t 1 (by decide +kernel) (by decide +kernel), gw_t 428 (by decide +kernel) (by decide +kernel)⟩
theorem ml_L_162 : Cond.methodLink RL 162 yX9_fault ∈ GW := gw_t 1612 (by decide +kernel) (by decide +kernel)
theorem mw_X9_fault : MW yX9_fault (RRf 9) cX9_fault 1 (some .int) 0 := ⟨⟨rfl, by decide +kernel, by decide +kernel, by decide +kernel⟩, gw_t 1613 (by decide +kernel) (by decide +kernel), gw_t 1614 (by decide +kernel) (by decide +kernel), gw_t 10 (by decide +kernel) (by decide +kernel), gw_t 1615 (by decide +kernel) (by decide +kernel)⟩
theorem ml_L_163 : Cond.methodLink RL 163 yL_told ∈ GW := gw_t 905 (by decide +kernel) (by decide +kernel)
theorem mh_told : MSH yL_told cL_told 5 [(0, 10, 13, 25), (0, 10, 17, 13)] 4 := ⟨⟨by decide +kernel, by decide +kernel, by decide +kernel⟩, gw_t 906 (by decide +kernel) (by decide +kernel), gw_t 0 (by decide +kernel) (by decide +kernel), gw_t 907 (by decide +kernel) (by decide +kernel)⟩
theorem ml_L_166 : Cond.methodLink RL 166 yX9_told ∈ GW := gw_t 1616 (by decide +kernel) (by decide +kernel)
theorem mw_X9_told : MW yX9_told (RRf 9) cX9_told 3 (some .int) 2 := ⟨⟨rfl, by decide +kernel, by decide +kernel, by decide +kernel⟩, gw_t 1617 (by decide +kernel) (by decide +kernel), gw_t 1618 (by decide +kernel) (by decide +kernel), gw_t 10 (by decide +kernel) (by decide +kernel), gw_t 1619 (by decide +kernel) (by decide +kernel)⟩
theorem ml_L_167 : Cond.methodLink RL 167 yL_thing ∈ GW := gw_t 932 (by decide +kernel) (by decide +kernel)
theorem mh_thing : MSH yL_thing cL_thing 7 [(0, 14, 17, 25), (0, 14, 21, 13)] 6 := ⟨⟨by decide +kernel, by decide +kernel, by decide +kernel⟩, gw_t 933 (by decide +kernel) (by decide +kernel), gw_t 0 (by decide +kernel) (by decide +kernel), gw_t 934 (by decide +kernel) (by decide +kernel)⟩
theorem ml_L_170 : Cond.methodLink RL 170 yX9_thing ∈ GW := gw_t 1643 (by decide +kernel) (by decide +kernel)
theorem mw_X9_thing : MW yX9_thing (RRf 9) cX9_thing 5 (some .int) 4 := ⟨⟨rfl, by decide +kernel, by decide +kernel, by decide +kernel⟩, gw_t 1644 (by decide +kernel) (by decide +kernel), gw_t 1645 (by decide +kernel) (by decide +kernel), gw_t 10 (by decide +kernel) (by decide +kernel), gw_t 1646 (by decide +kernel) (by decide +kernel)⟩
theorem ml_L_171 : Cond.methodLink RL 171 yL_kept ∈ GW := gw_t 951 (by decide +kernel) (by decide +kernel)
theorem mh_kept : MSH yL_kept cL_kept 5 [(0, 10, 13, 34), (0, 10, 17, 13)] 4 := ⟨⟨by decide +kernel, by decide +kernel, by decide +kernel⟩, gw_t 952 (by decide +kernel) (by decide +kernel), gw_t 0 (by decide +kernel) (by decide +kernel), gw_t 953 (by decide +kernel) (by decide +kernel)⟩
theorem ml_L_173 : Cond.methodLink RL 173 yX9_kept ∈ GW := gw_t 1674 (by decide +kernel) (by decide +kernel)
theorem mw_X9_kept : MW yX9_kept (RRf 9) cX9_kept 3 (some .int) 2 := ⟨⟨rfl, by decide +kernel, by decide +kernel, by decide +kernel⟩, gw_t 1675 (by decide +kernel) (by decide +kernel), gw_t 1676 (by decide +kernel) (by decide +kernel), gw_t 10 (by decide +kernel) (by decide +kernel), gw_t 1677 (by decide +kernel) (by decide +kernel)⟩
theorem ml_L_174 : Cond.methodLink RL 174 yL_throwsOf ∈ GW := gw_t 978 (by decide +kernel) (by decide +kernel)
theorem mh_throwsOf : MSH yL_throwsOf cL_throwsOf 5 [(0, 10, 13, 25), (0, 10, 17, 34)] 4 := ⟨⟨by decide +kernel, by decide +kernel, by decide +kernel⟩, gw_t 979 (by decide +kernel) (by decide +kernel), gw_t 0 (by decide +kernel) (by decide +kernel), gw_t 980 (by decide +kernel) (by decide +kernel)⟩
theorem ml_L_176 : Cond.methodLink RL 176 yX9_throwsOf ∈ GW := gw_t 1682 (by decide +kernel) (by decide +kernel)
theorem mw_X9_throwsOf : MW yX9_throwsOf (RRf 9) cX9_throwsOf 3 (some .int) 2 := ⟨⟨rfl, by decide +kernel, by decide +kernel, by decide +kernel⟩, gw_t 1683 (by decide +kernel) (by decide +kernel), gw_t 1684 (by decide +kernel) (by decide +kernel), gw_t 10 (by decide +kernel) (by decide +kernel), gw_t 1685 (by decide +kernel) (by decide +kernel)⟩
theorem ml_L_177 : Cond.methodLink RL 177 yL_looker ∈ GW := gw_t 990 (by decide +kernel) (by decide +kernel)
theorem mh_looker : MSH yL_looker cL_looker 6 [(0, 12, 15, 25), (0, 12, 19, 34)] 5 := ⟨⟨by decide +kernel, by decide +kernel, by decide +kernel⟩, gw_t 991 (by decide +kernel) (by decide +kernel), gw_t 0 (by decide +kernel) (by decide +kernel), gw_t 992 (by decide +kernel) (by decide +kernel)⟩
theorem ml_L_180 : Cond.methodLink RL 180 yX9_looker ∈ GW := gw_t 1694 (by decide +kernel) (by decide +kernel)
theorem mw_X9_looker : MW yX9_looker (RRf 9) cX9_looker 4 (some .int) 3 := ⟨⟨rfl, by decide +kernel, by decide +kernel, by decide +kernel⟩, gw_t 1695 (by decide +kernel) (by decide +kernel), gw_t 1696 (by decide +kernel) (by decide +kernel), gw_t 10 (by decide +kernel) (by decide +kernel), gw_t 1697 (by decide +kernel) (by decide +kernel)⟩
theorem ml_L_181 : Cond.methodLink RL 181 yL_eyes ∈ GW := gw_t 1001 (by decide +kernel) (by decide +kernel)
theorem mh_eyes : MSH yL_eyes cL_eyes 7 [(0, 14, 17, 13)] 6 := ⟨⟨by decide +kernel, by decide +kernel, by decide +kernel⟩, gw_t 1002 (by decide +kernel) (by decide +kernel), gw_t 0 (by decide +kernel) (by decide +kernel), gw_t 1003 (by decide +kernel) (by decide +kernel)⟩
theorem ml_L_183 : Cond.methodLink RL 183 yX9_eyes ∈ GW := gw_t 1702 (by decide +kernel) (by decide +kernel)
theorem mw_X9_eyes : MW yX9_eyes (RRf 9) cX9_eyes 5 (some .int) 4 := ⟨⟨rfl, by decide +kernel, by decide +kernel, by decide +kernel⟩, gw_t 1703 (by decide +kernel) (by decide +kernel), gw_t 1704 (by decide +kernel) (by decide +kernel), gw_t 10 (by decide +kernel) (by decide +kernel), gw_t 1705 (by decide +kernel) (by decide +kernel)⟩
theorem ml_L_184 : Cond.methodLink RL 184 yL_blink ∈ GW := gw_t 1016 (by decide +kernel) (by decide +kernel)
theorem mh_blink : MSH yL_blink cL_blink 6 [(0, 12, 15, 13)] 5 := ⟨⟨by decide +kernel, by decide +kernel, by decide +kernel⟩, gw_t 1017 (by decide +kernel) (by decide +kernel), gw_t 0 (by decide +kernel) (by decide +kernel), gw_t 1018 (by decide +kernel) (by decide +kernel)⟩
theorem ml_L_187 : Cond.methodLink RL 187 yX9_blink ∈ GW := gw_t 1710 (by decide +kernel) (by decide +kernel)
theorem mw_X9_blink : MW yX9_blink (RRf 9) cX9_blink 4 (some .int) 3 := ⟨⟨rfl, by decide +kernel, by decide +kernel, by decide +kernel⟩, gw_t 1711 (by decide +kernel) (by decide +kernel), gw_t 1712 (by decide +kernel) (by decide +kernel), gw_t 10 (by decide +kernel) (by decide +kernel), gw_t 1713 (by decide +kernel) (by decide +kernel)⟩
theorem ml_L_188 : Cond.methodLink RL 188 yL_eye ∈ GW := gw_t 1027 (by decide +kernel) (by decide +kernel)
theorem mh_eye : MSH yL_eye cL_eye 5 [(0, 10, 13, 13)] 4 := ⟨⟨by decide +kernel, by decide +kernel, by decide +kernel⟩, gw_t 1028 (by decide +kernel) (by decide +kernel), gw_t 0 (by decide +kernel) (by decide +kernel), gw_t 1029 (by decide +kernel) (by decide +kernel)⟩
theorem ml_L_190 : Cond.methodLink RL 190 yX9_eye ∈ GW := gw_t 1714 (by decide +kernel) (by decide +kernel)
theorem mw_X9_eye : MW yX9_eye (RRf 9) cX9_eye 3 (some .int) 2 := ⟨⟨rfl, by decide +kernel, by decide +kernel, by decide +kernel⟩, gw_t 1715 (by decide +kernel) (by decide +kernel), gw_t 1716 (by decide +kernel) (by decide +kernel), gw_t 10 (by decide +kernel) (by decide +kernel), gw_t 1717 (by decide +kernel) (by decide +kernel)⟩
theorem ml_L_191 : Cond.methodLink RL 191 yL_on ∈ GW := gw_t 1034 (by decide +kernel) (by decide +kernel)
theorem mh_on : MSH yL_on cL_on 5 [(0, 10, 13, 13)] 4 := ⟨⟨by decide +kernel, by decide +kernel, by decide +kernel⟩, gw_t 1035 (by decide +kernel) (by decide +kernel), gw_t 0 (by decide +kernel) (by decide +kernel), gw_t 1036 (by decide +kernel) (by decide +kernel)⟩
theorem ml_L_193 : Cond.methodLink RL 193 yX9_on ∈ GW := gw_t 1750 (by decide +kernel) (by decide +kernel)
theorem mw_X9_on : MW yX9_on (RRf 9) cX9_on 6 (some .int) 2 := ⟨⟨rfl, by decide +kernel, by decide +kernel, by decide +kernel⟩, gw_t 1751 (by decide +kernel) (by decide +kernel), gw_t 1752 (by decide +kernel) (by decide +kernel), gw_t 10 (by decide +kernel) (by decide +kernel), gw_t 1753 (by decide +kernel) (by decide +kernel)⟩
theorem ml_L_194 : Cond.methodLink RL 194 yL_name ∈ GW := gw_t 1049 (by decide +kernel) (by decide +kernel)
theorem mh_name : MSH yL_name cL_name 7 [(0, 14, 17, 13)] 6 := ⟨⟨by decide +kernel, by decide +kernel, by decide +kernel⟩, gw_t 1050 (by decide +kernel) (by decide +kernel), gw_t 0 (by decide +kernel) (by decide +kernel), gw_t 1051 (by decide +kernel) (by decide +kernel)⟩
theorem ml_L_196 : Cond.methodLink RL 196 yX9_name ∈ GW := gw_t 1730 (by decide +kernel) (by decide +kernel)
theorem mw_X9_name : MW yX9_name (RRf 9) cX9_name 5 (some .int) 4 := ⟨⟨rfl, by decide +kernel, by decide +kernel, by decide +kernel⟩, gw_t 1731 (by decide +kernel) (by decide +kernel), gw_t 1732 (by decide +kernel) (by decide +kernel), gw_t 10 (by decide +kernel) (by decide +kernel), gw_t 1733 (by decide +kernel) (by decide +kernel)⟩
theorem ml_L_197 : Cond.methodLink RL 197 yL_gets ∈ GW := gw_t 1057 (by decide +kernel) (by decide +kernel)
theorem mh_gets : MSH yL_gets cL_gets 8 [(0, 16, 19, 34), (0, 16, 23, 13)] 7 := ⟨⟨by decide +kernel, by decide +kernel, by decide +kernel⟩, gw_t 1058 (by decide +kernel) (by decide +kernel), gw_t 0 (by decide +kernel) (by decide +kernel), gw_t 1059 (by decide +kernel) (by decide +kernel)⟩
theorem ml_L_200 : Cond.methodLink RL 200 yX9_gets ∈ GW := gw_t 1754 (by decide +kernel) (by decide +kernel)
theorem mw_X9_gets : MW yX9_gets (RRf 9) cX9_gets 8 (some .int) 5 := ⟨⟨rfl, by decide +kernel, by decide +kernel, by decide +kernel⟩, gw_t 1755 (by decide +kernel) (by decide +kernel), gw_t 1756 (by decide +kernel) (by decide +kernel), gw_t 10 (by decide +kernel) (by decide +kernel), gw_t 1757 (by decide +kernel) (by decide +kernel)⟩
theorem ml_L_201 : Cond.methodLink RL 201 yL_seen ∈ GW := gw_t 1077 (by decide +kernel) (by decide +kernel)
theorem mh_seen : MSH yL_seen cL_seen 6 [(0, 12, 15, 34), (0, 12, 19, 13)] 5 := ⟨⟨by decide +kernel, by decide +kernel, by decide +kernel⟩, gw_t 1078 (by decide +kernel) (by decide +kernel), gw_t 0 (by decide +kernel) (by decide +kernel), gw_t 1079 (by decide +kernel) (by decide +kernel)⟩
theorem ml_L_203 : Cond.methodLink RL 203 yX9_seen ∈ GW := gw_t 1792 (by decide +kernel) (by decide +kernel)
theorem mw_X9_seen : MW yX9_seen (RRf 9) cX9_seen 4 (some .int) 3 := ⟨⟨rfl, by decide +kernel, by decide +kernel, by decide +kernel⟩, gw_t 1793 (by decide +kernel) (by decide +kernel), gw_t 1794 (by decide +kernel) (by decide +kernel), gw_t 10 (by decide +kernel) (by decide +kernel), gw_t 1795 (by decide +kernel) (by decide +kernel)⟩
theorem ml_L_204 : Cond.methodLink RL 204 yL_says ∈ GW := gw_t 1085 (by decide +kernel) (by decide +kernel)
theorem mh_says : MSH yL_says cL_says 6 [(0, 19, 22, 34), (0, 19, 26, 13)] 5 := ⟨⟨by decide +kernel, by decide +kernel, by decide +kernel⟩, gw_t 1086 (by decide +kernel) (by decide +kernel), gw_t 0 (by decide +kernel) (by decide +kernel), gw_t 1087 (by decide +kernel) (by decide +kernel)⟩
theorem ml_L_206 : Cond.methodLink RL 206 yX9_says ∈ GW := gw_t 1805 (by decide +kernel) (by decide +kernel)
theorem mw_X9_says : MW yX9_says (RRf 9) cX9_says 4 (some .boolean) 3 := ⟨⟨rfl, by decide +kernel, by decide +kernel, by decide +kernel⟩, gw_t 1806 (by decide +kernel) (by decide +kernel), gw_t 1807 (by decide +kernel) (by decide +kernel), gw_t 10 (by decide +kernel) (by decide +kernel), gw_t 1808 (by decide +kernel) (by decide +kernel)⟩
theorem ml_L_207 : Cond.methodLink RL 207 yL_miss ∈ GW := gw_t 1095 (by decide +kernel) (by decide +kernel)
theorem mh_miss : MSH yL_miss cL_miss 6 [(0, 12, 15, 34), (0, 12, 19, 13)] 5 := ⟨⟨by decide +kernel, by decide +kernel, by decide +kernel⟩, gw_t 1096 (by decide +kernel) (by decide +kernel), gw_t 0 (by decide +kernel) (by decide +kernel), gw_t 1097 (by decide +kernel) (by decide +kernel)⟩
theorem ml_L_209 : Cond.methodLink RL 209 yX9_miss ∈ GW := gw_t 1821 (by decide +kernel) (by decide +kernel)
theorem mw_X9_miss : MW yX9_miss (RRf 9) cX9_miss 5 (some .int) 3 := ⟨⟨rfl, by decide +kernel, by decide +kernel, by decide +kernel⟩, gw_t 1822 (by decide +kernel) (by decide +kernel), gw_t 1823 (by decide +kernel) (by decide +kernel), gw_t 10 (by decide +kernel) (by decide +kernel), gw_t 1824 (by decide +kernel) (by decide +kernel)⟩
theorem ml_L_210 : Cond.methodLink RL 210 yL_drawn ∈ GW := gw_t 1111 (by decide +kernel) (by decide +kernel)
theorem mh_drawn : MSH yL_drawn cL_drawn 7 [(0, 14, 17, 34), (0, 14, 21, 13)] 6 := ⟨⟨by decide +kernel, by decide +kernel, by decide +kernel⟩, gw_t 1112 (by decide +kernel) (by decide +kernel), gw_t 0 (by decide +kernel) (by decide +kernel), gw_t 1113 (by decide +kernel) (by decide +kernel)⟩
theorem ml_L_212 : Cond.methodLink RL 212 yX9_drawn ∈ GW := gw_t 1833 (by decide +kernel) (by decide +kernel)
theorem mw_X9_drawn : MW yX9_drawn (RRf 9) cX9_drawn 6 (some .int) 4 := ⟨⟨rfl, by decide +kernel, by decide +kernel, by decide +kernel⟩, gw_t 1834 (by decide +kernel) (by decide +kernel), gw_t 1835 (by decide +kernel) (by decide +kernel), gw_t 10 (by decide +kernel) (by decide +kernel), gw_t 1836 (by decide +kernel) (by decide +kernel)⟩
theorem ml_L_213 : Cond.methodLink RL 213 yL_change ∈ GW := gw_t 1122 (by decide +kernel) (by decide +kernel)
theorem mh_change : MSH yL_change cL_change 5 [(0, 10, 13, 34), (0, 10, 17, 13)] 4 := ⟨⟨by decide +kernel, by decide +kernel, by decide +kernel⟩, gw_t 1123 (by decide +kernel) (by decide +kernel), gw_t 0 (by decide +kernel) (by decide +kernel), gw_t 1124 (by decide +kernel) (by decide +kernel)⟩
theorem ml_L_215 : Cond.methodLink RL 215 yX9_change ∈ GW := gw_t 1837 (by decide +kernel) (by decide +kernel)
theorem mw_X9_change : MW yX9_change (RRf 9) cX9_change 3 (some .int) 2 := ⟨⟨rfl, by decide +kernel, by decide +kernel, by decide +kernel⟩, gw_t 1838 (by decide +kernel) (by decide +kernel), gw_t 1839 (by decide +kernel) (by decide +kernel), gw_t 10 (by decide +kernel) (by decide +kernel), gw_t 1840 (by decide +kernel) (by decide +kernel)⟩
theorem ml_L_216 : Cond.methodLink RL 216 yL_yet ∈ GW := gw_t 1137 (by decide +kernel) (by decide +kernel)
theorem mh_yet : MSH yL_yet cL_yet 4 [(0, 9, 12, 34)] 3 := ⟨⟨by decide +kernel, by decide +kernel, by decide +kernel⟩, gw_t 1138 (by decide +kernel) (by decide +kernel), gw_t 0 (by decide +kernel) (by decide +kernel), gw_t 1139 (by decide +kernel) (by decide +kernel)⟩
theorem ml_L_218 : Cond.methodLink RL 218 yX9_yet ∈ GW := gw_t 1845 (by decide +kernel) (by decide +kernel)
theorem mw_X9_yet : MW yX9_yet (RRf 9) cX9_yet 5 (some .int) 1 := ⟨⟨rfl, by decide +kernel, by decide +kernel, by decide +kernel⟩, gw_t 1846 (by decide +kernel) (by decide +kernel), gw_t 1847 (by decide +kernel) (by decide +kernel), gw_t 10 (by decide +kernel) (by decide +kernel), gw_t 1848 (by decide +kernel) (by decide +kernel)⟩
theorem ml_L_219 : Cond.methodLink RL 219 yL_least ∈ GW := gw_t 1148 (by decide +kernel) (by decide +kernel)
theorem mh_least : MSH yL_least cL_least 6 [(0, 12, 15, 34), (0, 12, 19, 13)] 5 := ⟨⟨by decide +kernel, by decide +kernel, by decide +kernel⟩, gw_t 1149 (by decide +kernel) (by decide +kernel), gw_t 0 (by decide +kernel) (by decide +kernel), gw_t 1150 (by decide +kernel) (by decide +kernel)⟩
theorem ml_L_221 : Cond.methodLink RL 221 yX9_least ∈ GW := gw_t 1849 (by decide +kernel) (by decide +kernel)
theorem mw_X9_least : MW yX9_least (RRf 9) cX9_least 7 (some .int) 3 := ⟨⟨rfl, by decide +kernel, by decide +kernel, by decide +kernel⟩, gw_t 1850 (by decide +kernel) (by decide +kernel), gw_t 1851 (by decide +kernel) (by decide +kernel), gw_t 10 (by decide +kernel) (by decide +kernel), gw_t 1852 (by decide +kernel) (by decide +kernel)⟩
theorem ml_L_222 : Cond.methodLink RL 222 yL_answer ∈ GW := gw_t 1156 (by decide +kernel) (by decide +kernel)
theorem mh_answer : MSH yL_answer cL_answer 6 [(0, 12, 15, 13)] 5 := ⟨⟨by decide +kernel, by decide +kernel, by decide +kernel⟩, gw_t 1157 (by decide +kernel) (by decide +kernel), gw_t 0 (by decide +kernel) (by decide +kernel), gw_t 1158 (by decide +kernel) (by decide +kernel)⟩
theorem ml_L_224 : Cond.methodLink RL 224 yX9_answer ∈ GW := gw_t 1853 (by decide +kernel) (by decide +kernel)
theorem mw_X9_answer : MW yX9_answer (RRf 9) cX9_answer 5 (some .int) 3 := ⟨⟨rfl, by decide +kernel, by decide +kernel, by decide +kernel⟩, gw_t 1854 (by decide +kernel) (by decide +kernel), gw_t 1855 (by decide +kernel) (by decide +kernel), gw_t 10 (by decide +kernel) (by decide +kernel), gw_t 1856 (by decide +kernel) (by decide +kernel)⟩
theorem ml_L_225 : Cond.methodLink RL 225 yL_counted ∈ GW := gw_t 1163 (by decide +kernel) (by decide +kernel)
theorem mh_counted : MSH yL_counted cL_counted 5 [(0, 10, 13, 13)] 4 := ⟨⟨by decide +kernel, by decide +kernel, by decide +kernel⟩, gw_t 1164 (by decide +kernel) (by decide +kernel), gw_t 0 (by decide +kernel) (by decide +kernel), gw_t 1165 (by decide +kernel) (by decide +kernel)⟩
theorem ml_L_227 : Cond.methodLink RL 227 yX9_counted ∈ GW := gw_t 1857 (by decide +kernel) (by decide +kernel)
theorem mw_X9_counted : MW yX9_counted (RRf 9) cX9_counted 4 (some .int) 2 := ⟨⟨rfl, by decide +kernel, by decide +kernel, by decide +kernel⟩, gw_t 1858 (by decide +kernel) (by decide +kernel), gw_t 1859 (by decide +kernel) (by decide +kernel), gw_t 10 (by decide +kernel) (by decide +kernel), gw_t 1860 (by decide +kernel) (by decide +kernel)⟩
theorem ml_L_228 : Cond.methodLink RL 228 yL_sure ∈ GW := gw_t 1170 (by decide +kernel) (by decide +kernel)
theorem mh_sure : MSH yL_sure cL_sure 5 [(0, 10, 13, 13)] 4 := ⟨⟨by decide +kernel, by decide +kernel, by decide +kernel⟩, gw_t 1171 (by decide +kernel) (by decide +kernel), gw_t 0 (by decide +kernel) (by decide +kernel), gw_t 1172 (by decide +kernel) (by decide +kernel)⟩
theorem ml_L_230 : Cond.methodLink RL 230 yX9_sure ∈ GW := gw_t 1861 (by decide +kernel) (by decide +kernel)
theorem mw_X9_sure : MW yX9_sure (RRf 9) cX9_sure 4 (some .int) 2 := ⟨⟨rfl, by decide +kernel, by decide +kernel, by decide +kernel⟩, gw_t 1862 (by decide +kernel) (by decide +kernel), gw_t 1863 (by decide +kernel) (by decide +kernel), gw_t 10 (by decide +kernel) (by decide +kernel), gw_t 1864 (by decide +kernel) (by decide +kernel)⟩
theorem ml_L_231 : Cond.methodLink RL 231 yL_share ∈ GW := gw_t 1177 (by decide +kernel) (by decide +kernel)
theorem mh_share : MSH yL_share cL_share 7 [(0, 14, 17, 25), (0, 14, 21, 34), (0, 14, 25, 13)] 6 := ⟨⟨by decide +kernel, by decide +kernel, by decide +kernel⟩, gw_t 1178 (by decide +kernel) (by decide +kernel), gw_t 0 (by decide +kernel) (by decide +kernel), gw_t 1179 (by decide +kernel) (by decide +kernel)⟩
theorem ml_L_233 : Cond.methodLink RL 233 yX9_share ∈ GW := gw_t 1865 (by decide +kernel) (by decide +kernel)
theorem mw_X9_share : MW yX9_share (RRf 9) cX9_share 8 (some .int) 4 := ⟨⟨rfl, by decide +kernel, by decide +kernel, by decide +kernel⟩, gw_t 1866 (by decide +kernel) (by decide +kernel), gw_t 1867 (by decide +kernel) (by decide +kernel), gw_t 10 (by decide +kernel) (by decide +kernel), gw_t 1868 (by decide +kernel) (by decide +kernel)⟩
theorem ml_L_234 : Cond.methodLink RL 234 yL_guessed ∈ GW := gw_t 1203 (by decide +kernel) (by decide +kernel)
theorem mh_guessed : MSH yL_guessed cL_guessed 7 [(0, 14, 17, 25), (0, 14, 21, 34), (0, 14, 25, 13)] 6 := ⟨⟨by decide +kernel, by decide +kernel, by decide +kernel⟩, gw_t 1204 (by decide +kernel) (by decide +kernel), gw_t 0 (by decide +kernel) (by decide +kernel), gw_t 1205 (by decide +kernel) (by decide +kernel)⟩
theorem ml_L_236 : Cond.methodLink RL 236 yX9_guessed ∈ GW := gw_t 1888 (by decide +kernel) (by decide +kernel)
theorem mw_X9_guessed : MW yX9_guessed (RRf 9) cX9_guessed 10 (some .int) 4 := ⟨⟨rfl, by decide +kernel, by decide +kernel, by decide +kernel⟩, gw_t 1889 (by decide +kernel) (by decide +kernel), gw_t 1890 (by decide +kernel) (by decide +kernel), gw_t 10 (by decide +kernel) (by decide +kernel), gw_t 1891 (by decide +kernel) (by decide +kernel)⟩
theorem ml_L_237 : Cond.methodLink RL 237 yL_apart ∈ GW := gw_t 1210 (by decide +kernel) (by decide +kernel)
theorem mh_apart : MSH yL_apart cL_apart 9 [(0, 18, 21, 25), (0, 18, 25, 34), (0, 18, 29, 13)] 8 := ⟨⟨by decide +kernel, by decide +kernel, by decide +kernel⟩, gw_t 1211 (by decide +kernel) (by decide +kernel), gw_t 0 (by decide +kernel) (by decide +kernel), gw_t 1212 (by decide +kernel) (by decide +kernel)⟩
theorem ml_L_240 : Cond.methodLink RL 240 yX9_apart ∈ GW := gw_t 1892 (by decide +kernel) (by decide +kernel)
theorem mw_X9_apart : MW yX9_apart (RRf 9) cX9_apart 13 (some .int) 6 := ⟨⟨rfl, by decide +kernel, by decide +kernel, by decide +kernel⟩, gw_t 1893 (by decide +kernel) (by decide +kernel), gw_t 1894 (by decide +kernel) (by decide +kernel), gw_t 10 (by decide +kernel) (by decide +kernel), gw_t 1895 (by decide +kernel) (by decide +kernel)⟩
theorem ml_L_241 : Cond.methodLink RL 241 yL_gone ∈ GW := gw_t 1223 (by decide +kernel) (by decide +kernel)
theorem mh_gone : MSH yL_gone cL_gone 6 [(0, 12, 15, 25), (0, 12, 19, 34), (0, 12, 23, 13)] 5 := ⟨⟨by decide +kernel, by decide +kernel, by decide +kernel⟩, gw_t 1224 (by decide +kernel) (by decide +kernel), gw_t 0 (by decide +kernel) (by decide +kernel), gw_t 1225 (by decide +kernel) (by decide +kernel)⟩
theorem ml_L_243 : Cond.methodLink RL 243 yX9_gone ∈ GW := gw_t 1899 (by decide +kernel) (by decide +kernel)
theorem mw_X9_gone : MW yX9_gone (RRf 9) cX9_gone 7 (some .int) 3 := ⟨⟨rfl, by decide +kernel, by decide +kernel, by decide +kernel⟩, gw_t 1900 (by decide +kernel) (by decide +kernel), gw_t 1901 (by decide +kernel) (by decide +kernel), gw_t 10 (by decide +kernel) (by decide +kernel), gw_t 1902 (by decide +kernel) (by decide +kernel)⟩
theorem ml_L_244 : Cond.methodLink RL 244 yL_lost ∈ GW := gw_t 1238 (by decide +kernel) (by decide +kernel)
theorem mh_lost : MSH yL_lost cL_lost 4 [(0, 9, 12, 13)] 3 := ⟨⟨by decide +kernel, by decide +kernel, by decide +kernel⟩, gw_t 1239 (by decide +kernel) (by decide +kernel), gw_t 0 (by decide +kernel) (by decide +kernel), gw_t 1240 (by decide +kernel) (by decide +kernel)⟩
theorem ml_L_246 : Cond.methodLink RL 246 yX9_lost ∈ GW := gw_t 1903 (by decide +kernel) (by decide +kernel)
theorem mw_X9_lost : MW yX9_lost (RRf 9) cX9_lost 2 (some .int) 1 := ⟨⟨rfl, by decide +kernel, by decide +kernel, by decide +kernel⟩, gw_t 1904 (by decide +kernel) (by decide +kernel), gw_t 1905 (by decide +kernel) (by decide +kernel), gw_t 10 (by decide +kernel) (by decide +kernel), gw_t 1906 (by decide +kernel) (by decide +kernel)⟩
theorem ml_L_247 : Cond.methodLink RL 247 yL_cost ∈ GW := gw_t 1252 (by decide +kernel) (by decide +kernel)
theorem mh_cost : MSH yL_cost cL_cost 6 [(0, 12, 15, 25), (0, 12, 19, 34)] 5 := ⟨⟨by decide +kernel, by decide +kernel, by decide +kernel⟩, gw_t 1253 (by decide +kernel) (by decide +kernel), gw_t 0 (by decide +kernel) (by decide +kernel), gw_t 1254 (by decide +kernel) (by decide +kernel)⟩
theorem ml_L_249 : Cond.methodLink RL 249 yX9_cost ∈ GW := gw_t 1911 (by decide +kernel) (by decide +kernel)
theorem mw_X9_cost : MW yX9_cost (RRf 9) cX9_cost 4 (some .int) 3 := ⟨⟨rfl, by decide +kernel, by decide +kernel, by decide +kernel⟩, gw_t 1912 (by decide +kernel) (by decide +kernel), gw_t 1913 (by decide +kernel) (by decide +kernel), gw_t 10 (by decide +kernel) (by decide +kernel), gw_t 1914 (by decide +kernel) (by decide +kernel)⟩
theorem ml_L_250 : Cond.methodLink RL 250 yL_off ∈ GW := gw_t 1272 (by decide +kernel) (by decide +kernel)
theorem mh_off : MSH yL_off cL_off 6 [(0, 12, 15, 25), (0, 12, 19, 34), (0, 12, 23, 13)] 5 := ⟨⟨by decide +kernel, by decide +kernel, by decide +kernel⟩, gw_t 1273 (by decide +kernel) (by decide +kernel), gw_t 0 (by decide +kernel) (by decide +kernel), gw_t 1274 (by decide +kernel) (by decide +kernel)⟩
theorem ml_L_252 : Cond.methodLink RL 252 yX9_off ∈ GW := gw_t 1919 (by decide +kernel) (by decide +kernel)
theorem mw_X9_off : MW yX9_off (RRf 9) cX9_off 7 (some .int) 3 := ⟨⟨rfl, by decide +kernel, by decide +kernel, by decide +kernel⟩, gw_t 1920 (by decide +kernel) (by decide +kernel), gw_t 1921 (by decide +kernel) (by decide +kernel), gw_t 10 (by decide +kernel) (by decide +kernel), gw_t 1922 (by decide +kernel) (by decide +kernel)⟩
theorem ml_L_253 : Cond.methodLink RL 253 yL_weigh ∈ GW := gw_t 1280 (by decide +kernel) (by decide +kernel)
theorem mh_weigh : MSH yL_weigh cL_weigh 5 [(0, 10, 13, 34), (0, 10, 17, 13)] 4 := ⟨⟨by decide +kernel, by decide +kernel, by decide +kernel⟩, gw_t 1281 (by decide +kernel) (by decide +kernel), gw_t 0 (by decide +kernel) (by decide +kernel), gw_t 1282 (by decide +kernel) (by decide +kernel)⟩
theorem ml_L_255 : Cond.methodLink RL 255 yX9_weigh ∈ GW := gw_t 1923 (by decide +kernel) (by decide +kernel)
theorem mw_X9_weigh : MW yX9_weigh (RRf 9) cX9_weigh 4 (some .int) 2 := ⟨⟨rfl, by decide +kernel, by decide +kernel, by decide +kernel⟩, gw_t 1924 (by decide +kernel) (by decide +kernel), gw_t 1925 (by decide +kernel) (by decide +kernel), gw_t 10 (by decide +kernel) (by decide +kernel), gw_t 1926 (by decide +kernel) (by decide +kernel)⟩
theorem ml_L_256 : Cond.methodLink RL 256 yL_wrong ∈ GW := gw_t 1287 (by decide +kernel) (by decide +kernel)
theorem mh_wrong : MSH yL_wrong cL_wrong 4 [(0, 9, 12, 13)] 3 := ⟨⟨by decide +kernel, by decide +kernel, by decide +kernel⟩, gw_t 1288 (by decide +kernel) (by decide +kernel), gw_t 0 (by decide +kernel) (by decide +kernel), gw_t 1289 (by decide +kernel) (by decide +kernel)⟩
theorem ml_L_258 : Cond.methodLink RL 258 yX9_wrong ∈ GW := gw_t 1927 (by decide +kernel) (by decide +kernel)
theorem mw_X9_wrong : MW yX9_wrong (RRf 9) cX9_wrong 3 (some .int) 1 := ⟨⟨rfl, by decide +kernel, by decide +kernel, by decide +kernel⟩, gw_t 1928 (by decide +kernel) (by decide +kernel), gw_t 1929 (by decide +kernel) (by decide +kernel), gw_t 10 (by decide +kernel) (by decide +kernel), gw_t 1930 (by decide +kernel) (by decide +kernel)⟩
theorem ml_L_259 : Cond.methodLink RL 259 yL_odds ∈ GW := gw_t 1294 (by decide +kernel) (by decide +kernel)
theorem mh_odds : MSH yL_odds cL_odds 4 [(0, 8, 11, 34)] 3 := ⟨⟨by decide +kernel, by decide +kernel, by decide +kernel⟩, gw_t 1295 (by decide +kernel) (by decide +kernel), gw_t 0 (by decide +kernel) (by decide +kernel), gw_t 1296 (by decide +kernel) (by decide +kernel)⟩
theorem ml_L_261 : Cond.methodLink RL 261 yX9_odds ∈ GW := gw_t 1931 (by decide +kernel) (by decide +kernel)
theorem mw_X9_odds : MW yX9_odds (RRf 9) cX9_odds 2 (some .long) 1 := ⟨⟨rfl, by decide +kernel, by decide +kernel, by decide +kernel⟩, gw_t 1932 (by decide +kernel) (by decide +kernel), gw_t 1933 (by decide +kernel) (by decide +kernel), gw_t 10 (by decide +kernel) (by decide +kernel), gw_t 1934 (by decide +kernel) (by decide +kernel)⟩
theorem ml_L_262 : Cond.methodLink RL 262 yX8_best ∈ GW := gw_t 429 (by decide +kernel) (by decide +kernel)
theorem mw_X8_best : MW yX8_best (RRf 8) cX8_best 7 (some .int) 0 := ⟨⟨rfl, by decide +kernel, by decide +kernel, by decide +kernel⟩, gw_t 430 (by decide +kernel) (by decide +kernel), gw_t 431 (by decide +kernel) (by decide +kernel), gw_t 1 (by decide +kernel) (by decide +kernel), gw_t 432 (by decide +kernel) (by decide +kernel)⟩
theorem ml_L_265 : Cond.methodLink RL 265 yX9_best ∈ GW := gw_t 1947 (by decide +kernel) (by decide +kernel)
theorem mw_X9_best : MW yX9_best (RRf 9) cX9_best 7 (some .int) 0 := ⟨⟨rfl, by decide +kernel, by decide +kernel, by decide +kernel⟩, gw_t 1948 (by decide +kernel) (by decide +kernel), gw_t 1949 (by decide +kernel) (by decide +kernel), gw_t 10 (by decide +kernel) (by decide +kernel), gw_t 1950 (by decide +kernel) (by decide +kernel)⟩
theorem ml_L_266 : Cond.methodLink RL 266 yL_fits ∈ GW := gw_t 1301 (by decide +kernel) (by decide +kernel)
theorem mh_fits : MSH yL_fits cL_fits 4 [(0, 9, 12, 13)] 3 := ⟨⟨by decide +kernel, by decide +kernel, by decide +kernel⟩, gw_t 1302 (by decide +kernel) (by decide +kernel), gw_t 0 (by decide +kernel) (by decide +kernel), gw_t 1303 (by decide +kernel) (by decide +kernel)⟩
theorem ml_L_268 : Cond.methodLink RL 268 yX9_fits ∈ GW := gw_t 1951 (by decide +kernel) (by decide +kernel)
theorem mw_X9_fits : MW yX9_fits (RRf 9) cX9_fits 2 (some .int) 1 := ⟨⟨rfl, by decide +kernel, by decide +kernel, by decide +kernel⟩, gw_t 1952 (by decide +kernel) (by decide +kernel), gw_t 1953 (by decide +kernel) (by decide +kernel), gw_t 10 (by decide +kernel) (by decide +kernel), gw_t 1954 (by decide +kernel) (by decide +kernel)⟩
theorem ml_L_269 : Cond.methodLink RL 269 yX8_next ∈ GW := gw_t 564 (by decide +kernel) (by decide +kernel)
theorem mw_X8_next : MW yX8_next (RRf 8) cX8_next 8 (some .int) 0 := ⟨⟨rfl, by decide +kernel, by decide +kernel, by decide +kernel⟩, gw_t 565 (by decide +kernel) (by decide +kernel), gw_t 566 (by decide +kernel) (by decide +kernel), gw_t 1 (by decide +kernel) (by decide +kernel), gw_t 567 (by decide +kernel) (by decide +kernel)⟩
theorem ml_L_272 : Cond.methodLink RL 272 yX9_next ∈ GW := gw_t 1959 (by decide +kernel) (by decide +kernel)
theorem mw_X9_next : MW yX9_next (RRf 9) cX9_next 14 (some .int) 0 := ⟨⟨rfl, by decide +kernel, by decide +kernel, by decide +kernel⟩, gw_t 1960 (by decide +kernel) (by decide +kernel), gw_t 1961 (by decide +kernel) (by decide +kernel), gw_t 10 (by decide +kernel) (by decide +kernel), gw_t 1962 (by decide +kernel) (by decide +kernel)⟩
theorem ml_L_273 : Cond.methodLink RL 273 yL_knowing ∈ GW := gw_t 1315 (by decide +kernel) (by decide +kernel)
theorem mh_knowing : MSH yL_knowing cL_knowing 5 [(0, 10, 13, 34), (0, 10, 17, 13)] 4 := ⟨⟨by decide +kernel, by decide +kernel, by decide +kernel⟩, gw_t 1316 (by decide +kernel) (by decide +kernel), gw_t 0 (by decide +kernel) (by decide +kernel), gw_t 1317 (by decide +kernel) (by decide +kernel)⟩
theorem ml_L_275 : Cond.methodLink RL 275 yX9_knowing ∈ GW := gw_t 1963 (by decide +kernel) (by decide +kernel)
theorem mw_X9_knowing : MW yX9_knowing (RRf 9) cX9_knowing 5 (some .int) 2 := ⟨⟨rfl, by decide +kernel, by decide +kernel, by decide +kernel⟩, gw_t 1964 (by decide +kernel) (by decide +kernel), gw_t 1965 (by decide +kernel) (by decide +kernel), gw_t 10 (by decide +kernel) (by decide +kernel), gw_t 1966 (by decide +kernel) (by decide +kernel)⟩
theorem ml_L_276 : Cond.methodLink RL 276 yL_crossing ∈ GW := gw_t 1322 (by decide +kernel) (by decide +kernel)
theorem mh_crossing : MSH yL_crossing cL_crossing 7 [(0, 14, 17, 25), (0, 14, 21, 34), (0, 14, 25, 13)] 6 := ⟨⟨by decide +kernel, by decide +kernel, by decide +kernel⟩, gw_t 1323 (by decide +kernel) (by decide +kernel), gw_t 0 (by decide +kernel) (by decide +kernel), gw_t 1324 (by decide +kernel) (by decide +kernel)⟩
theorem ml_L_278 : Cond.methodLink RL 278 yX9_crossing ∈ GW := gw_t 1967 (by decide +kernel) (by decide +kernel)
theorem mw_X9_crossing : MW yX9_crossing (RRf 9) cX9_crossing 9 (some .int) 4 := ⟨⟨rfl, by decide +kernel, by decide +kernel, by decide +kernel⟩, gw_t 1968 (by decide +kernel) (by decide +kernel), gw_t 1969 (by decide +kernel) (by decide +kernel), gw_t 10 (by decide +kernel) (by decide +kernel), gw_t 1970 (by decide +kernel) (by decide +kernel)⟩
theorem ml_L_279 : Cond.methodLink RL 279 yX8_image ∈ GW := gw_t 579 (by decide +kernel) (by decide +kernel)
theorem mw_X8_image : MW yX8_image (RRf 8) cX8_image 1 (some .int) 0 := ⟨⟨rfl, by decide +kernel, by decide +kernel, by decide +kernel⟩, gw_t 580 (by decide +kernel) (by decide +kernel), gw_t 581 (by decide +kernel) (by decide +kernel), gw_t 1 (by decide +kernel) (by decide +kernel), gw_t 582 (by decide +kernel) (by decide +kernel)⟩
theorem ml_L_282 : Cond.methodLink RL 282 yX9_image ∈ GW := gw_t 1971 (by decide +kernel) (by decide +kernel)
theorem mw_X9_image : MW yX9_image (RRf 9) cX9_image 1 (some .int) 0 := ⟨⟨rfl, by decide +kernel, by decide +kernel, by decide +kernel⟩, gw_t 1972 (by decide +kernel) (by decide +kernel), gw_t 1973 (by decide +kernel) (by decide +kernel), gw_t 10 (by decide +kernel) (by decide +kernel), gw_t 1974 (by decide +kernel) (by decide +kernel)⟩
theorem ml_L_283 : Cond.methodLink RL 283 yX8_restore ∈ GW := gw_t 590 (by decide +kernel) (by decide +kernel)
theorem mw_X8_restore : MW yX8_restore (RRf 8) cX8_restore 2 (some .int) 0 := ⟨⟨rfl, by decide +kernel, by decide +kernel, by decide +kernel⟩, gw_t 591 (by decide +kernel) (by decide +kernel), gw_t 592 (by decide +kernel) (by decide +kernel), gw_t 1 (by decide +kernel) (by decide +kernel), gw_t 593 (by decide +kernel) (by decide +kernel)⟩
theorem ml_L_286 : Cond.methodLink RL 286 yX9_restore ∈ GW := gw_t 1987 (by decide +kernel) (by decide +kernel)
theorem mw_X9_restore : MW yX9_restore (RRf 9) cX9_restore 1 (some .int) 0 := ⟨⟨rfl, by decide +kernel, by decide +kernel, by decide +kernel⟩, gw_t 1988 (by decide +kernel) (by decide +kernel), gw_t 1989 (by decide +kernel) (by decide +kernel), gw_t 10 (by decide +kernel) (by decide +kernel), gw_t 1990 (by decide +kernel) (by decide +kernel)⟩
theorem ml_L_287 : Cond.methodLink RL 287 yX8_count ∈ GW := gw_t 598 (by decide +kernel) (by decide +kernel)
theorem mw_X8_count : MW yX8_count (RRf 8) cX8_count 2 (some .int) 1 := ⟨⟨rfl, by decide +kernel, by decide +kernel, by decide +kernel⟩, gw_t 599 (by decide +kernel) (by decide +kernel), gw_t 600 (by decide +kernel) (by decide +kernel), gw_t 1 (by decide +kernel) (by decide +kernel), gw_t 601 (by decide +kernel) (by decide +kernel)⟩
theorem ml_L_290 : Cond.methodLink RL 290 yX9_count ∈ GW := gw_t 1991 (by decide +kernel) (by decide +kernel)
theorem mw_X9_count : MW yX9_count (RRf 9) cX9_count 2 (some .int) 1 := ⟨⟨rfl, by decide +kernel, by decide +kernel, by decide +kernel⟩, gw_t 1992 (by decide +kernel) (by decide +kernel), gw_t 1993 (by decide +kernel) (by decide +kernel), gw_t 10 (by decide +kernel) (by decide +kernel), gw_t 1994 (by decide +kernel) (by decide +kernel)⟩
def LK (E : EV) (p : Program) (l : Launch) (e : Env) (s : State) (m : MethodId) (below : List Frame) (meth : Method) (c : Code) (b : Nat) (i : Int32) (cells slots : Nat) (Q : State → Prop) : Prop := ∀ (a : Nat → Nat → Nat) (u : HS) (H : Heap) (locs : List Loc) (ls : Array Slot), IV u → Rel E a u H → va_S (AE E) s.heap H locs → lv_has ls 8 [(4, .int i), (0, .ref b), (1, .ref (a 8 0)), (2, .ref (a 9 0)), (3, .ref (a 90 0))] → W p l e room_1 s m #[.ref b] below meth c H locs (cells + 5) (slots + 4900) Q (F0 m 3227 ls [])
section R14
variable {p : Program} {l : Launch} {e : Env} {s : State} {m : MethodId} {below : List Frame} {meth : Method} {c : Code} {H : Heap} {locs : List Loc} {cells slots : Nat} {Q : State → Prop}
variable {ls : Array Slot} {E : EV} {a : Nat → Nat → Nat} {b L : Nat} {xs : Nat → Int32}
set_option maxHeartbeats 4000000 in
theorem cs_feed {u : HS} {i : Int32} (X : LXm E p l s m meth c b L xs) (hi : ∀ j ∈ ([1, 2, 3, 4, 5, 6] : List Int32), vp_in (i + j) L) (hI : IV u) (hR : Rel E a u H) (hS : va_S (AE E) s.heap H locs) (hl : lv_has ls 8 [(4, .int i), (0, .ref b), (1, .ref (a 8 0)), (2, .ref (a 9 0)), (3, .ref (a 90 0))]) (hcs : cells + 5 ≤ room_1.cells) (hss : slots + 4900 ≤ room_1.slots) (kk : LK E p l e s m below meth c b i cells slots Q) : W p l e room_1 s m #[.ref b] below meth c H locs cells slots Q (F0 m 232 ls []) := by
  have hx := X.1.1
  have hb := X.1.2.1
  obtain ⟨v, u1, u2, hc, hr, hgt, hI2⟩ := s_feed (ag xs i 1) (ag xs i 2) (ag xs i 3) (ag xs i 4) (ag xs i 5) u hI
  have hc : mX8_feed u (ag xs i 1) (ag xs i 2) (ag xs i 3) (ag xs i 4) (ag xs i 5) = some (v, u1) := hc
  have hr : mX9_feed u1 (ag xs i 1) (ag xs i 2) (ag xs i 3) (ag xs i 4) (ag xs i 5) = some (v, u2) := hr
  refine lv_aload_n hx hb dL_law__232 rfl (lv_at hl 2 rfl) ?_
  refine l_arg (j := 1) X hS (hi 1 (by decide)) (lv_at hl 1 rfl) (lv_at hl 0 rfl) (by decide) dL_law__233 dL_law__234 dL_law__236 dL_law__237 dL_law__238 ?_
  refine l_arg (j := 2) X hS (hi 2 (by decide)) (lv_at hl 1 rfl) (lv_at hl 0 rfl) (by decide) dL_law__239 dL_law__240 dL_law__242 dL_law__243 dL_law__244 ?_
  refine l_arg (j := 3) X hS (hi 3 (by decide)) (lv_at hl 1 rfl) (lv_at hl 0 rfl) (by decide) dL_law__245 dL_law__246 dL_law__248 dL_law__249 dL_law__250 ?_
  refine l_arg (j := 4) X hS (hi 4 (by decide)) (lv_at hl 1 rfl) (lv_at hl 0 rfl) (by decide) dL_law__251 dL_law__252 dL_law__254 dL_law__255 dL_law__256 ?_
  refine l_arg (j := 5) X hS (hi 5 (by decide)) (lv_at hl 1 rfl) (lv_at hl 0 rfl) (by decide) dL_law__257 dL_law__258 dL_law__260 dL_law__261 dL_law__262 ?_
  refine r_callV1 (v := .int v) (As := [.int (ag xs i 1), .int (ag xs i 2), .int (ag xs i 3), .int (ag xs i 4), .int (ag xs i 5)]) (rest := []) (r := 8) (i := 0) X.1 (vX8_feed (out := (v, u1)) hc) hR hS (lv0 (by decide) (by decide)) (by decide) ml_L_139 mw_X8_feed rfl ⟨Nat.le_of_ble_eq_true rfl, Nat.le_of_ble_eq_true rfl, by omega, by omega⟩ hl.1 rfl (Nat.le_of_ble_eq_true rfl) dL_law__263 (fun H locs hR hS => ?_)
  refine lv_aload_n hx hb dL_law__266 rfl (lv_at hl 3 rfl) ?_
  refine l_arg (j := 1) X hS (hi 1 (by decide)) (lv_at hl 1 rfl) (lv_at hl 0 rfl) (by decide) dL_law__267 dL_law__268 dL_law__270 dL_law__271 dL_law__272 ?_
  refine l_arg (j := 2) X hS (hi 2 (by decide)) (lv_at hl 1 rfl) (lv_at hl 0 rfl) (by decide) dL_law__273 dL_law__274 dL_law__276 dL_law__277 dL_law__278 ?_
  refine l_arg (j := 3) X hS (hi 3 (by decide)) (lv_at hl 1 rfl) (lv_at hl 0 rfl) (by decide) dL_law__279 dL_law__280 dL_law__282 dL_law__283 dL_law__284 ?_
  refine l_arg (j := 4) X hS (hi 4 (by decide)) (lv_at hl 1 rfl) (lv_at hl 0 rfl) (by decide) dL_law__285 dL_law__286 dL_law__288 dL_law__289 dL_law__290 ?_
  refine l_arg (j := 5) X hS (hi 5 (by decide)) (lv_at hl 1 rfl) (lv_at hl 0 rfl) (by decide) dL_law__291 dL_law__292 dL_law__294 dL_law__295 dL_law__296 ?_
  refine r_callV1 (v := .int v) (As := [.int (ag xs i 1), .int (ag xs i 2), .int (ag xs i 3), .int (ag xs i 4), .int (ag xs i 5)]) (rest := [.int v]) (r := 9) (i := 0) X.1 (vX9_feed (out := (v, u2)) hr) hR hS (lv0 (by decide) (by decide)) (by decide) ml_L_142 mw_X9_feed rfl ⟨Nat.le_of_ble_eq_true rfl, Nat.le_of_ble_eq_true rfl, by omega, by omega⟩ hl.1 rfl (Nat.le_of_ble_eq_true rfl) dL_law__297 (fun H locs hR hS => ?_)
  refine lv_icmp_eq (tgt := 3227) hx hb dL_law__300 (by decide) (fun _ => ?_) (fun c9 => absurd rfl c9)
  refine W.widen (k := cells + 5) (n := slots + 4900) (by omega) (by omega) ?_
  exact kk a u2 H locs ls hI2 hR hS hl
set_option maxHeartbeats 4000000 in
theorem cs_scene {u : HS} {i : Int32} (X : LXm E p l s m meth c b L xs) (hi : ∀ j ∈ ([1, 2, 3, 4, 5, 6] : List Int32), vp_in (i + j) L) (hI : IV u) (hR : Rel E a u H) (hS : va_S (AE E) s.heap H locs) (hl : lv_has ls 8 [(4, .int i), (0, .ref b), (1, .ref (a 8 0)), (2, .ref (a 9 0)), (3, .ref (a 90 0))]) (hcs : cells + 5 ≤ room_1.cells) (hss : slots + 4900 ≤ room_1.slots) (kk : LK E p l e s m below meth c b i cells slots Q) : W p l e room_1 s m #[.ref b] below meth c H locs cells slots Q (F0 m 305 ls []) := by
  have hx := X.1.1
  have hb := X.1.2.1
  obtain ⟨k, v, u1, r, u2, hc, hr, hgt, hv, hk, hI2⟩ := s_scene (ag xs i 1) u hI
  have hc : mX8_scene u (ag xs i 1) = some (k, v, u1) := hc
  have hr : mX9_scene u1 (ag xs i 1) = some (r, u2) := hr
  refine lv_aload_n hx hb dL_law__305 rfl (lv_at hl 2 rfl) ?_
  refine l_arg (j := 1) X hS (hi 1 (by decide)) (lv_at hl 1 rfl) (lv_at hl 0 rfl) (by decide) dL_law__306 dL_law__307 dL_law__309 dL_law__310 dL_law__311 ?_
  refine lv_aload_n hx hb dL_law__312 rfl (lv_at hl 4 rfl) ?_
  refine l_callH (As := [.ref (a 8 0), .int (ag xs i 1), .ref (a 90 0)]) (rest := []) X.1 (vL_scene X.2.2.2.2 (out := (k, v, u1)) (z := kmL [1] k) hc (km_1 hk)) hR hS ml_L_143 mh_scene rfl ⟨Nat.le_of_ble_eq_true rfl, Nat.le_of_ble_eq_true rfl, by omega, by omega⟩ hl.1 rfl (Nat.le_of_ble_eq_true rfl) dL_law__313 (fun a1 H locs hAL hR hS h92 => ?_)
  have hl : lv_has ls 8 [(4, .int i), (0, .ref b), (1, .ref (a1 8 0)), (2, .ref (a1 9 0)), (3, .ref (a1 90 0))] := by rw [hAL 8 0 (by decide) (by decide) (by decide) (by decide), hAL 9 0 (by decide) (by decide) (by decide) (by decide), hAL 90 0 (by decide) (by decide) (by decide) (by decide)]; exact hl
  refine lv_istore (lv' := [(5, .int (kmL [1] k)), (4, .int i), (0, .ref b), (1, .ref (a1 8 0)), (2, .ref (a1 9 0)), (3, .ref (a1 90 0))]) hx hb dL_law__316 hl (by decide) rfl (fun ls hl => ?_)
  refine lv_aload_n hx hb dL_law__318 rfl (lv_at hl 4 rfl) ?_
  refine l_arg (j := 1) X hS (hi 1 (by decide)) (lv_at hl 2 rfl) (lv_at hl 1 rfl) (by decide) dL_law__319 dL_law__320 dL_law__322 dL_law__323 dL_law__324 ?_
  refine r_callV1 (As := [.int (ag xs i 1)]) (rest := []) (r := 9) (i := 0) X.1 (vX9_scene (out := (r, u2)) hr) hR hS (lv0 (by decide) (by decide)) (by decide) ml_L_148 mw_X9_scene rfl ⟨Nat.le_of_ble_eq_true rfl, Nat.le_of_ble_eq_true rfl, by omega, by omega⟩ hl.1 rfl (Nat.le_of_ble_eq_true rfl) dL_law__325 (fun H locs hR hS => ?_)
  refine lv_istore (lv' := [(6, .int r), (5, .int (kmL [1] k)), (4, .int i), (0, .ref b), (1, .ref (a1 8 0)), (2, .ref (a1 9 0)), (3, .ref (a1 90 0))]) hx hb dL_law__328 hl (by decide) rfl (fun ls hl => ?_)
  refine l_tail (off := 2869) X hR hS ml_L_149 mw_X9_thrown hl hgt (fun h => (congrArg dL (h92 h)).trans ((dL_eL _).trans (congrArg Int32.toInt64 (hv (km0 (by decide) h))))) (by omega) (by omega) (by decide) dL_law__330 dL_law__331 dL_law__334 dL_law__336 dL_law__341 dL_law__343 dL_law__346 dL_law__347 dL_law__348 dL_law__349 dL_law__351 dL_law__352 dL_law__353 dL_law__358 (fun H locs hR hS => ?_)
  refine W.widen (k := cells + 5) (n := slots + 4900) (by omega) (by omega) ?_
  exact kk a1 u2 H locs ls hI2 hR hS (lv_sub hl [2, 3, 4, 5, 6] rfl)
set_option maxHeartbeats 4000000 in
theorem cs_task {u : HS} {i : Int32} (X : LXm E p l s m meth c b L xs) (hi : ∀ j ∈ ([1, 2, 3, 4, 5, 6] : List Int32), vp_in (i + j) L) (hI : IV u) (hR : Rel E a u H) (hS : va_S (AE E) s.heap H locs) (hl : lv_has ls 8 [(4, .int i), (0, .ref b), (1, .ref (a 8 0)), (2, .ref (a 9 0)), (3, .ref (a 90 0))]) (hcs : cells + 5 ≤ room_1.cells) (hss : slots + 4900 ≤ room_1.slots) (kk : LK E p l e s m below meth c b i cells slots Q) : W p l e room_1 s m #[.ref b] below meth c H locs cells slots Q (F0 m 361 ls []) := by
  have hx := X.1.1
  have hb := X.1.2.1
  obtain ⟨k, v, u1, r, u2, hc, hr, hgt, hv, hk, hI2⟩ := s_task (ag xs i 1) u hI
  have hc : mX8_task u (ag xs i 1) = some (k, v, u1) := hc
  have hr : mX9_task u1 (ag xs i 1) = some (r, u2) := hr
  refine lv_aload_n hx hb dL_law__361 rfl (lv_at hl 2 rfl) ?_
  refine l_arg (j := 1) X hS (hi 1 (by decide)) (lv_at hl 1 rfl) (lv_at hl 0 rfl) (by decide) dL_law__362 dL_law__363 dL_law__365 dL_law__366 dL_law__367 ?_
  refine lv_aload_n hx hb dL_law__368 rfl (lv_at hl 4 rfl) ?_
  refine l_callH (As := [.ref (a 8 0), .int (ag xs i 1), .ref (a 90 0)]) (rest := []) X.1 (vL_task X.2.2.2.2 (out := (k, v, u1)) (z := kmL [1] k) hc (km_1 hk)) hR hS ml_L_153 mh_task rfl ⟨Nat.le_of_ble_eq_true rfl, Nat.le_of_ble_eq_true rfl, by omega, by omega⟩ hl.1 rfl (Nat.le_of_ble_eq_true rfl) dL_law__369 (fun a1 H locs hAL hR hS h92 => ?_)
  have hl : lv_has ls 8 [(4, .int i), (0, .ref b), (1, .ref (a1 8 0)), (2, .ref (a1 9 0)), (3, .ref (a1 90 0))] := by rw [hAL 8 0 (by decide) (by decide) (by decide) (by decide), hAL 9 0 (by decide) (by decide) (by decide) (by decide), hAL 90 0 (by decide) (by decide) (by decide) (by decide)]; exact hl
  refine lv_istore (lv' := [(5, .int (kmL [1] k)), (4, .int i), (0, .ref b), (1, .ref (a1 8 0)), (2, .ref (a1 9 0)), (3, .ref (a1 90 0))]) hx hb dL_law__372 hl (by decide) rfl (fun ls hl => ?_)
  refine lv_aload_n hx hb dL_law__374 rfl (lv_at hl 4 rfl) ?_
  refine l_arg (j := 1) X hS (hi 1 (by decide)) (lv_at hl 2 rfl) (lv_at hl 1 rfl) (by decide) dL_law__375 dL_law__376 dL_law__378 dL_law__379 dL_law__380 ?_
  refine r_callV1 (As := [.int (ag xs i 1)]) (rest := []) (r := 9) (i := 0) X.1 (vX9_task (out := (r, u2)) hr) hR hS (lv0 (by decide) (by decide)) (by decide) ml_L_155 mw_X9_task rfl ⟨Nat.le_of_ble_eq_true rfl, Nat.le_of_ble_eq_true rfl, by omega, by omega⟩ hl.1 rfl (Nat.le_of_ble_eq_true rfl) dL_law__381 (fun H locs hR hS => ?_)
  refine lv_istore (lv' := [(6, .int r), (5, .int (kmL [1] k)), (4, .int i), (0, .ref b), (1, .ref (a1 8 0)), (2, .ref (a1 9 0)), (3, .ref (a1 90 0))]) hx hb dL_law__384 hl (by decide) rfl (fun ls hl => ?_)
  refine l_tail (off := 2813) X hR hS ml_L_149 mw_X9_thrown hl hgt (fun h => (congrArg dL (h92 h)).trans ((dL_eL _).trans (congrArg Int32.toInt64 (hv (km0 (by decide) h))))) (by omega) (by omega) (by decide) dL_law__386 dL_law__387 dL_law__390 dL_law__392 dL_law__397 dL_law__399 dL_law__402 dL_law__403 dL_law__404 dL_law__405 dL_law__407 dL_law__408 dL_law__409 dL_law__414 (fun H locs hR hS => ?_)
  refine W.widen (k := cells + 5) (n := slots + 4900) (by omega) (by omega) ?_
  exact kk a1 u2 H locs ls hI2 hR hS (lv_sub hl [2, 3, 4, 5, 6] rfl)
set_option maxHeartbeats 4000000 in
theorem cs_law {u : HS} {i : Int32} (X : LXm E p l s m meth c b L xs) (hi : ∀ j ∈ ([1, 2, 3, 4, 5, 6] : List Int32), vp_in (i + j) L) (hI : IV u) (hR : Rel E a u H) (hS : va_S (AE E) s.heap H locs) (hl : lv_has ls 8 [(4, .int i), (0, .ref b), (1, .ref (a 8 0)), (2, .ref (a 9 0)), (3, .ref (a 90 0))]) (hcs : cells + 5 ≤ room_1.cells) (hss : slots + 4900 ≤ room_1.slots) (kk : LK E p l e s m below meth c b i cells slots Q) : W p l e room_1 s m #[.ref b] below meth c H locs cells slots Q (F0 m 417 ls []) := by
  have hx := X.1.1
  have hb := X.1.2.1
  obtain ⟨k, v, u1, r, u2, hc, hr, hgt, hv, hk, hI2⟩ := s_law (ag xs i 1) u hI
  have hc : mX8_law u (ag xs i 1) = some (k, v, u1) := hc
  have hr : mX9_law u1 (ag xs i 1) = some (r, u2) := hr
  refine lv_aload_n hx hb dL_law__417 rfl (lv_at hl 2 rfl) ?_
  refine l_arg (j := 1) X hS (hi 1 (by decide)) (lv_at hl 1 rfl) (lv_at hl 0 rfl) (by decide) dL_law__418 dL_law__419 dL_law__421 dL_law__422 dL_law__423 ?_
  refine lv_aload_n hx hb dL_law__424 rfl (lv_at hl 4 rfl) ?_
  refine l_callH (As := [.ref (a 8 0), .int (ag xs i 1), .ref (a 90 0)]) (rest := []) X.1 (vL_law X.2.2.2.2 (out := (k, v, u1)) (z := kmL [1] k) hc (km_1 hk)) hR hS ml_L_156 mh_law rfl ⟨Nat.le_of_ble_eq_true rfl, Nat.le_of_ble_eq_true rfl, by omega, by omega⟩ hl.1 rfl (Nat.le_of_ble_eq_true rfl) dL_law__425 (fun a1 H locs hAL hR hS h92 => ?_)
  have hl : lv_has ls 8 [(4, .int i), (0, .ref b), (1, .ref (a1 8 0)), (2, .ref (a1 9 0)), (3, .ref (a1 90 0))] := by rw [hAL 8 0 (by decide) (by decide) (by decide) (by decide), hAL 9 0 (by decide) (by decide) (by decide) (by decide), hAL 90 0 (by decide) (by decide) (by decide) (by decide)]; exact hl
  refine lv_istore (lv' := [(5, .int (kmL [1] k)), (4, .int i), (0, .ref b), (1, .ref (a1 8 0)), (2, .ref (a1 9 0)), (3, .ref (a1 90 0))]) hx hb dL_law__428 hl (by decide) rfl (fun ls hl => ?_)
  refine lv_aload_n hx hb dL_law__430 rfl (lv_at hl 4 rfl) ?_
  refine l_arg (j := 1) X hS (hi 1 (by decide)) (lv_at hl 2 rfl) (lv_at hl 1 rfl) (by decide) dL_law__431 dL_law__432 dL_law__434 dL_law__435 dL_law__436 ?_
  refine r_callV1 (As := [.int (ag xs i 1)]) (rest := []) (r := 9) (i := 0) X.1 (vX9_law (out := (r, u2)) hr) hR hS (lv0 (by decide) (by decide)) (by decide) ml_L_158 mw_X9_law rfl ⟨Nat.le_of_ble_eq_true rfl, Nat.le_of_ble_eq_true rfl, by omega, by omega⟩ hl.1 rfl (Nat.le_of_ble_eq_true rfl) dL_law__437 (fun H locs hR hS => ?_)
  refine lv_istore (lv' := [(6, .int r), (5, .int (kmL [1] k)), (4, .int i), (0, .ref b), (1, .ref (a1 8 0)), (2, .ref (a1 9 0)), (3, .ref (a1 90 0))]) hx hb dL_law__440 hl (by decide) rfl (fun ls hl => ?_)
  refine l_tail (off := 2757) X hR hS ml_L_149 mw_X9_thrown hl hgt (fun h => (congrArg dL (h92 h)).trans ((dL_eL _).trans (congrArg Int32.toInt64 (hv (km0 (by decide) h))))) (by omega) (by omega) (by decide) dL_law__442 dL_law__443 dL_law__446 dL_law__448 dL_law__453 dL_law__455 dL_law__458 dL_law__459 dL_law__460 dL_law__461 dL_law__463 dL_law__464 dL_law__465 dL_law__470 (fun H locs hR hS => ?_)
  refine W.widen (k := cells + 5) (n := slots + 4900) (by omega) (by omega) ?_
  exact kk a1 u2 H locs ls hI2 hR hS (lv_sub hl [2, 3, 4, 5, 6] rfl)
set_option maxHeartbeats 4000000 in
theorem cs_fault {u : HS} {i : Int32} (X : LXm E p l s m meth c b L xs) (hi : ∀ j ∈ ([1, 2, 3, 4, 5, 6] : List Int32), vp_in (i + j) L) (hI : IV u) (hR : Rel E a u H) (hS : va_S (AE E) s.heap H locs) (hl : lv_has ls 8 [(4, .int i), (0, .ref b), (1, .ref (a 8 0)), (2, .ref (a 9 0)), (3, .ref (a 90 0))]) (hcs : cells + 5 ≤ room_1.cells) (hss : slots + 4900 ≤ room_1.slots) (kk : LK E p l e s m below meth c b i cells slots Q) : W p l e room_1 s m #[.ref b] below meth c H locs cells slots Q (F0 m 473 ls []) := by
  have hx := X.1.1
  have hb := X.1.2.1
  obtain ⟨v, u2, hc, hr, hI2⟩ := s_fault u hI
  have hc : mX8_fault u = some v := hc
  have hr : mX9_fault u = some (v, u2) := hr
  refine lv_aload_n hx hb dL_law__473 rfl (lv_at hl 2 rfl) ?_
  refine r_callV1 (v := .int v) (As := []) (rest := []) (r := 8) (i := 0) X.1 (vX8_fault (out := v) hc) hR hS (lv0 (by decide) (by decide)) (by decide) ml_L_159 mw_X8_fault rfl ⟨Nat.le_of_ble_eq_true rfl, Nat.le_of_ble_eq_true rfl, by omega, by omega⟩ hl.1 rfl (Nat.le_of_ble_eq_true rfl) dL_law__474 (fun H locs hR hS => ?_)
  refine lv_aload_n hx hb dL_law__477 rfl (lv_at hl 3 rfl) ?_
  refine r_callV1 (v := .int v) (As := []) (rest := [.int v]) (r := 9) (i := 0) X.1 (vX9_fault (out := (v, u2)) hr) hR hS (lv0 (by decide) (by decide)) (by decide) ml_L_162 mw_X9_fault rfl ⟨Nat.le_of_ble_eq_true rfl, Nat.le_of_ble_eq_true rfl, by omega, by omega⟩ hl.1 rfl (Nat.le_of_ble_eq_true rfl) dL_law__478 (fun H locs hR hS => ?_)
  refine lv_icmp_eq (tgt := 3227) hx hb dL_law__481 (by decide) (fun _ => ?_) (fun c9 => absurd rfl c9)
  refine W.widen (k := cells + 5) (n := slots + 4900) (by omega) (by omega) ?_
  exact kk a u2 H locs ls hI2 hR hS hl
set_option maxHeartbeats 4000000 in
theorem cs_told {u : HS} {i : Int32} (X : LXm E p l s m meth c b L xs) (hi : ∀ j ∈ ([1, 2, 3, 4, 5, 6] : List Int32), vp_in (i + j) L) (hI : IV u) (hR : Rel E a u H) (hS : va_S (AE E) s.heap H locs) (hl : lv_has ls 8 [(4, .int i), (0, .ref b), (1, .ref (a 8 0)), (2, .ref (a 9 0)), (3, .ref (a 90 0))]) (hcs : cells + 5 ≤ room_1.cells) (hss : slots + 4900 ≤ room_1.slots) (kk : LK E p l e s m below meth c b i cells slots Q) : W p l e room_1 s m #[.ref b] below meth c H locs cells slots Q (F0 m 486 ls []) := by
  have hx := X.1.1
  have hb := X.1.2.1
  obtain ⟨k, v, u1, r, u2, hc, hr, hgt, hv, hk, hI2⟩ := s_told (ag xs i 1) (ag xs i 2) u hI
  have hc : mX8_told u (ag xs i 1) (ag xs i 2) = some (k, v, u1) := hc
  have hr : mX9_told u1 (ag xs i 1) (ag xs i 2) = some (r, u2) := hr
  refine lv_aload_n hx hb dL_law__486 rfl (lv_at hl 2 rfl) ?_
  refine l_arg (j := 1) X hS (hi 1 (by decide)) (lv_at hl 1 rfl) (lv_at hl 0 rfl) (by decide) dL_law__487 dL_law__488 dL_law__490 dL_law__491 dL_law__492 ?_
  refine l_arg (j := 2) X hS (hi 2 (by decide)) (lv_at hl 1 rfl) (lv_at hl 0 rfl) (by decide) dL_law__493 dL_law__494 dL_law__496 dL_law__497 dL_law__498 ?_
  refine lv_aload_n hx hb dL_law__499 rfl (lv_at hl 4 rfl) ?_
  refine l_callH (As := [.ref (a 8 0), .int (ag xs i 1), .int (ag xs i 2), .ref (a 90 0)]) (rest := []) X.1 (vL_told X.2.2.2.2 (out := (k, v, u1)) (z := kmL [2, 1] k) hc (km_21 hk)) hR hS ml_L_163 mh_told rfl ⟨Nat.le_of_ble_eq_true rfl, Nat.le_of_ble_eq_true rfl, by omega, by omega⟩ hl.1 rfl (Nat.le_of_ble_eq_true rfl) dL_law__500 (fun a1 H locs hAL hR hS h92 => ?_)
  have hl : lv_has ls 8 [(4, .int i), (0, .ref b), (1, .ref (a1 8 0)), (2, .ref (a1 9 0)), (3, .ref (a1 90 0))] := by rw [hAL 8 0 (by decide) (by decide) (by decide) (by decide), hAL 9 0 (by decide) (by decide) (by decide) (by decide), hAL 90 0 (by decide) (by decide) (by decide) (by decide)]; exact hl
  refine lv_istore (lv' := [(5, .int (kmL [2, 1] k)), (4, .int i), (0, .ref b), (1, .ref (a1 8 0)), (2, .ref (a1 9 0)), (3, .ref (a1 90 0))]) hx hb dL_law__503 hl (by decide) rfl (fun ls hl => ?_)
  refine lv_aload_n hx hb dL_law__505 rfl (lv_at hl 4 rfl) ?_
  refine l_arg (j := 1) X hS (hi 1 (by decide)) (lv_at hl 2 rfl) (lv_at hl 1 rfl) (by decide) dL_law__506 dL_law__507 dL_law__509 dL_law__510 dL_law__511 ?_
  refine l_arg (j := 2) X hS (hi 2 (by decide)) (lv_at hl 2 rfl) (lv_at hl 1 rfl) (by decide) dL_law__512 dL_law__513 dL_law__515 dL_law__516 dL_law__517 ?_
  refine r_callV1 (As := [.int (ag xs i 1), .int (ag xs i 2)]) (rest := []) (r := 9) (i := 0) X.1 (vX9_told (out := (r, u2)) hr) hR hS (lv0 (by decide) (by decide)) (by decide) ml_L_166 mw_X9_told rfl ⟨Nat.le_of_ble_eq_true rfl, Nat.le_of_ble_eq_true rfl, by omega, by omega⟩ hl.1 rfl (Nat.le_of_ble_eq_true rfl) dL_law__518 (fun H locs hR hS => ?_)
  refine lv_istore (lv' := [(6, .int r), (5, .int (kmL [2, 1] k)), (4, .int i), (0, .ref b), (1, .ref (a1 8 0)), (2, .ref (a1 9 0)), (3, .ref (a1 90 0))]) hx hb dL_law__521 hl (by decide) rfl (fun ls hl => ?_)
  refine l_tail (off := 2676) X hR hS ml_L_149 mw_X9_thrown hl hgt (fun h => (congrArg dL (h92 h)).trans ((dL_eL _).trans (congrArg Int32.toInt64 (hv (km0 (by decide) h))))) (by omega) (by omega) (by decide) dL_law__523 dL_law__524 dL_law__527 dL_law__529 dL_law__534 dL_law__536 dL_law__539 dL_law__540 dL_law__541 dL_law__542 dL_law__544 dL_law__545 dL_law__546 dL_law__551 (fun H locs hR hS => ?_)
  refine W.widen (k := cells + 5) (n := slots + 4900) (by omega) (by omega) ?_
  exact kk a1 u2 H locs ls hI2 hR hS (lv_sub hl [2, 3, 4, 5, 6] rfl)
set_option maxHeartbeats 4000000 in
theorem cs_thing {u : HS} {i : Int32} (X : LXm E p l s m meth c b L xs) (hi : ∀ j ∈ ([1, 2, 3, 4, 5, 6] : List Int32), vp_in (i + j) L) (hI : IV u) (hR : Rel E a u H) (hS : va_S (AE E) s.heap H locs) (hl : lv_has ls 8 [(4, .int i), (0, .ref b), (1, .ref (a 8 0)), (2, .ref (a 9 0)), (3, .ref (a 90 0))]) (hcs : cells + 5 ≤ room_1.cells) (hss : slots + 4900 ≤ room_1.slots) (kk : LK E p l e s m below meth c b i cells slots Q) : W p l e room_1 s m #[.ref b] below meth c H locs cells slots Q (F0 m 554 ls []) := by
  have hx := X.1.1
  have hb := X.1.2.1
  obtain ⟨k, v, u1, r, u2, hc, hr, hgt, hv, hk, hI2⟩ := s_thing (ag xs i 1) (ag xs i 2) (ag xs i 3) (ag xs i 4) u hI
  have hc : mX8_thing u (ag xs i 1) (ag xs i 2) (ag xs i 3) (ag xs i 4) = some (k, v, u1) := hc
  have hr : mX9_thing u1 (ag xs i 1) (ag xs i 2) (ag xs i 3) (ag xs i 4) = some (r, u2) := hr
  refine lv_aload_n hx hb dL_law__554 rfl (lv_at hl 2 rfl) ?_
  refine l_arg (j := 1) X hS (hi 1 (by decide)) (lv_at hl 1 rfl) (lv_at hl 0 rfl) (by decide) dL_law__555 dL_law__556 dL_law__558 dL_law__559 dL_law__560 ?_
  refine l_arg (j := 2) X hS (hi 2 (by decide)) (lv_at hl 1 rfl) (lv_at hl 0 rfl) (by decide) dL_law__561 dL_law__562 dL_law__564 dL_law__565 dL_law__566 ?_
  refine l_arg (j := 3) X hS (hi 3 (by decide)) (lv_at hl 1 rfl) (lv_at hl 0 rfl) (by decide) dL_law__567 dL_law__568 dL_law__570 dL_law__571 dL_law__572 ?_
  refine l_arg (j := 4) X hS (hi 4 (by decide)) (lv_at hl 1 rfl) (lv_at hl 0 rfl) (by decide) dL_law__573 dL_law__574 dL_law__576 dL_law__577 dL_law__578 ?_
  refine lv_aload_n hx hb dL_law__579 rfl (lv_at hl 4 rfl) ?_
  refine l_callH (As := [.ref (a 8 0), .int (ag xs i 1), .int (ag xs i 2), .int (ag xs i 3), .int (ag xs i 4), .ref (a 90 0)]) (rest := []) X.1 (vL_thing X.2.2.2.2 (out := (k, v, u1)) (z := kmL [2, 1] k) hc (km_21 hk)) hR hS ml_L_167 mh_thing rfl ⟨Nat.le_of_ble_eq_true rfl, Nat.le_of_ble_eq_true rfl, by omega, by omega⟩ hl.1 rfl (Nat.le_of_ble_eq_true rfl) dL_law__580 (fun a1 H locs hAL hR hS h92 => ?_)
  have hl : lv_has ls 8 [(4, .int i), (0, .ref b), (1, .ref (a1 8 0)), (2, .ref (a1 9 0)), (3, .ref (a1 90 0))] := by rw [hAL 8 0 (by decide) (by decide) (by decide) (by decide), hAL 9 0 (by decide) (by decide) (by decide) (by decide), hAL 90 0 (by decide) (by decide) (by decide) (by decide)]; exact hl
  refine lv_istore (lv' := [(5, .int (kmL [2, 1] k)), (4, .int i), (0, .ref b), (1, .ref (a1 8 0)), (2, .ref (a1 9 0)), (3, .ref (a1 90 0))]) hx hb dL_law__583 hl (by decide) rfl (fun ls hl => ?_)
  refine lv_aload_n hx hb dL_law__585 rfl (lv_at hl 4 rfl) ?_
  refine l_arg (j := 1) X hS (hi 1 (by decide)) (lv_at hl 2 rfl) (lv_at hl 1 rfl) (by decide) dL_law__586 dL_law__587 dL_law__589 dL_law__590 dL_law__591 ?_
  refine l_arg (j := 2) X hS (hi 2 (by decide)) (lv_at hl 2 rfl) (lv_at hl 1 rfl) (by decide) dL_law__592 dL_law__593 dL_law__595 dL_law__596 dL_law__597 ?_
  refine l_arg (j := 3) X hS (hi 3 (by decide)) (lv_at hl 2 rfl) (lv_at hl 1 rfl) (by decide) dL_law__598 dL_law__599 dL_law__601 dL_law__602 dL_law__603 ?_
  refine l_arg (j := 4) X hS (hi 4 (by decide)) (lv_at hl 2 rfl) (lv_at hl 1 rfl) (by decide) dL_law__604 dL_law__605 dL_law__607 dL_law__608 dL_law__609 ?_
  refine r_callV1 (As := [.int (ag xs i 1), .int (ag xs i 2), .int (ag xs i 3), .int (ag xs i 4)]) (rest := []) (r := 9) (i := 0) X.1 (vX9_thing (out := (r, u2)) hr) hR hS (lv0 (by decide) (by decide)) (by decide) ml_L_170 mw_X9_thing rfl ⟨Nat.le_of_ble_eq_true rfl, Nat.le_of_ble_eq_true rfl, by omega, by omega⟩ hl.1 rfl (Nat.le_of_ble_eq_true rfl) dL_law__610 (fun H locs hR hS => ?_)
  refine lv_istore (lv' := [(6, .int r), (5, .int (kmL [2, 1] k)), (4, .int i), (0, .ref b), (1, .ref (a1 8 0)), (2, .ref (a1 9 0)), (3, .ref (a1 90 0))]) hx hb dL_law__613 hl (by decide) rfl (fun ls hl => ?_)
  refine l_tail (off := 2584) X hR hS ml_L_149 mw_X9_thrown hl hgt (fun h => (congrArg dL (h92 h)).trans ((dL_eL _).trans (congrArg Int32.toInt64 (hv (km0 (by decide) h))))) (by omega) (by omega) (by decide) dL_law__615 dL_law__616 dL_law__619 dL_law__621 dL_law__626 dL_law__628 dL_law__631 dL_law__632 dL_law__633 dL_law__634 dL_law__636 dL_law__637 dL_law__638 dL_law__643 (fun H locs hR hS => ?_)
  refine W.widen (k := cells + 5) (n := slots + 4900) (by omega) (by omega) ?_
  exact kk a1 u2 H locs ls hI2 hR hS (lv_sub hl [2, 3, 4, 5, 6] rfl)
set_option maxHeartbeats 4000000 in
theorem cs_kept {u : HS} {i : Int32} (X : LXm E p l s m meth c b L xs) (hi : ∀ j ∈ ([1, 2, 3, 4, 5, 6] : List Int32), vp_in (i + j) L) (hI : IV u) (hR : Rel E a u H) (hS : va_S (AE E) s.heap H locs) (hl : lv_has ls 8 [(4, .int i), (0, .ref b), (1, .ref (a 8 0)), (2, .ref (a 9 0)), (3, .ref (a 90 0))]) (hcs : cells + 5 ≤ room_1.cells) (hss : slots + 4900 ≤ room_1.slots) (kk : LK E p l e s m below meth c b i cells slots Q) : W p l e room_1 s m #[.ref b] below meth c H locs cells slots Q (F0 m 646 ls []) := by
  have hx := X.1.1
  have hb := X.1.2.1
  obtain ⟨k, v, u1, r, u2, hc, hr, hgt, hv, hk, hI2⟩ := s_kept (ag xs i 1) (ag xs i 2) u hI
  have hc : mX8_kept u (ag xs i 1) (ag xs i 2) = some (k, v, u1) := hc
  have hr : mX9_kept u1 (ag xs i 1) (ag xs i 2) = some (r, u2) := hr
  refine lv_aload_n hx hb dL_law__646 rfl (lv_at hl 2 rfl) ?_
  refine l_arg (j := 1) X hS (hi 1 (by decide)) (lv_at hl 1 rfl) (lv_at hl 0 rfl) (by decide) dL_law__647 dL_law__648 dL_law__650 dL_law__651 dL_law__652 ?_
  refine l_arg (j := 2) X hS (hi 2 (by decide)) (lv_at hl 1 rfl) (lv_at hl 0 rfl) (by decide) dL_law__653 dL_law__654 dL_law__656 dL_law__657 dL_law__658 ?_
  refine lv_aload_n hx hb dL_law__659 rfl (lv_at hl 4 rfl) ?_
  refine l_callH (As := [.ref (a 8 0), .int (ag xs i 1), .int (ag xs i 2), .ref (a 90 0)]) (rest := []) X.1 (vL_kept X.2.2.2.2 (out := (k, v, u1)) (z := kmL [3, 1] k) hc (km_31 hk)) hR hS ml_L_171 mh_kept rfl ⟨Nat.le_of_ble_eq_true rfl, Nat.le_of_ble_eq_true rfl, by omega, by omega⟩ hl.1 rfl (Nat.le_of_ble_eq_true rfl) dL_law__660 (fun a1 H locs hAL hR hS h92 => ?_)
  have hl : lv_has ls 8 [(4, .int i), (0, .ref b), (1, .ref (a1 8 0)), (2, .ref (a1 9 0)), (3, .ref (a1 90 0))] := by rw [hAL 8 0 (by decide) (by decide) (by decide) (by decide), hAL 9 0 (by decide) (by decide) (by decide) (by decide), hAL 90 0 (by decide) (by decide) (by decide) (by decide)]; exact hl
  refine lv_istore (lv' := [(5, .int (kmL [3, 1] k)), (4, .int i), (0, .ref b), (1, .ref (a1 8 0)), (2, .ref (a1 9 0)), (3, .ref (a1 90 0))]) hx hb dL_law__663 hl (by decide) rfl (fun ls hl => ?_)
  refine lv_aload_n hx hb dL_law__665 rfl (lv_at hl 4 rfl) ?_
  refine l_arg (j := 1) X hS (hi 1 (by decide)) (lv_at hl 2 rfl) (lv_at hl 1 rfl) (by decide) dL_law__666 dL_law__667 dL_law__669 dL_law__670 dL_law__671 ?_
  refine l_arg (j := 2) X hS (hi 2 (by decide)) (lv_at hl 2 rfl) (lv_at hl 1 rfl) (by decide) dL_law__672 dL_law__673 dL_law__675 dL_law__676 dL_law__677 ?_
  refine r_callV1 (As := [.int (ag xs i 1), .int (ag xs i 2)]) (rest := []) (r := 9) (i := 0) X.1 (vX9_kept (out := (r, u2)) hr) hR hS (lv0 (by decide) (by decide)) (by decide) ml_L_173 mw_X9_kept rfl ⟨Nat.le_of_ble_eq_true rfl, Nat.le_of_ble_eq_true rfl, by omega, by omega⟩ hl.1 rfl (Nat.le_of_ble_eq_true rfl) dL_law__678 (fun H locs hR hS => ?_)
  refine lv_istore (lv' := [(6, .int r), (5, .int (kmL [3, 1] k)), (4, .int i), (0, .ref b), (1, .ref (a1 8 0)), (2, .ref (a1 9 0)), (3, .ref (a1 90 0))]) hx hb dL_law__681 hl (by decide) rfl (fun ls hl => ?_)
  refine l_tail (off := 2516) X hR hS ml_L_149 mw_X9_thrown hl hgt (fun h => (congrArg dL (h92 h)).trans ((dL_eL _).trans (congrArg Int32.toInt64 (hv (km0 (by decide) h))))) (by omega) (by omega) (by decide) dL_law__683 dL_law__684 dL_law__687 dL_law__689 dL_law__694 dL_law__696 dL_law__699 dL_law__700 dL_law__701 dL_law__702 dL_law__704 dL_law__705 dL_law__706 dL_law__711 (fun H locs hR hS => ?_)
  refine W.widen (k := cells + 5) (n := slots + 4900) (by omega) (by omega) ?_
  exact kk a1 u2 H locs ls hI2 hR hS (lv_sub hl [2, 3, 4, 5, 6] rfl)
set_option maxHeartbeats 4000000 in
theorem cs_throwsOf {u : HS} {i : Int32} (X : LXm E p l s m meth c b L xs) (hi : ∀ j ∈ ([1, 2, 3, 4, 5, 6] : List Int32), vp_in (i + j) L) (hI : IV u) (hR : Rel E a u H) (hS : va_S (AE E) s.heap H locs) (hl : lv_has ls 8 [(4, .int i), (0, .ref b), (1, .ref (a 8 0)), (2, .ref (a 9 0)), (3, .ref (a 90 0))]) (hcs : cells + 5 ≤ room_1.cells) (hss : slots + 4900 ≤ room_1.slots) (kk : LK E p l e s m below meth c b i cells slots Q) : W p l e room_1 s m #[.ref b] below meth c H locs cells slots Q (F0 m 714 ls []) := by
  have hx := X.1.1
  have hb := X.1.2.1
  obtain ⟨k, v, u1, r, u2, hc, hr, hgt, hv, hk, hI2⟩ := s_throwsOf (ag xs i 1) (ag xs i 2) u hI
  have hc : mX8_throwsOf u (ag xs i 1) (ag xs i 2) = some (k, v, u1) := hc
  have hr : mX9_throwsOf u1 (ag xs i 1) (ag xs i 2) = some (r, u2) := hr
  refine lv_aload_n hx hb dL_law__714 rfl (lv_at hl 2 rfl) ?_
  refine l_arg (j := 1) X hS (hi 1 (by decide)) (lv_at hl 1 rfl) (lv_at hl 0 rfl) (by decide) dL_law__715 dL_law__716 dL_law__718 dL_law__719 dL_law__720 ?_
  refine l_arg (j := 2) X hS (hi 2 (by decide)) (lv_at hl 1 rfl) (lv_at hl 0 rfl) (by decide) dL_law__721 dL_law__722 dL_law__724 dL_law__725 dL_law__726 ?_
  refine lv_aload_n hx hb dL_law__727 rfl (lv_at hl 4 rfl) ?_
  refine l_callH (As := [.ref (a 8 0), .int (ag xs i 1), .int (ag xs i 2), .ref (a 90 0)]) (rest := []) X.1 (vL_throwsOf X.2.2.2.2 (out := (k, v, u1)) (z := kmL [2, 3] k) hc (km_23 hk)) hR hS ml_L_174 mh_throwsOf rfl ⟨Nat.le_of_ble_eq_true rfl, Nat.le_of_ble_eq_true rfl, by omega, by omega⟩ hl.1 rfl (Nat.le_of_ble_eq_true rfl) dL_law__728 (fun a1 H locs hAL hR hS h92 => ?_)
  have hl : lv_has ls 8 [(4, .int i), (0, .ref b), (1, .ref (a1 8 0)), (2, .ref (a1 9 0)), (3, .ref (a1 90 0))] := by rw [hAL 8 0 (by decide) (by decide) (by decide) (by decide), hAL 9 0 (by decide) (by decide) (by decide) (by decide), hAL 90 0 (by decide) (by decide) (by decide) (by decide)]; exact hl
  refine lv_istore (lv' := [(5, .int (kmL [2, 3] k)), (4, .int i), (0, .ref b), (1, .ref (a1 8 0)), (2, .ref (a1 9 0)), (3, .ref (a1 90 0))]) hx hb dL_law__731 hl (by decide) rfl (fun ls hl => ?_)
  refine lv_aload_n hx hb dL_law__733 rfl (lv_at hl 4 rfl) ?_
  refine l_arg (j := 1) X hS (hi 1 (by decide)) (lv_at hl 2 rfl) (lv_at hl 1 rfl) (by decide) dL_law__734 dL_law__735 dL_law__737 dL_law__738 dL_law__739 ?_
  refine l_arg (j := 2) X hS (hi 2 (by decide)) (lv_at hl 2 rfl) (lv_at hl 1 rfl) (by decide) dL_law__740 dL_law__741 dL_law__743 dL_law__744 dL_law__745 ?_
  refine r_callV1 (As := [.int (ag xs i 1), .int (ag xs i 2)]) (rest := []) (r := 9) (i := 0) X.1 (vX9_throwsOf (out := (r, u2)) hr) hR hS (lv0 (by decide) (by decide)) (by decide) ml_L_176 mw_X9_throwsOf rfl ⟨Nat.le_of_ble_eq_true rfl, Nat.le_of_ble_eq_true rfl, by omega, by omega⟩ hl.1 rfl (Nat.le_of_ble_eq_true rfl) dL_law__746 (fun H locs hR hS => ?_)
  refine lv_istore (lv' := [(6, .int r), (5, .int (kmL [2, 3] k)), (4, .int i), (0, .ref b), (1, .ref (a1 8 0)), (2, .ref (a1 9 0)), (3, .ref (a1 90 0))]) hx hb dL_law__749 hl (by decide) rfl (fun ls hl => ?_)
  refine l_tail (off := 2448) X hR hS ml_L_149 mw_X9_thrown hl hgt (fun h => (congrArg dL (h92 h)).trans ((dL_eL _).trans (congrArg Int32.toInt64 (hv (km0 (by decide) h))))) (by omega) (by omega) (by decide) dL_law__751 dL_law__752 dL_law__755 dL_law__757 dL_law__762 dL_law__764 dL_law__767 dL_law__768 dL_law__769 dL_law__770 dL_law__772 dL_law__773 dL_law__774 dL_law__779 (fun H locs hR hS => ?_)
  refine W.widen (k := cells + 5) (n := slots + 4900) (by omega) (by omega) ?_
  exact kk a1 u2 H locs ls hI2 hR hS (lv_sub hl [2, 3, 4, 5, 6] rfl)
set_option maxHeartbeats 4000000 in
theorem cs_looker {u : HS} {i : Int32} (X : LXm E p l s m meth c b L xs) (hi : ∀ j ∈ ([1, 2, 3, 4, 5, 6] : List Int32), vp_in (i + j) L) (hI : IV u) (hR : Rel E a u H) (hS : va_S (AE E) s.heap H locs) (hl : lv_has ls 8 [(4, .int i), (0, .ref b), (1, .ref (a 8 0)), (2, .ref (a 9 0)), (3, .ref (a 90 0))]) (hcs : cells + 5 ≤ room_1.cells) (hss : slots + 4900 ≤ room_1.slots) (kk : LK E p l e s m below meth c b i cells slots Q) : W p l e room_1 s m #[.ref b] below meth c H locs cells slots Q (F0 m 782 ls []) := by
  have hx := X.1.1
  have hb := X.1.2.1
  obtain ⟨k, v, u1, r, u2, hc, hr, hgt, hv, hk, hI2⟩ := s_looker (ag xs i 1) (ag xs i 2) (bz (ag xs i 3)) u hI
  have hc : mX8_looker u (ag xs i 1) (ag xs i 2) (bz (ag xs i 3)) = some (k, v, u1) := hc
  have hr : mX9_looker u1 (ag xs i 1) (ag xs i 2) (bz (ag xs i 3)) = some (r, u2) := hr
  refine lv_aload_n hx hb dL_law__782 rfl (lv_at hl 2 rfl) ?_
  refine l_arg (j := 1) X hS (hi 1 (by decide)) (lv_at hl 1 rfl) (lv_at hl 0 rfl) (by decide) dL_law__783 dL_law__784 dL_law__786 dL_law__787 dL_law__788 ?_
  refine l_arg (j := 2) X hS (hi 2 (by decide)) (lv_at hl 1 rfl) (lv_at hl 0 rfl) (by decide) dL_law__789 dL_law__790 dL_law__792 dL_law__793 dL_law__794 ?_
  refine l_arg (j := 3) X hS (hi 3 (by decide)) (lv_at hl 1 rfl) (lv_at hl 0 rfl) (by decide) dL_law__795 dL_law__796 dL_law__798 dL_law__799 dL_law__800 ?_
  refine l_bool hx hb dL_law__801 dL_law__804 dL_law__805 dL_law__808 ?_
  refine lv_aload_n hx hb dL_law__809 rfl (lv_at hl 4 rfl) ?_
  refine l_callH (As := [.ref (a 8 0), .int (ag xs i 1), .int (ag xs i 2), .int (bz (ag xs i 3)), .ref (a 90 0)]) (rest := []) X.1 (vL_looker X.2.2.2.2 (out := (k, v, u1)) (z := kmL [2, 3] k) hc (km_23 hk)) hR hS ml_L_177 mh_looker rfl ⟨Nat.le_of_ble_eq_true rfl, Nat.le_of_ble_eq_true rfl, by omega, by omega⟩ hl.1 rfl (Nat.le_of_ble_eq_true rfl) dL_law__810 (fun a1 H locs hAL hR hS h92 => ?_)
  have hl : lv_has ls 8 [(4, .int i), (0, .ref b), (1, .ref (a1 8 0)), (2, .ref (a1 9 0)), (3, .ref (a1 90 0))] := by rw [hAL 8 0 (by decide) (by decide) (by decide) (by decide), hAL 9 0 (by decide) (by decide) (by decide) (by decide), hAL 90 0 (by decide) (by decide) (by decide) (by decide)]; exact hl
  refine lv_istore (lv' := [(5, .int (kmL [2, 3] k)), (4, .int i), (0, .ref b), (1, .ref (a1 8 0)), (2, .ref (a1 9 0)), (3, .ref (a1 90 0))]) hx hb dL_law__813 hl (by decide) rfl (fun ls hl => ?_)
  refine lv_aload_n hx hb dL_law__815 rfl (lv_at hl 4 rfl) ?_
  refine l_arg (j := 1) X hS (hi 1 (by decide)) (lv_at hl 2 rfl) (lv_at hl 1 rfl) (by decide) dL_law__816 dL_law__817 dL_law__819 dL_law__820 dL_law__821 ?_
  refine l_arg (j := 2) X hS (hi 2 (by decide)) (lv_at hl 2 rfl) (lv_at hl 1 rfl) (by decide) dL_law__822 dL_law__823 dL_law__825 dL_law__826 dL_law__827 ?_
  refine l_arg (j := 3) X hS (hi 3 (by decide)) (lv_at hl 2 rfl) (lv_at hl 1 rfl) (by decide) dL_law__828 dL_law__829 dL_law__831 dL_law__832 dL_law__833 ?_
  refine l_bool hx hb dL_law__834 dL_law__837 dL_law__838 dL_law__841 ?_
  refine r_callV1 (As := [.int (ag xs i 1), .int (ag xs i 2), .int (bz (ag xs i 3))]) (rest := []) (r := 9) (i := 0) X.1 (vX9_looker (out := (r, u2)) hr) hR hS (lv0 (by decide) (by decide)) (by decide) ml_L_180 mw_X9_looker rfl ⟨Nat.le_of_ble_eq_true rfl, Nat.le_of_ble_eq_true rfl, by omega, by omega⟩ hl.1 rfl (Nat.le_of_ble_eq_true rfl) dL_law__842 (fun H locs hR hS => ?_)
  refine lv_istore (lv' := [(6, .int r), (5, .int (kmL [2, 3] k)), (4, .int i), (0, .ref b), (1, .ref (a1 8 0)), (2, .ref (a1 9 0)), (3, .ref (a1 90 0))]) hx hb dL_law__845 hl (by decide) rfl (fun ls hl => ?_)
  refine l_tail (off := 2352) X hR hS ml_L_149 mw_X9_thrown hl hgt (fun h => (congrArg dL (h92 h)).trans ((dL_eL _).trans (congrArg Int32.toInt64 (hv (km0 (by decide) h))))) (by omega) (by omega) (by decide) dL_law__847 dL_law__848 dL_law__851 dL_law__853 dL_law__858 dL_law__860 dL_law__863 dL_law__864 dL_law__865 dL_law__866 dL_law__868 dL_law__869 dL_law__870 dL_law__875 (fun H locs hR hS => ?_)
  refine W.widen (k := cells + 5) (n := slots + 4900) (by omega) (by omega) ?_
  exact kk a1 u2 H locs ls hI2 hR hS (lv_sub hl [2, 3, 4, 5, 6] rfl)
set_option maxHeartbeats 4000000 in
theorem cs_eyes {u : HS} {i : Int32} (X : LXm E p l s m meth c b L xs) (hi : ∀ j ∈ ([1, 2, 3, 4, 5, 6] : List Int32), vp_in (i + j) L) (hI : IV u) (hR : Rel E a u H) (hS : va_S (AE E) s.heap H locs) (hl : lv_has ls 8 [(4, .int i), (0, .ref b), (1, .ref (a 8 0)), (2, .ref (a 9 0)), (3, .ref (a 90 0))]) (hcs : cells + 5 ≤ room_1.cells) (hss : slots + 4900 ≤ room_1.slots) (kk : LK E p l e s m below meth c b i cells slots Q) : W p l e room_1 s m #[.ref b] below meth c H locs cells slots Q (F0 m 878 ls []) := by
  have hx := X.1.1
  have hb := X.1.2.1
  obtain ⟨k, v, u1, r, u2, hc, hr, hgt, hv, hk, hI2⟩ := s_eyes (ag xs i 1) (ag xs i 2) (ag xs i 3) (ag xs i 4) u hI
  have hc : mX8_eyes u (ag xs i 1) (ag xs i 2) (ag xs i 3) (ag xs i 4) = some (k, v, u1) := hc
  have hr : mX9_eyes u1 (ag xs i 1) (ag xs i 2) (ag xs i 3) (ag xs i 4) = some (r, u2) := hr
  refine lv_aload_n hx hb dL_law__878 rfl (lv_at hl 2 rfl) ?_
  refine l_arg (j := 1) X hS (hi 1 (by decide)) (lv_at hl 1 rfl) (lv_at hl 0 rfl) (by decide) dL_law__879 dL_law__880 dL_law__882 dL_law__883 dL_law__884 ?_
  refine l_arg (j := 2) X hS (hi 2 (by decide)) (lv_at hl 1 rfl) (lv_at hl 0 rfl) (by decide) dL_law__885 dL_law__886 dL_law__888 dL_law__889 dL_law__890 ?_
  refine l_arg (j := 3) X hS (hi 3 (by decide)) (lv_at hl 1 rfl) (lv_at hl 0 rfl) (by decide) dL_law__891 dL_law__892 dL_law__894 dL_law__895 dL_law__896 ?_
  refine l_arg (j := 4) X hS (hi 4 (by decide)) (lv_at hl 1 rfl) (lv_at hl 0 rfl) (by decide) dL_law__897 dL_law__898 dL_law__900 dL_law__901 dL_law__902 ?_
  refine lv_aload_n hx hb dL_law__903 rfl (lv_at hl 4 rfl) ?_
  refine l_callH (As := [.ref (a 8 0), .int (ag xs i 1), .int (ag xs i 2), .int (ag xs i 3), .int (ag xs i 4), .ref (a 90 0)]) (rest := []) X.1 (vL_eyes X.2.2.2.2 (out := (k, v, u1)) (z := kmL [1] k) hc (km_1 hk)) hR hS ml_L_181 mh_eyes rfl ⟨Nat.le_of_ble_eq_true rfl, Nat.le_of_ble_eq_true rfl, by omega, by omega⟩ hl.1 rfl (Nat.le_of_ble_eq_true rfl) dL_law__904 (fun a1 H locs hAL hR hS h92 => ?_)
  have hl : lv_has ls 8 [(4, .int i), (0, .ref b), (1, .ref (a1 8 0)), (2, .ref (a1 9 0)), (3, .ref (a1 90 0))] := by rw [hAL 8 0 (by decide) (by decide) (by decide) (by decide), hAL 9 0 (by decide) (by decide) (by decide) (by decide), hAL 90 0 (by decide) (by decide) (by decide) (by decide)]; exact hl
  refine lv_istore (lv' := [(5, .int (kmL [1] k)), (4, .int i), (0, .ref b), (1, .ref (a1 8 0)), (2, .ref (a1 9 0)), (3, .ref (a1 90 0))]) hx hb dL_law__907 hl (by decide) rfl (fun ls hl => ?_)
  refine lv_aload_n hx hb dL_law__909 rfl (lv_at hl 4 rfl) ?_
  refine l_arg (j := 1) X hS (hi 1 (by decide)) (lv_at hl 2 rfl) (lv_at hl 1 rfl) (by decide) dL_law__910 dL_law__911 dL_law__913 dL_law__914 dL_law__915 ?_
  refine l_arg (j := 2) X hS (hi 2 (by decide)) (lv_at hl 2 rfl) (lv_at hl 1 rfl) (by decide) dL_law__916 dL_law__917 dL_law__919 dL_law__920 dL_law__921 ?_
  refine l_arg (j := 3) X hS (hi 3 (by decide)) (lv_at hl 2 rfl) (lv_at hl 1 rfl) (by decide) dL_law__922 dL_law__923 dL_law__925 dL_law__926 dL_law__927 ?_
  refine l_arg (j := 4) X hS (hi 4 (by decide)) (lv_at hl 2 rfl) (lv_at hl 1 rfl) (by decide) dL_law__928 dL_law__929 dL_law__931 dL_law__932 dL_law__933 ?_
  refine r_callV1 (As := [.int (ag xs i 1), .int (ag xs i 2), .int (ag xs i 3), .int (ag xs i 4)]) (rest := []) (r := 9) (i := 0) X.1 (vX9_eyes (out := (r, u2)) hr) hR hS (lv0 (by decide) (by decide)) (by decide) ml_L_183 mw_X9_eyes rfl ⟨Nat.le_of_ble_eq_true rfl, Nat.le_of_ble_eq_true rfl, by omega, by omega⟩ hl.1 rfl (Nat.le_of_ble_eq_true rfl) dL_law__934 (fun H locs hR hS => ?_)
  refine lv_istore (lv' := [(6, .int r), (5, .int (kmL [1] k)), (4, .int i), (0, .ref b), (1, .ref (a1 8 0)), (2, .ref (a1 9 0)), (3, .ref (a1 90 0))]) hx hb dL_law__937 hl (by decide) rfl (fun ls hl => ?_)
  refine l_tail (off := 2260) X hR hS ml_L_149 mw_X9_thrown hl hgt (fun h => (congrArg dL (h92 h)).trans ((dL_eL _).trans (congrArg Int32.toInt64 (hv (km0 (by decide) h))))) (by omega) (by omega) (by decide) dL_law__939 dL_law__940 dL_law__943 dL_law__945 dL_law__950 dL_law__952 dL_law__955 dL_law__956 dL_law__957 dL_law__958 dL_law__960 dL_law__961 dL_law__962 dL_law__967 (fun H locs hR hS => ?_)
  refine W.widen (k := cells + 5) (n := slots + 4900) (by omega) (by omega) ?_
  exact kk a1 u2 H locs ls hI2 hR hS (lv_sub hl [2, 3, 4, 5, 6] rfl)
end R14
