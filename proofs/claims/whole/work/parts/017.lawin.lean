set_option maxRecDepth 100000 in
theorem wI_wsL_law_r1 : GoodIn lw_tbl wsL_law_r1 := goodIn_p wsL_law_r1 [210, 213] (by decide +kernel) (by decide +kernel)
set_option maxRecDepth 100000 in
theorem wI_wsL_law_r2 : GoodIn lw_tbl wsL_law_r2 := goodIn_p wsL_law_r2 [218, 224] (by decide +kernel) (by decide +kernel)
set_option maxRecDepth 100000 in
theorem wI_wsL_law_r3 : GoodIn lw_tbl wsL_law_r3 := goodIn_p wsL_law_r3 [267] (by decide +kernel) (by decide +kernel)
set_option maxRecDepth 100000 in
theorem wI_wsL_law_r4 : GoodIn lw_tbl wsL_law_r4 := goodIn_p wsL_law_r4 [273, 295, 316, 357] (by decide +kernel) (by decide +kernel)
set_option maxRecDepth 100000 in
theorem wI_wsL_law_r5 : GoodIn lw_tbl wsL_law_r5 := goodIn_p wsL_law_r5 [391, 491, 508] (by decide +kernel) (by decide +kernel)
set_option maxRecDepth 100000 in
theorem wI_wsL_law_r6 : GoodIn lw_tbl wsL_law_r6 := goodIn_p wsL_law_r6 [514, 1425] (by decide +kernel) (by decide +kernel)
set_option maxRecDepth 100000 in
theorem wI_wsL_law_r7 : GoodIn lw_tbl wsL_law_r7 := goodIn_p wsL_law_r7 [] (by decide +kernel) (by decide +kernel)
set_option maxRecDepth 100000 in
theorem wI_wsL_law_r8 : GoodIn lw_tbl wsL_law_r8 := goodIn_p wsL_law_r8 [596, 600, 1607, 1611, 604] (by decide +kernel) (by decide +kernel)
set_option maxRecDepth 100000 in
theorem wI_wsL_law_r9 : GoodIn lw_tbl wsL_law_r9 := goodIn_p wsL_law_r9 [1615, 1592, 608, 612, 616] (by decide +kernel) (by decide +kernel)
set_option maxRecDepth 100000 in
theorem wI_wsL_law_r10 : GoodIn lw_tbl wsL_law_r10 := goodIn_p wsL_law_r10 [620, 624, 632, 628] (by decide +kernel) (by decide +kernel)
set_option maxRecDepth 100000 in
theorem wI_wsL_law_r11 : GoodIn lw_tbl wsL_law_r11 := goodIn_p wsL_law_r11 [636, 640, 645, 649, 653] (by decide +kernel) (by decide +kernel)
set_option maxRecDepth 100000 in
theorem wI_wsL_law_r12 : GoodIn lw_tbl wsL_law_r12 := goodIn_p wsL_law_r12 [657, 663, 667, 670, 673, 678] (by decide +kernel) (by decide +kernel)
set_option maxRecDepth 100000 in
theorem wI_wsL_law_r13 : GoodIn lw_tbl wsL_law_r13 := goodIn_p wsL_law_r13 [681, 684, 687, 691, 702, 707] (by decide +kernel) (by decide +kernel)
set_option maxRecDepth 100000 in
theorem wI_wsL_law_r14 : GoodIn lw_tbl wsL_law_r14 := goodIn_p wsL_law_r14 [713, 717, 723, 728, 734, 739] (by decide +kernel) (by decide +kernel)
set_option maxRecDepth 100000 in
theorem wI_wsL_law_r15 : GoodIn lw_tbl wsL_law_r15 := goodIn_p wsL_law_r15 [745, 749, 754, 759, 769, 774] (by decide +kernel) (by decide +kernel)
set_option maxRecDepth 100000 in
theorem wI_wsL_law_r16 : GoodIn lw_tbl wsL_law_r16 := goodIn_p wsL_law_r16 [781, 787, 791, 795, 802, 807] (by decide +kernel) (by decide +kernel)
set_option maxRecDepth 100000 in
theorem wI_wsL_law_r17 : GoodIn lw_tbl wsL_law_r17 := goodIn_p wsL_law_r17 [812, 817, 1623, 1627, 1631] (by decide +kernel) (by decide +kernel)
set_option maxRecDepth 100000 in
theorem wI_wsL_law_r18 : GoodIn lw_tbl wsL_law_r18 := goodIn_p wsL_law_r18 [1635, 1639, 1648] (by decide +kernel) (by decide +kernel)
set_option maxRecDepth 100000 in
theorem wI_wsL_law_r19 : GoodIn lw_tbl wsL_law_r19 := goodIn_p wsL_law_r19 [1652, 1657, 1661, 1665, 1669] (by decide +kernel) (by decide +kernel)
set_option maxRecDepth 100000 in
theorem wI_wsL_law_r20 : GoodIn lw_tbl wsL_law_r20 := goodIn_p wsL_law_r20 [1674, 1678, 1683, 1689] (by decide +kernel) (by decide +kernel)
set_option maxRecDepth 100000 in
theorem wI_wsL_law_r21 : GoodIn lw_tbl wsL_law_r21 := goodIn_p wsL_law_r21 [1702, 1706, 1712, 1717] (by decide +kernel) (by decide +kernel)
set_option maxRecDepth 100000 in
theorem wI_wsL_law_r22 : GoodIn lw_tbl wsL_law_r22 := goodIn_p wsL_law_r22 [1724, 1734, 1738, 1742, 1745] (by decide +kernel) (by decide +kernel)
set_option maxRecDepth 100000 in
theorem wI_wsL_law_r23 : GoodIn lw_tbl wsL_law_r23 := goodIn_p wsL_law_r23 [822, 1619, 826, 830, 834, 837, 840] (by decide +kernel) (by decide +kernel)
set_option maxRecDepth 100000 in
theorem wI_wsL_law_r24 : GoodIn lw_tbl wsL_law_r24 := goodIn_p wsL_law_r24 [1749, 1753, 1757, 1760, 1763, 844] (by decide +kernel) (by decide +kernel)
set_option maxRecDepth 100000 in
theorem wI_wsL_law_r25 : GoodIn lw_tbl wsL_law_r25 := goodIn_p wsL_law_r25 [848, 1767, 1771, 1775, 852, 856] (by decide +kernel) (by decide +kernel)
set_option maxRecDepth 100000 in
theorem wI_wsL_law_r26 : GoodIn lw_tbl wsL_law_r26 := goodIn_p wsL_law_r26 [860, 1779, 1783, 1787, 864, 868, 872] (by decide +kernel) (by decide +kernel)
set_option maxRecDepth 100000 in
theorem wI_wsL_law_r27 : GoodIn lw_tbl wsL_law_r27 := goodIn_p wsL_law_r27 [1792, 1796, 1800, 876, 880, 884] (by decide +kernel) (by decide +kernel)
set_option maxRecDepth 100000 in
theorem wI_wsL_law_r28 : GoodIn lw_tbl wsL_law_r28 := goodIn_p wsL_law_r28 [888, 895, 900, 904, 1804, 1808] (by decide +kernel) (by decide +kernel)
set_option maxRecDepth 100000 in
theorem wI_wsL_law_r29 : GoodIn lw_tbl wsL_law_r29 := goodIn_p wsL_law_r29 [1812, 908, 912, 916, 1816, 1820] (by decide +kernel) (by decide +kernel)
set_option maxRecDepth 100000 in
theorem wI_wsL_law_r30 : GoodIn lw_tbl wsL_law_r30 := goodIn_p wsL_law_r30 [920, 924, 929, 933, 937, 942] (by decide +kernel) (by decide +kernel)
set_option maxRecDepth 100000 in
theorem wI_wsL_law_r31 : GoodIn lw_tbl wsL_law_r31 := goodIn_p wsL_law_r31 [947, 950, 953, 959, 963, 967] (by decide +kernel) (by decide +kernel)
set_option maxRecDepth 100000 in
theorem wI_wsL_law_r32 : GoodIn lw_tbl wsL_law_r32 := goodIn_p wsL_law_r32 [1824, 1828, 1832, 1837, 971, 975] (by decide +kernel) (by decide +kernel)
set_option maxRecDepth 100000 in
theorem wI_wsL_law_r33 : GoodIn lw_tbl wsL_law_r33 := goodIn_p wsL_law_r33 [978, 1842, 1845, 985, 989, 993] (by decide +kernel) (by decide +kernel)
set_option maxRecDepth 100000 in
theorem wI_wsL_law_r34 : GoodIn lw_tbl wsL_law_r34 := goodIn_p wsL_law_r34 [1849, 1853, 1857, 997, 1861, 1002] (by decide +kernel) (by decide +kernel)
set_option maxRecDepth 100000 in
theorem wI_wsL_law_r35 : GoodIn lw_tbl wsL_law_r35 := goodIn_p wsL_law_r35 [1005, 1009, 1013, 1020, 1024, 1865] (by decide +kernel) (by decide +kernel)
set_option maxRecDepth 100000 in
theorem wI_wsL_law_r36 : GoodIn lw_tbl wsL_law_r36 := goodIn_p wsL_law_r36 [1870, 1874, 1879, 1884, 1888] (by decide +kernel) (by decide +kernel)
set_option maxRecDepth 100000 in
theorem wI_wsL_law_r37 : GoodIn lw_tbl wsL_law_r37 := goodIn_p wsL_law_r37 [1028, 1032, 1036, 1892, 1896, 1041] (by decide +kernel) (by decide +kernel)
set_option maxRecDepth 100000 in
theorem wI_wsL_law_r38 : GoodIn lw_tbl wsL_law_r38 := goodIn_p wsL_law_r38 [1045, 1049, 1054, 1058, 1900, 1904, 1908] (by decide +kernel) (by decide +kernel)
set_option maxRecDepth 100000 in
theorem wI_wsL_law_r39 : GoodIn lw_tbl wsL_law_r39 := goodIn_p wsL_law_r39 [1912, 1916, 1062, 1066, 1920, 1924] (by decide +kernel) (by decide +kernel)
set_option maxRecDepth 100000 in
theorem wI_wsL_law_r40 : GoodIn lw_tbl wsL_law_r40 := goodIn_p wsL_law_r40 [1928, 1070, 1074, 1932, 1936] (by decide +kernel) (by decide +kernel)
set_option maxRecDepth 100000 in
theorem wI_wsL_law_r41 : GoodIn lw_tbl wsL_law_r41 := goodIn_p wsL_law_r41 [1080, 1940, 1084, 1088, 1944, 1949] (by decide +kernel) (by decide +kernel)
set_option maxRecDepth 100000 in
theorem wI_wsL_law_r42 : GoodIn lw_tbl wsL_law_r42 := goodIn_p wsL_law_r42 [1953, 1093, 1957, 1961, 1965] (by decide +kernel) (by decide +kernel)
set_option maxRecDepth 100000 in
theorem wI_wsL_law_r43 : GoodIn lw_tbl wsL_law_r43 := goodIn_p wsL_law_r43 [1097, 1969, 1102, 1106, 1110, 1973] (by decide +kernel) (by decide +kernel)
set_option maxRecDepth 100000 in
theorem wI_wsL_law_r44 : GoodIn lw_tbl wsL_law_r44 := goodIn_p wsL_law_r44 [1978, 1982, 1114, 1986, 1118, 1122] (by decide +kernel) (by decide +kernel)
set_option maxRecDepth 100000 in
theorem wI_wsL_law_r45 : GoodIn lw_tbl wsL_law_r45 := goodIn_p wsL_law_r45 [1990, 1994, 1126, 1998, 1131] (by decide +kernel) (by decide +kernel)
set_option maxRecDepth 100000 in
theorem wI_wsL_law_r46 : GoodIn lw_tbl wsL_law_r46 := goodIn_p wsL_law_r46 [1135, 2003, 2007, 1139, 2011, 1143] (by decide +kernel) (by decide +kernel)
set_option maxRecDepth 100000 in
theorem wI_wsL_law_r47 : GoodIn lw_tbl wsL_law_r47 := goodIn_p wsL_law_r47 [2015, 1147, 2019, 2023, 1152, 2027] (by decide +kernel) (by decide +kernel)
set_option maxRecDepth 100000 in
theorem wI_wsL_law_r48 : GoodIn lw_tbl wsL_law_r48 := goodIn_p wsL_law_r48 [1156, 2031, 1160, 1163, 1167, 2035, 2038] (by decide +kernel) (by decide +kernel)
set_option maxRecDepth 100000 in
theorem wI_wsL_law_r49 : GoodIn lw_tbl wsL_law_r49 := goodIn_p wsL_law_r49 [2043, 1172, 2047, 1176, 2051, 1180] (by decide +kernel) (by decide +kernel)
set_option maxRecDepth 100000 in
theorem wI_wsL_law_r50 : GoodIn lw_tbl wsL_law_r50 := goodIn_p wsL_law_r50 [2055, 2059, 1185, 1189, 2063, 1193] (by decide +kernel) (by decide +kernel)
set_option maxRecDepth 100000 in
theorem wI_wsL_law_r51 : GoodIn lw_tbl wsL_law_r51 := goodIn_p wsL_law_r51 [1197, 2067, 2071, 2075, 1201, 1205] (by decide +kernel) (by decide +kernel)
set_option maxRecDepth 100000 in
theorem wI_wsL_law_r52 : GoodIn lw_tbl wsL_law_r52 := goodIn_p wsL_law_r52 [1209, 2079, 1213, 1217, 1221, 1225] (by decide +kernel) (by decide +kernel)
set_option maxRecDepth 100000 in
theorem wI_wsL_law_r53 : GoodIn lw_tbl wsL_law_r53 := goodIn_p wsL_law_r53 [1229, 2083, 2087, 2092, 2095, 2099] (by decide +kernel) (by decide +kernel)
set_option maxRecDepth 100000 in
theorem wI_wsL_law_r54 : GoodIn lw_tbl wsL_law_r54 := goodIn_p wsL_law_r54 [1233, 1237, 2103, 1241, 1245, 2107, 1249] (by decide +kernel) (by decide +kernel)
set_option maxRecDepth 100000 in
theorem wI_wsL_law_r55 : GoodIn lw_tbl wsL_law_r55 := goodIn_p wsL_law_r55 [1253, 1257, 1261, 2111, 2115] (by decide +kernel) (by decide +kernel)
set_option maxRecDepth 100000 in
theorem wI_wsL_law_r56 : GoodIn lw_tbl wsL_law_r56 := goodIn_p wsL_law_r56 [2119, 1267, 2123, 1271, 1275, 1279] (by decide +kernel) (by decide +kernel)
set_option maxRecDepth 100000 in
theorem wI_wsL_law_r57 : GoodIn lw_tbl wsL_law_r57 := goodIn_p wsL_law_r57 [2127, 2131, 1284, 2135, 1288, 1291] (by decide +kernel) (by decide +kernel)
set_option maxRecDepth 100000 in
theorem wI_wsL_law_r58 : GoodIn lw_tbl wsL_law_r58 := goodIn_p wsL_law_r58 [1295, 2139, 2143, 1301, 1304, 1309] (by decide +kernel) (by decide +kernel)
set_option maxRecDepth 100000 in
theorem wI_wsL_law_r59 : GoodIn lw_tbl wsL_law_r59 := goodIn_p wsL_law_r59 [1313, 1321, 2147, 2150, 2155] (by decide +kernel) (by decide +kernel)
set_option maxRecDepth 100000 in
theorem wI_wsL_law_r60 : GoodIn lw_tbl wsL_law_r60 := goodIn_p wsL_law_r60 [2159, 2163, 2171, 2175, 2179] (by decide +kernel) (by decide +kernel)
set_option maxRecDepth 100000 in
theorem wI_wsL_law_r61 : GoodIn lw_tbl wsL_law_r61 := goodIn_p wsL_law_r61 [1325, 1329, 1333, 1337, 1341, 1346, 2183, 1588] (by decide +kernel) (by decide +kernel)
set_option maxRecDepth 100000 in
theorem wI_wsL_law_r62 : GoodIn lw_tbl wsL_law_r62 := goodIn_p wsL_law_r62 [1352, 2187, 1356, 2191, 1360, 1363] (by decide +kernel) (by decide +kernel)
set_option maxRecDepth 100000 in
theorem wI_wsL_law_r63 : GoodIn lw_tbl wsL_law_r63 := goodIn_p wsL_law_r63 [1367, 2195, 1371, 1375, 2199, 1380] (by decide +kernel) (by decide +kernel)
set_option maxRecDepth 100000 in
theorem wI_wsL_law_r64 : GoodIn lw_tbl wsL_law_r64 := goodIn_p wsL_law_r64 [2203, 1384, 2207, 1388, 1392, 1585] (by decide +kernel) (by decide +kernel)
set_option maxRecDepth 100000 in
theorem wI_wsL_law_r65 : GoodIn lw_tbl wsL_law_r65 := goodIn_p wsL_law_r65 [1396, 1400, 1403, 1596, 1599, 1407, 1411] (by decide +kernel) (by decide +kernel)
set_option maxRecDepth 100000 in
theorem wI_wsL_law_r66 : GoodIn lw_tbl wsL_law_r66 := goodIn_p wsL_law_r66 [1415, 1419, 1603] (by decide +kernel) (by decide +kernel)
set_option maxRecDepth 100000 in
theorem wI_wsX110 : GoodIn lw_tbl wsX110 := goodIn_p wsX110 [] (by decide +kernel) (by decide +kernel)
set_option maxRecDepth 100000 in
theorem wI_wsX120 : GoodIn lw_tbl wsX120 := goodIn_p wsX120 [] (by decide +kernel) (by decide +kernel)
set_option maxRecDepth 100000 in
theorem wI_wsX50 : GoodIn lw_tbl wsX50 := goodIn_p wsX50 [] (by decide +kernel) (by decide +kernel)
set_option maxRecDepth 100000 in
theorem wI_wsX40 : GoodIn lw_tbl wsX40 := goodIn_p wsX40 [] (by decide +kernel) (by decide +kernel)
set_option maxRecDepth 100000 in
theorem wI_wsX60 : GoodIn lw_tbl wsX60 := goodIn_p wsX60 [] (by decide +kernel) (by decide +kernel)
set_option maxRecDepth 100000 in
theorem wI_wsX30 : GoodIn lw_tbl wsX30 := goodIn_p wsX30 [] (by decide +kernel) (by decide +kernel)
set_option maxRecDepth 100000 in
theorem wI_wsX100 : GoodIn lw_tbl wsX100 := goodIn_p wsX100 [] (by decide +kernel) (by decide +kernel)
set_option maxRecDepth 100000 in
theorem wI_wsX80 : GoodIn lw_tbl wsX80 := goodIn_p wsX80 [] (by decide +kernel) (by decide +kernel)
set_option maxRecDepth 100000 in
theorem wI_wsX10 : GoodIn lw_tbl wsX10 := goodIn_p wsX10 [] (by decide +kernel) (by decide +kernel)
set_option maxRecDepth 100000 in
theorem wI_wsX20 : GoodIn lw_tbl wsX20 := goodIn_p wsX20 [] (by decide +kernel) (by decide +kernel)
set_option maxRecDepth 100000 in
theorem wI_wsX00 : GoodIn lw_tbl wsX00 := goodIn_p wsX00 [] (by decide +kernel) (by decide +kernel)
set_option maxRecDepth 100000 in
theorem wI_wsX90 : GoodIn lw_tbl wsX90 := goodIn_p wsX90 [] (by decide +kernel) (by decide +kernel)
set_option maxRecDepth 100000 in
theorem wI_wsX70 : GoodIn lw_tbl wsX70 := goodIn_p wsX70 [] (by decide +kernel) (by decide +kernel)
theorem wI_nil : GoodIn lw_tbl ([] : List Cond) := fun _ h => absurd h List.not_mem_nil
theorem wsL_law_in : ∀ w ∈ wsL_law, w ∈ lw_tbl := fun w h => ((goodIn_app (goodIn_app (goodIn_app (goodIn_app (goodIn_app (goodIn_app (goodIn_app (goodIn_app (goodIn_app (goodIn_app (goodIn_app (goodIn_app (goodIn_app (goodIn_app (goodIn_app wI_wsL_law_r1 (goodIn_app wI_wsL_law_r2 (goodIn_app wI_wsL_law_r3 (goodIn_app wI_wsL_law_r4 (goodIn_app wI_wsL_law_r5 (goodIn_app wI_wsL_law_r6 (goodIn_app wI_wsL_law_r7 (goodIn_app wI_wsL_law_r8 (goodIn_app wI_wsL_law_r9 (goodIn_app wI_wsL_law_r10 (goodIn_app wI_wsL_law_r11 (goodIn_app wI_wsL_law_r12 (goodIn_app wI_wsL_law_r13 (goodIn_app wI_wsL_law_r14 (goodIn_app wI_wsL_law_r15 (goodIn_app wI_wsL_law_r16 (goodIn_app wI_wsL_law_r17 (goodIn_app wI_wsL_law_r18 (goodIn_app wI_wsL_law_r19 (goodIn_app wI_wsL_law_r20 (goodIn_app wI_wsL_law_r21 (goodIn_app wI_wsL_law_r22 (goodIn_app wI_wsL_law_r23 (goodIn_app wI_wsL_law_r24 (goodIn_app wI_wsL_law_r25 (goodIn_app wI_wsL_law_r26 (goodIn_app wI_wsL_law_r27 (goodIn_app wI_wsL_law_r28 (goodIn_app wI_wsL_law_r29 (goodIn_app wI_wsL_law_r30 (goodIn_app wI_wsL_law_r31 (goodIn_app wI_wsL_law_r32 (goodIn_app wI_wsL_law_r33 (goodIn_app wI_wsL_law_r34 (goodIn_app wI_wsL_law_r35 (goodIn_app wI_wsL_law_r36 (goodIn_app wI_wsL_law_r37 (goodIn_app wI_wsL_law_r38 (goodIn_app wI_wsL_law_r39 (goodIn_app wI_wsL_law_r40 (goodIn_app wI_wsL_law_r41 (goodIn_app wI_wsL_law_r42 (goodIn_app wI_wsL_law_r43 (goodIn_app wI_wsL_law_r44 (goodIn_app wI_wsL_law_r45 (goodIn_app wI_wsL_law_r46 (goodIn_app wI_wsL_law_r47 (goodIn_app wI_wsL_law_r48 (goodIn_app wI_wsL_law_r49 (goodIn_app wI_wsL_law_r50 (goodIn_app wI_wsL_law_r51 (goodIn_app wI_wsL_law_r52 (goodIn_app wI_wsL_law_r53 (goodIn_app wI_wsL_law_r54 (goodIn_app wI_wsL_law_r55 (goodIn_app wI_wsL_law_r56 (goodIn_app wI_wsL_law_r57 (goodIn_app wI_wsL_law_r58 (goodIn_app wI_wsL_law_r59 (goodIn_app wI_wsL_law_r60 (goodIn_app wI_wsL_law_r61 (goodIn_app wI_wsL_law_r62 (goodIn_app wI_wsL_law_r63 (goodIn_app wI_wsL_law_r64 (goodIn_app wI_wsL_law_r65 wI_wsL_law_r66))))))))))))))))))))))))))))))))))))))))))))))))))))))))))))))))) wI_wsX110) wI_wsX120) wI_wsX50) wI_wsX40) wI_wsX60) wI_wsX30) wI_wsX100) wI_wsX80) wI_wsX10) wI_wsX20) wI_wsX00) wI_wsX90) wI_wsX70) wI_nil : GoodIn lw_tbl wsL_law) w h).1
theorem inlX0 : ∀ w ∈ wsX00, w ∈ wsL_law := fun _ h => List.mem_append_left _ (List.mem_append_left _ (List.mem_append_left _ (List.mem_append_right _ h)))
theorem inX0 : ∀ w ∈ wsX00, w ∈ lw_tbl := fun w h => wsL_law_in w (inlX0 w h)
theorem inlX1 : ∀ w ∈ wsX10, w ∈ wsL_law := fun _ h => List.mem_append_left _ (List.mem_append_left _ (List.mem_append_left _ (List.mem_append_left _ (List.mem_append_left _ (List.mem_append_right _ h)))))
theorem inX1 : ∀ w ∈ wsX10, w ∈ lw_tbl := fun w h => wsL_law_in w (inlX1 w h)
theorem inlX2 : ∀ w ∈ wsX20, w ∈ wsL_law := fun _ h => List.mem_append_left _ (List.mem_append_left _ (List.mem_append_left _ (List.mem_append_left _ (List.mem_append_right _ h))))
theorem inX2 : ∀ w ∈ wsX20, w ∈ lw_tbl := fun w h => wsL_law_in w (inlX2 w h)
theorem inlX3 : ∀ w ∈ wsX30, w ∈ wsL_law := fun _ h => List.mem_append_left _ (List.mem_append_left _ (List.mem_append_left _ (List.mem_append_left _ (List.mem_append_left _ (List.mem_append_left _ (List.mem_append_left _ (List.mem_append_left _ (List.mem_append_right _ h))))))))
theorem inX3 : ∀ w ∈ wsX30, w ∈ lw_tbl := fun w h => wsL_law_in w (inlX3 w h)
theorem inlX4 : ∀ w ∈ wsX40, w ∈ wsL_law := fun _ h => List.mem_append_left _ (List.mem_append_left _ (List.mem_append_left _ (List.mem_append_left _ (List.mem_append_left _ (List.mem_append_left _ (List.mem_append_left _ (List.mem_append_left _ (List.mem_append_left _ (List.mem_append_left _ (List.mem_append_right _ h))))))))))
theorem inX4 : ∀ w ∈ wsX40, w ∈ lw_tbl := fun w h => wsL_law_in w (inlX4 w h)
theorem inlX5 : ∀ w ∈ wsX50, w ∈ wsL_law := fun _ h => List.mem_append_left _ (List.mem_append_left _ (List.mem_append_left _ (List.mem_append_left _ (List.mem_append_left _ (List.mem_append_left _ (List.mem_append_left _ (List.mem_append_left _ (List.mem_append_left _ (List.mem_append_left _ (List.mem_append_left _ (List.mem_append_right _ h)))))))))))
theorem inX5 : ∀ w ∈ wsX50, w ∈ lw_tbl := fun w h => wsL_law_in w (inlX5 w h)
theorem inlX6 : ∀ w ∈ wsX60, w ∈ wsL_law := fun _ h => List.mem_append_left _ (List.mem_append_left _ (List.mem_append_left _ (List.mem_append_left _ (List.mem_append_left _ (List.mem_append_left _ (List.mem_append_left _ (List.mem_append_left _ (List.mem_append_left _ (List.mem_append_right _ h)))))))))
theorem inX6 : ∀ w ∈ wsX60, w ∈ lw_tbl := fun w h => wsL_law_in w (inlX6 w h)
theorem inlX7 : ∀ w ∈ wsX70, w ∈ wsL_law := fun _ h => List.mem_append_left _ (List.mem_append_right _ h)
theorem inX7 : ∀ w ∈ wsX70, w ∈ lw_tbl := fun w h => wsL_law_in w (inlX7 w h)
theorem inlX8 : ∀ w ∈ wsX80, w ∈ wsL_law := fun _ h => List.mem_append_left _ (List.mem_append_left _ (List.mem_append_left _ (List.mem_append_left _ (List.mem_append_left _ (List.mem_append_left _ (List.mem_append_right _ h))))))
theorem inX8 : ∀ w ∈ wsX80, w ∈ lw_tbl := fun w h => wsL_law_in w (inlX8 w h)
theorem inlX9 : ∀ w ∈ wsX90, w ∈ wsL_law := fun _ h => List.mem_append_left _ (List.mem_append_left _ (List.mem_append_right _ h))
theorem inX9 : ∀ w ∈ wsX90, w ∈ lw_tbl := fun w h => wsL_law_in w (inlX9 w h)
theorem inlX10 : ∀ w ∈ wsX100, w ∈ wsL_law := fun _ h => List.mem_append_left _ (List.mem_append_left _ (List.mem_append_left _ (List.mem_append_left _ (List.mem_append_left _ (List.mem_append_left _ (List.mem_append_left _ (List.mem_append_right _ h)))))))
theorem inX10 : ∀ w ∈ wsX100, w ∈ lw_tbl := fun w h => wsL_law_in w (inlX10 w h)
theorem inlX11 : ∀ w ∈ wsX110, w ∈ wsL_law := fun _ h => List.mem_append_left _ (List.mem_append_left _ (List.mem_append_left _ (List.mem_append_left _ (List.mem_append_left _ (List.mem_append_left _ (List.mem_append_left _ (List.mem_append_left _ (List.mem_append_left _ (List.mem_append_left _ (List.mem_append_left _ (List.mem_append_left _ (List.mem_append_left _ (List.mem_append_right _ h)))))))))))))
theorem inX11 : ∀ w ∈ wsX110, w ∈ lw_tbl := fun w h => wsL_law_in w (inlX11 w h)
theorem inlX12 : ∀ w ∈ wsX120, w ∈ wsL_law := fun _ h => List.mem_append_left _ (List.mem_append_left _ (List.mem_append_left _ (List.mem_append_left _ (List.mem_append_left _ (List.mem_append_left _ (List.mem_append_left _ (List.mem_append_left _ (List.mem_append_left _ (List.mem_append_left _ (List.mem_append_left _ (List.mem_append_left _ (List.mem_append_right _ h))))))))))))
theorem inX12 : ∀ w ∈ wsX120, w ∈ lw_tbl := fun w h => wsL_law_in w (inlX12 w h)
theorem inJ6 : ∀ w ∈ wsJ60, w ∈ lw_tbl := by decide +kernel
theorem inJ9 : ∀ w ∈ wsJ90, w ∈ lw_tbl := by decide +kernel
theorem inJ0 : ∀ w ∈ wsJ00, w ∈ lw_tbl := by decide +kernel
theorem inJ1 : ∀ w ∈ wsJ10, w ∈ lw_tbl := by decide +kernel
theorem inJ2 : ∀ w ∈ wsJ20, w ∈ lw_tbl := by decide +kernel
theorem inJ10 : ∀ w ∈ wsJ100, w ∈ lw_tbl := by decide +kernel
theorem inJ3 : ∀ w ∈ wsJ30, w ∈ lw_tbl := by decide +kernel
