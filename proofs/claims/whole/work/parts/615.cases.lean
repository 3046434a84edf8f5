/-! ===== the cases of the law's loop (2) ===== -/
section R14
variable {p : Program} {l : Launch} {e : Env} {s : State} {m : MethodId} {below : List Frame} {meth : Method} {c : Code} {H : Heap} {locs : List Loc} {cells slots : Nat} {Q : State → Prop}
variable {ls : Array Slot} {E : EV} {a : Nat → Nat → Nat} {b L : Nat} {xs : Nat → Int32}
set_option maxHeartbeats 4000000 in
theorem cs_least {u : HS} {i : Int32} (X : LXm E p l s m meth c b L xs) (hi : ∀ j ∈ ([1, 2, 3, 4, 5, 6] : List Int32), vp_in (i + j) L) (hI : IV u) (hR : Rel E a u H) (hS : va_S (AE E) s.heap H locs) (hl : lv_has ls 8 [(4, .int i), (0, .ref b), (1, .ref (a 8 0)), (2, .ref (a 9 0)), (3, .ref (a 90 0))]) (hcs : cells + 5 ≤ room_1.cells) (hss : slots + 4900 ≤ room_1.slots) (kk : LK E p l e s m below meth c b i cells slots Q) : W p l e room_1 s m #[.ref b] below meth c H locs cells slots Q (F0 m 1845 ls []) := by
  have hx := X.1.1
  have hb := X.1.2.1
  obtain ⟨k, v, u1, r, u2, hc, hr, hgt, hv, hk, hI2⟩ := s_least (ag xs i 1) (ag xs i 2) (ag xs i 3) u hI
  have hc : mX8_least u (ag xs i 1) (ag xs i 2) (ag xs i 3) = some (k, v, u1) := hc
  have hr : mX9_least u1 (ag xs i 1) (ag xs i 2) (ag xs i 3) = some (r, u2) := hr
  refine lv_aload_n hx hb dL_law__1845 rfl (lv_at hl 2 rfl) ?_
  refine l_arg (j := 1) X hS (hi 1 (by decide)) (lv_at hl 1 rfl) (lv_at hl 0 rfl) (by decide) dL_law__1846 dL_law__1847 dL_law__1849 dL_law__1850 dL_law__1851 ?_
  refine l_arg (j := 2) X hS (hi 2 (by decide)) (lv_at hl 1 rfl) (lv_at hl 0 rfl) (by decide) dL_law__1852 dL_law__1853 dL_law__1855 dL_law__1856 dL_law__1857 ?_
  refine l_arg (j := 3) X hS (hi 3 (by decide)) (lv_at hl 1 rfl) (lv_at hl 0 rfl) (by decide) dL_law__1858 dL_law__1859 dL_law__1861 dL_law__1862 dL_law__1863 ?_
  refine lv_aload_n hx hb dL_law__1864 rfl (lv_at hl 4 rfl) ?_
  refine l_callH (As := [.ref (a 8 0), .int (ag xs i 1), .int (ag xs i 2), .int (ag xs i 3), .ref (a 90 0)]) (rest := []) X.1 (vL_least X.2.2.2.2 (out := (k, v, u1)) (z := kmL [3, 1] k) hc (km_31 hk)) hR hS ml_L_219 mh_least rfl ⟨Nat.le_of_ble_eq_true rfl, Nat.le_of_ble_eq_true rfl, by omega, by omega⟩ hl.1 rfl (Nat.le_of_ble_eq_true rfl) dL_law__1865 (fun a1 H locs hAL hR hS h92 => ?_)
  have hl : lv_has ls 8 [(4, .int i), (0, .ref b), (1, .ref (a1 8 0)), (2, .ref (a1 9 0)), (3, .ref (a1 90 0))] := by rw [hAL 8 0 (by decide) (by decide) (by decide) (by decide), hAL 9 0 (by decide) (by decide) (by decide) (by decide), hAL 90 0 (by decide) (by decide) (by decide) (by decide)]; exact hl
  refine lv_istore (lv' := [(5, .int (kmL [3, 1] k)), (4, .int i), (0, .ref b), (1, .ref (a1 8 0)), (2, .ref (a1 9 0)), (3, .ref (a1 90 0))]) hx hb dL_law__1868 hl (by decide) rfl (fun ls hl => ?_)
  refine lv_aload_n hx hb dL_law__1870 rfl (lv_at hl 4 rfl) ?_
  refine l_arg (j := 1) X hS (hi 1 (by decide)) (lv_at hl 2 rfl) (lv_at hl 1 rfl) (by decide) dL_law__1871 dL_law__1872 dL_law__1874 dL_law__1875 dL_law__1876 ?_
  refine l_arg (j := 2) X hS (hi 2 (by decide)) (lv_at hl 2 rfl) (lv_at hl 1 rfl) (by decide) dL_law__1877 dL_law__1878 dL_law__1880 dL_law__1881 dL_law__1882 ?_
  refine l_arg (j := 3) X hS (hi 3 (by decide)) (lv_at hl 2 rfl) (lv_at hl 1 rfl) (by decide) dL_law__1883 dL_law__1884 dL_law__1886 dL_law__1887 dL_law__1888 ?_
  refine r_callV1 (As := [.int (ag xs i 1), .int (ag xs i 2), .int (ag xs i 3)]) (rest := []) (r := 9) (i := 0) X.1 (vX9_least (out := (r, u2)) hr) hR hS (lv0 (by decide) (by decide)) (by decide) ml_L_221 mw_X9_least rfl ⟨Nat.le_of_ble_eq_true rfl, Nat.le_of_ble_eq_true rfl, by omega, by omega⟩ hl.1 rfl (Nat.le_of_ble_eq_true rfl) dL_law__1889 (fun H locs hR hS => ?_)
  refine lv_istore (lv' := [(6, .int r), (5, .int (kmL [3, 1] k)), (4, .int i), (0, .ref b), (1, .ref (a1 8 0)), (2, .ref (a1 9 0)), (3, .ref (a1 90 0))]) hx hb dL_law__1892 hl (by decide) rfl (fun ls hl => ?_)
  refine l_tail (off := 1305) X hR hS ml_L_149 mw_X9_thrown hl hgt (fun h => (congrArg dL (h92 h)).trans ((dL_eL _).trans (congrArg Int32.toInt64 (hv (km0 (by decide) h))))) (by omega) (by omega) (by decide) dL_law__1894 dL_law__1895 dL_law__1898 dL_law__1900 dL_law__1905 dL_law__1907 dL_law__1910 dL_law__1911 dL_law__1912 dL_law__1913 dL_law__1915 dL_law__1916 dL_law__1917 dL_law__1922 (fun H locs hR hS => ?_)
  refine W.widen (k := cells + 5) (n := slots + 4900) (by omega) (by omega) ?_
  exact kk a1 u2 H locs ls hI2 hR hS (lv_sub hl [2, 3, 4, 5, 6] rfl)
set_option maxHeartbeats 4000000 in
theorem cs_answer {u : HS} {i : Int32} (X : LXm E p l s m meth c b L xs) (hi : ∀ j ∈ ([1, 2, 3, 4, 5, 6] : List Int32), vp_in (i + j) L) (hI : IV u) (hR : Rel E a u H) (hS : va_S (AE E) s.heap H locs) (hl : lv_has ls 8 [(4, .int i), (0, .ref b), (1, .ref (a 8 0)), (2, .ref (a 9 0)), (3, .ref (a 90 0))]) (hcs : cells + 5 ≤ room_1.cells) (hss : slots + 4900 ≤ room_1.slots) (kk : LK E p l e s m below meth c b i cells slots Q) : W p l e room_1 s m #[.ref b] below meth c H locs cells slots Q (F0 m 1925 ls []) := by
  have hx := X.1.1
  have hb := X.1.2.1
  obtain ⟨k, v, u1, r, u2, hc, hr, hgt, hv, hk, hI2⟩ := s_answer (ag xs i 1) (ag xs i 2) (bz (ag xs i 3)) u hI
  have hc : mX8_answer u (ag xs i 1) (ag xs i 2) (bz (ag xs i 3)) = some (k, v, u1) := hc
  have hr : mX9_answer u1 (ag xs i 1) (ag xs i 2) (bz (ag xs i 3)) = some (r, u2) := hr
  refine lv_aload_n hx hb dL_law__1925 rfl (lv_at hl 2 rfl) ?_
  refine l_arg (j := 1) X hS (hi 1 (by decide)) (lv_at hl 1 rfl) (lv_at hl 0 rfl) (by decide) dL_law__1926 dL_law__1927 dL_law__1929 dL_law__1930 dL_law__1931 ?_
  refine l_arg (j := 2) X hS (hi 2 (by decide)) (lv_at hl 1 rfl) (lv_at hl 0 rfl) (by decide) dL_law__1932 dL_law__1933 dL_law__1935 dL_law__1936 dL_law__1937 ?_
  refine l_arg (j := 3) X hS (hi 3 (by decide)) (lv_at hl 1 rfl) (lv_at hl 0 rfl) (by decide) dL_law__1938 dL_law__1939 dL_law__1941 dL_law__1942 dL_law__1943 ?_
  refine l_bool hx hb dL_law__1944 dL_law__1947 dL_law__1948 dL_law__1951 ?_
  refine lv_aload_n hx hb dL_law__1952 rfl (lv_at hl 4 rfl) ?_
  refine l_callH (As := [.ref (a 8 0), .int (ag xs i 1), .int (ag xs i 2), .int (bz (ag xs i 3)), .ref (a 90 0)]) (rest := []) X.1 (vL_answer X.2.2.2.2 (out := (k, v, u1)) (z := kmL [1] k) hc (km_1 hk)) hR hS ml_L_222 mh_answer rfl ⟨Nat.le_of_ble_eq_true rfl, Nat.le_of_ble_eq_true rfl, by omega, by omega⟩ hl.1 rfl (Nat.le_of_ble_eq_true rfl) dL_law__1953 (fun a1 H locs hAL hR hS h92 => ?_)
  have hl : lv_has ls 8 [(4, .int i), (0, .ref b), (1, .ref (a1 8 0)), (2, .ref (a1 9 0)), (3, .ref (a1 90 0))] := by rw [hAL 8 0 (by decide) (by decide) (by decide) (by decide), hAL 9 0 (by decide) (by decide) (by decide) (by decide), hAL 90 0 (by decide) (by decide) (by decide) (by decide)]; exact hl
  refine lv_istore (lv' := [(5, .int (kmL [1] k)), (4, .int i), (0, .ref b), (1, .ref (a1 8 0)), (2, .ref (a1 9 0)), (3, .ref (a1 90 0))]) hx hb dL_law__1956 hl (by decide) rfl (fun ls hl => ?_)
  refine lv_aload_n hx hb dL_law__1958 rfl (lv_at hl 4 rfl) ?_
  refine l_arg (j := 1) X hS (hi 1 (by decide)) (lv_at hl 2 rfl) (lv_at hl 1 rfl) (by decide) dL_law__1959 dL_law__1960 dL_law__1962 dL_law__1963 dL_law__1964 ?_
  refine l_arg (j := 2) X hS (hi 2 (by decide)) (lv_at hl 2 rfl) (lv_at hl 1 rfl) (by decide) dL_law__1965 dL_law__1966 dL_law__1968 dL_law__1969 dL_law__1970 ?_
  refine l_arg (j := 3) X hS (hi 3 (by decide)) (lv_at hl 2 rfl) (lv_at hl 1 rfl) (by decide) dL_law__1971 dL_law__1972 dL_law__1974 dL_law__1975 dL_law__1976 ?_
  refine l_bool hx hb dL_law__1977 dL_law__1980 dL_law__1981 dL_law__1984 ?_
  refine r_callV1 (As := [.int (ag xs i 1), .int (ag xs i 2), .int (bz (ag xs i 3))]) (rest := []) (r := 9) (i := 0) X.1 (vX9_answer (out := (r, u2)) hr) hR hS (lv0 (by decide) (by decide)) (by decide) ml_L_224 mw_X9_answer rfl ⟨Nat.le_of_ble_eq_true rfl, Nat.le_of_ble_eq_true rfl, by omega, by omega⟩ hl.1 rfl (Nat.le_of_ble_eq_true rfl) dL_law__1985 (fun H locs hR hS => ?_)
  refine lv_istore (lv' := [(6, .int r), (5, .int (kmL [1] k)), (4, .int i), (0, .ref b), (1, .ref (a1 8 0)), (2, .ref (a1 9 0)), (3, .ref (a1 90 0))]) hx hb dL_law__1988 hl (by decide) rfl (fun ls hl => ?_)
  refine l_tail (off := 1209) X hR hS ml_L_149 mw_X9_thrown hl hgt (fun h => (congrArg dL (h92 h)).trans ((dL_eL _).trans (congrArg Int32.toInt64 (hv (km0 (by decide) h))))) (by omega) (by omega) (by decide) dL_law__1990 dL_law__1991 dL_law__1994 dL_law__1996 dL_law__2001 dL_law__2003 dL_law__2006 dL_law__2007 dL_law__2008 dL_law__2009 dL_law__2011 dL_law__2012 dL_law__2013 dL_law__2018 (fun H locs hR hS => ?_)
  refine W.widen (k := cells + 5) (n := slots + 4900) (by omega) (by omega) ?_
  exact kk a1 u2 H locs ls hI2 hR hS (lv_sub hl [2, 3, 4, 5, 6] rfl)
set_option maxHeartbeats 4000000 in
theorem cs_counted {u : HS} {i : Int32} (X : LXm E p l s m meth c b L xs) (hi : ∀ j ∈ ([1, 2, 3, 4, 5, 6] : List Int32), vp_in (i + j) L) (hI : IV u) (hR : Rel E a u H) (hS : va_S (AE E) s.heap H locs) (hl : lv_has ls 8 [(4, .int i), (0, .ref b), (1, .ref (a 8 0)), (2, .ref (a 9 0)), (3, .ref (a 90 0))]) (hcs : cells + 5 ≤ room_1.cells) (hss : slots + 4900 ≤ room_1.slots) (kk : LK E p l e s m below meth c b i cells slots Q) : W p l e room_1 s m #[.ref b] below meth c H locs cells slots Q (F0 m 2021 ls []) := by
  have hx := X.1.1
  have hb := X.1.2.1
  obtain ⟨k, v, u1, r, u2, hc, hr, hgt, hv, hk, hI2⟩ := s_counted (ag xs i 1) (ag xs i 2) u hI
  have hc : mX8_counted u (ag xs i 1) (ag xs i 2) = some (k, v, u1) := hc
  have hr : mX9_counted u1 (ag xs i 1) (ag xs i 2) = some (r, u2) := hr
  refine lv_aload_n hx hb dL_law__2021 rfl (lv_at hl 2 rfl) ?_
  refine l_arg (j := 1) X hS (hi 1 (by decide)) (lv_at hl 1 rfl) (lv_at hl 0 rfl) (by decide) dL_law__2022 dL_law__2023 dL_law__2025 dL_law__2026 dL_law__2027 ?_
  refine l_arg (j := 2) X hS (hi 2 (by decide)) (lv_at hl 1 rfl) (lv_at hl 0 rfl) (by decide) dL_law__2028 dL_law__2029 dL_law__2031 dL_law__2032 dL_law__2033 ?_
  refine lv_aload_n hx hb dL_law__2034 rfl (lv_at hl 4 rfl) ?_
  refine l_callH (As := [.ref (a 8 0), .int (ag xs i 1), .int (ag xs i 2), .ref (a 90 0)]) (rest := []) X.1 (vL_counted X.2.2.2.2 (out := (k, v, u1)) (z := kmL [1] k) hc (km_1 hk)) hR hS ml_L_225 mh_counted rfl ⟨Nat.le_of_ble_eq_true rfl, Nat.le_of_ble_eq_true rfl, by omega, by omega⟩ hl.1 rfl (Nat.le_of_ble_eq_true rfl) dL_law__2035 (fun a1 H locs hAL hR hS h92 => ?_)
  have hl : lv_has ls 8 [(4, .int i), (0, .ref b), (1, .ref (a1 8 0)), (2, .ref (a1 9 0)), (3, .ref (a1 90 0))] := by rw [hAL 8 0 (by decide) (by decide) (by decide) (by decide), hAL 9 0 (by decide) (by decide) (by decide) (by decide), hAL 90 0 (by decide) (by decide) (by decide) (by decide)]; exact hl
  refine lv_istore (lv' := [(5, .int (kmL [1] k)), (4, .int i), (0, .ref b), (1, .ref (a1 8 0)), (2, .ref (a1 9 0)), (3, .ref (a1 90 0))]) hx hb dL_law__2038 hl (by decide) rfl (fun ls hl => ?_)
  refine lv_aload_n hx hb dL_law__2040 rfl (lv_at hl 4 rfl) ?_
  refine l_arg (j := 1) X hS (hi 1 (by decide)) (lv_at hl 2 rfl) (lv_at hl 1 rfl) (by decide) dL_law__2041 dL_law__2042 dL_law__2044 dL_law__2045 dL_law__2046 ?_
  refine l_arg (j := 2) X hS (hi 2 (by decide)) (lv_at hl 2 rfl) (lv_at hl 1 rfl) (by decide) dL_law__2047 dL_law__2048 dL_law__2050 dL_law__2051 dL_law__2052 ?_
  refine r_callV1 (As := [.int (ag xs i 1), .int (ag xs i 2)]) (rest := []) (r := 9) (i := 0) X.1 (vX9_counted (out := (r, u2)) hr) hR hS (lv0 (by decide) (by decide)) (by decide) ml_L_227 mw_X9_counted rfl ⟨Nat.le_of_ble_eq_true rfl, Nat.le_of_ble_eq_true rfl, by omega, by omega⟩ hl.1 rfl (Nat.le_of_ble_eq_true rfl) dL_law__2053 (fun H locs hR hS => ?_)
  refine lv_istore (lv' := [(6, .int r), (5, .int (kmL [1] k)), (4, .int i), (0, .ref b), (1, .ref (a1 8 0)), (2, .ref (a1 9 0)), (3, .ref (a1 90 0))]) hx hb dL_law__2056 hl (by decide) rfl (fun ls hl => ?_)
  refine l_tail (off := 1141) X hR hS ml_L_149 mw_X9_thrown hl hgt (fun h => (congrArg dL (h92 h)).trans ((dL_eL _).trans (congrArg Int32.toInt64 (hv (km0 (by decide) h))))) (by omega) (by omega) (by decide) dL_law__2058 dL_law__2059 dL_law__2062 dL_law__2064 dL_law__2069 dL_law__2071 dL_law__2074 dL_law__2075 dL_law__2076 dL_law__2077 dL_law__2079 dL_law__2080 dL_law__2081 dL_law__2086 (fun H locs hR hS => ?_)
  refine W.widen (k := cells + 5) (n := slots + 4900) (by omega) (by omega) ?_
  exact kk a1 u2 H locs ls hI2 hR hS (lv_sub hl [2, 3, 4, 5, 6] rfl)
set_option maxHeartbeats 4000000 in
theorem cs_sure {u : HS} {i : Int32} (X : LXm E p l s m meth c b L xs) (hi : ∀ j ∈ ([1, 2, 3, 4, 5, 6] : List Int32), vp_in (i + j) L) (hI : IV u) (hR : Rel E a u H) (hS : va_S (AE E) s.heap H locs) (hl : lv_has ls 8 [(4, .int i), (0, .ref b), (1, .ref (a 8 0)), (2, .ref (a 9 0)), (3, .ref (a 90 0))]) (hcs : cells + 5 ≤ room_1.cells) (hss : slots + 4900 ≤ room_1.slots) (kk : LK E p l e s m below meth c b i cells slots Q) : W p l e room_1 s m #[.ref b] below meth c H locs cells slots Q (F0 m 2089 ls []) := by
  have hx := X.1.1
  have hb := X.1.2.1
  obtain ⟨k, v, u1, r, u2, hc, hr, hgt, hv, hk, hI2⟩ := s_sure (ag xs i 1) (ag xs i 2) u hI
  have hc : mX8_sure u (ag xs i 1) (ag xs i 2) = some (k, v, u1) := hc
  have hr : mX9_sure u1 (ag xs i 1) (ag xs i 2) = some (r, u2) := hr
  refine lv_aload_n hx hb dL_law__2089 rfl (lv_at hl 2 rfl) ?_
  refine l_arg (j := 1) X hS (hi 1 (by decide)) (lv_at hl 1 rfl) (lv_at hl 0 rfl) (by decide) dL_law__2090 dL_law__2091 dL_law__2093 dL_law__2094 dL_law__2095 ?_
  refine l_arg (j := 2) X hS (hi 2 (by decide)) (lv_at hl 1 rfl) (lv_at hl 0 rfl) (by decide) dL_law__2096 dL_law__2097 dL_law__2099 dL_law__2100 dL_law__2101 ?_
  refine lv_aload_n hx hb dL_law__2102 rfl (lv_at hl 4 rfl) ?_
  refine l_callH (As := [.ref (a 8 0), .int (ag xs i 1), .int (ag xs i 2), .ref (a 90 0)]) (rest := []) X.1 (vL_sure X.2.2.2.2 (out := (k, v, u1)) (z := kmL [1] k) hc (km_1 hk)) hR hS ml_L_228 mh_sure rfl ⟨Nat.le_of_ble_eq_true rfl, Nat.le_of_ble_eq_true rfl, by omega, by omega⟩ hl.1 rfl (Nat.le_of_ble_eq_true rfl) dL_law__2103 (fun a1 H locs hAL hR hS h92 => ?_)
  have hl : lv_has ls 8 [(4, .int i), (0, .ref b), (1, .ref (a1 8 0)), (2, .ref (a1 9 0)), (3, .ref (a1 90 0))] := by rw [hAL 8 0 (by decide) (by decide) (by decide) (by decide), hAL 9 0 (by decide) (by decide) (by decide) (by decide), hAL 90 0 (by decide) (by decide) (by decide) (by decide)]; exact hl
  refine lv_istore (lv' := [(5, .int (kmL [1] k)), (4, .int i), (0, .ref b), (1, .ref (a1 8 0)), (2, .ref (a1 9 0)), (3, .ref (a1 90 0))]) hx hb dL_law__2106 hl (by decide) rfl (fun ls hl => ?_)
  refine lv_aload_n hx hb dL_law__2108 rfl (lv_at hl 4 rfl) ?_
  refine l_arg (j := 1) X hS (hi 1 (by decide)) (lv_at hl 2 rfl) (lv_at hl 1 rfl) (by decide) dL_law__2109 dL_law__2110 dL_law__2112 dL_law__2113 dL_law__2114 ?_
  refine l_arg (j := 2) X hS (hi 2 (by decide)) (lv_at hl 2 rfl) (lv_at hl 1 rfl) (by decide) dL_law__2115 dL_law__2116 dL_law__2118 dL_law__2119 dL_law__2120 ?_
  refine r_callV1 (As := [.int (ag xs i 1), .int (ag xs i 2)]) (rest := []) (r := 9) (i := 0) X.1 (vX9_sure (out := (r, u2)) hr) hR hS (lv0 (by decide) (by decide)) (by decide) ml_L_230 mw_X9_sure rfl ⟨Nat.le_of_ble_eq_true rfl, Nat.le_of_ble_eq_true rfl, by omega, by omega⟩ hl.1 rfl (Nat.le_of_ble_eq_true rfl) dL_law__2121 (fun H locs hR hS => ?_)
  refine lv_istore (lv' := [(6, .int r), (5, .int (kmL [1] k)), (4, .int i), (0, .ref b), (1, .ref (a1 8 0)), (2, .ref (a1 9 0)), (3, .ref (a1 90 0))]) hx hb dL_law__2124 hl (by decide) rfl (fun ls hl => ?_)
  refine l_tail (off := 1073) X hR hS ml_L_149 mw_X9_thrown hl hgt (fun h => (congrArg dL (h92 h)).trans ((dL_eL _).trans (congrArg Int32.toInt64 (hv (km0 (by decide) h))))) (by omega) (by omega) (by decide) dL_law__2126 dL_law__2127 dL_law__2130 dL_law__2132 dL_law__2137 dL_law__2139 dL_law__2142 dL_law__2143 dL_law__2144 dL_law__2145 dL_law__2147 dL_law__2148 dL_law__2149 dL_law__2154 (fun H locs hR hS => ?_)
  refine W.widen (k := cells + 5) (n := slots + 4900) (by omega) (by omega) ?_
  exact kk a1 u2 H locs ls hI2 hR hS (lv_sub hl [2, 3, 4, 5, 6] rfl)
set_option maxHeartbeats 4000000 in
theorem cs_share {u : HS} {i : Int32} (X : LXm E p l s m meth c b L xs) (hi : ∀ j ∈ ([1, 2, 3, 4, 5, 6] : List Int32), vp_in (i + j) L) (hI : IV u) (hR : Rel E a u H) (hS : va_S (AE E) s.heap H locs) (hl : lv_has ls 8 [(4, .int i), (0, .ref b), (1, .ref (a 8 0)), (2, .ref (a 9 0)), (3, .ref (a 90 0))]) (hcs : cells + 5 ≤ room_1.cells) (hss : slots + 4900 ≤ room_1.slots) (kk : LK E p l e s m below meth c b i cells slots Q) : W p l e room_1 s m #[.ref b] below meth c H locs cells slots Q (F0 m 2157 ls []) := by
  have hx := X.1.1
  have hb := X.1.2.1
  obtain ⟨k, v, u1, r, u2, hc, hr, hgt, hv, hk, hI2⟩ := s_share (ag xs i 1) (ag xs i 2) (ag xs i 3) (ag xs i 4) u hI
  have hc : mX8_share u (ag xs i 1) (ag xs i 2) (ag xs i 3) (ag xs i 4) = some (k, v, u1) := hc
  have hr : mX9_share u1 (ag xs i 1) (ag xs i 2) (ag xs i 3) (ag xs i 4) = some (r, u2) := hr
  refine lv_aload_n hx hb dL_law__2157 rfl (lv_at hl 2 rfl) ?_
  refine l_arg (j := 1) X hS (hi 1 (by decide)) (lv_at hl 1 rfl) (lv_at hl 0 rfl) (by decide) dL_law__2158 dL_law__2159 dL_law__2161 dL_law__2162 dL_law__2163 ?_
  refine l_arg (j := 2) X hS (hi 2 (by decide)) (lv_at hl 1 rfl) (lv_at hl 0 rfl) (by decide) dL_law__2164 dL_law__2165 dL_law__2167 dL_law__2168 dL_law__2169 ?_
  refine l_arg (j := 3) X hS (hi 3 (by decide)) (lv_at hl 1 rfl) (lv_at hl 0 rfl) (by decide) dL_law__2170 dL_law__2171 dL_law__2173 dL_law__2174 dL_law__2175 ?_
  refine l_arg (j := 4) X hS (hi 4 (by decide)) (lv_at hl 1 rfl) (lv_at hl 0 rfl) (by decide) dL_law__2176 dL_law__2177 dL_law__2179 dL_law__2180 dL_law__2181 ?_
  refine lv_aload_n hx hb dL_law__2182 rfl (lv_at hl 4 rfl) ?_
  refine l_callH (As := [.ref (a 8 0), .int (ag xs i 1), .int (ag xs i 2), .int (ag xs i 3), .int (ag xs i 4), .ref (a 90 0)]) (rest := []) X.1 (vL_share X.2.2.2.2 (out := (k, v, u1)) (z := kmL [2, 3, 1] k) hc (km_231 hk)) hR hS ml_L_231 mh_share rfl ⟨Nat.le_of_ble_eq_true rfl, Nat.le_of_ble_eq_true rfl, by omega, by omega⟩ hl.1 rfl (Nat.le_of_ble_eq_true rfl) dL_law__2183 (fun a1 H locs hAL hR hS h92 => ?_)
  have hl : lv_has ls 8 [(4, .int i), (0, .ref b), (1, .ref (a1 8 0)), (2, .ref (a1 9 0)), (3, .ref (a1 90 0))] := by rw [hAL 8 0 (by decide) (by decide) (by decide) (by decide), hAL 9 0 (by decide) (by decide) (by decide) (by decide), hAL 90 0 (by decide) (by decide) (by decide) (by decide)]; exact hl
  refine lv_istore (lv' := [(5, .int (kmL [2, 3, 1] k)), (4, .int i), (0, .ref b), (1, .ref (a1 8 0)), (2, .ref (a1 9 0)), (3, .ref (a1 90 0))]) hx hb dL_law__2186 hl (by decide) rfl (fun ls hl => ?_)
  refine lv_aload_n hx hb dL_law__2188 rfl (lv_at hl 4 rfl) ?_
  refine l_arg (j := 1) X hS (hi 1 (by decide)) (lv_at hl 2 rfl) (lv_at hl 1 rfl) (by decide) dL_law__2189 dL_law__2190 dL_law__2192 dL_law__2193 dL_law__2194 ?_
  refine l_arg (j := 2) X hS (hi 2 (by decide)) (lv_at hl 2 rfl) (lv_at hl 1 rfl) (by decide) dL_law__2195 dL_law__2196 dL_law__2198 dL_law__2199 dL_law__2200 ?_
  refine l_arg (j := 3) X hS (hi 3 (by decide)) (lv_at hl 2 rfl) (lv_at hl 1 rfl) (by decide) dL_law__2201 dL_law__2202 dL_law__2204 dL_law__2205 dL_law__2206 ?_
  refine l_arg (j := 4) X hS (hi 4 (by decide)) (lv_at hl 2 rfl) (lv_at hl 1 rfl) (by decide) dL_law__2207 dL_law__2208 dL_law__2210 dL_law__2211 dL_law__2212 ?_
  refine r_callV1 (As := [.int (ag xs i 1), .int (ag xs i 2), .int (ag xs i 3), .int (ag xs i 4)]) (rest := []) (r := 9) (i := 0) X.1 (vX9_share (out := (r, u2)) hr) hR hS (lv0 (by decide) (by decide)) (by decide) ml_L_233 mw_X9_share rfl ⟨Nat.le_of_ble_eq_true rfl, Nat.le_of_ble_eq_true rfl, by omega, by omega⟩ hl.1 rfl (Nat.le_of_ble_eq_true rfl) dL_law__2213 (fun H locs hR hS => ?_)
  refine lv_istore (lv' := [(6, .int r), (5, .int (kmL [2, 3, 1] k)), (4, .int i), (0, .ref b), (1, .ref (a1 8 0)), (2, .ref (a1 9 0)), (3, .ref (a1 90 0))]) hx hb dL_law__2216 hl (by decide) rfl (fun ls hl => ?_)
  refine l_tail (off := 981) X hR hS ml_L_149 mw_X9_thrown hl hgt (fun h => (congrArg dL (h92 h)).trans ((dL_eL _).trans (congrArg Int32.toInt64 (hv (km0 (by decide) h))))) (by omega) (by omega) (by decide) dL_law__2218 dL_law__2219 dL_law__2222 dL_law__2224 dL_law__2229 dL_law__2231 dL_law__2234 dL_law__2235 dL_law__2236 dL_law__2237 dL_law__2239 dL_law__2240 dL_law__2241 dL_law__2246 (fun H locs hR hS => ?_)
  refine W.widen (k := cells + 5) (n := slots + 4900) (by omega) (by omega) ?_
  exact kk a1 u2 H locs ls hI2 hR hS (lv_sub hl [2, 3, 4, 5, 6] rfl)
set_option maxHeartbeats 4000000 in
theorem cs_guessed {u : HS} {i : Int32} (X : LXm E p l s m meth c b L xs) (hi : ∀ j ∈ ([1, 2, 3, 4, 5, 6] : List Int32), vp_in (i + j) L) (hI : IV u) (hR : Rel E a u H) (hS : va_S (AE E) s.heap H locs) (hl : lv_has ls 8 [(4, .int i), (0, .ref b), (1, .ref (a 8 0)), (2, .ref (a 9 0)), (3, .ref (a 90 0))]) (hcs : cells + 5 ≤ room_1.cells) (hss : slots + 4900 ≤ room_1.slots) (kk : LK E p l e s m below meth c b i cells slots Q) : W p l e room_1 s m #[.ref b] below meth c H locs cells slots Q (F0 m 2249 ls []) := by
  have hx := X.1.1
  have hb := X.1.2.1
  obtain ⟨k, v, u1, r, u2, hc, hr, hgt, hv, hk, hI2⟩ := s_guessed (ag xs i 1) (ag xs i 2) (ag xs i 3) (ag xs i 4) u hI
  have hc : mX8_guessed u (ag xs i 1) (ag xs i 2) (ag xs i 3) (ag xs i 4) = some (k, v, u1) := hc
  have hr : mX9_guessed u1 (ag xs i 1) (ag xs i 2) (ag xs i 3) (ag xs i 4) = some (r, u2) := hr
  refine lv_aload_n hx hb dL_law__2249 rfl (lv_at hl 2 rfl) ?_
  refine l_arg (j := 1) X hS (hi 1 (by decide)) (lv_at hl 1 rfl) (lv_at hl 0 rfl) (by decide) dL_law__2250 dL_law__2251 dL_law__2253 dL_law__2254 dL_law__2255 ?_
  refine l_arg (j := 2) X hS (hi 2 (by decide)) (lv_at hl 1 rfl) (lv_at hl 0 rfl) (by decide) dL_law__2256 dL_law__2257 dL_law__2259 dL_law__2260 dL_law__2261 ?_
  refine l_arg (j := 3) X hS (hi 3 (by decide)) (lv_at hl 1 rfl) (lv_at hl 0 rfl) (by decide) dL_law__2262 dL_law__2263 dL_law__2265 dL_law__2266 dL_law__2267 ?_
  refine l_arg (j := 4) X hS (hi 4 (by decide)) (lv_at hl 1 rfl) (lv_at hl 0 rfl) (by decide) dL_law__2268 dL_law__2269 dL_law__2271 dL_law__2272 dL_law__2273 ?_
  refine lv_aload_n hx hb dL_law__2274 rfl (lv_at hl 4 rfl) ?_
  refine l_callH (As := [.ref (a 8 0), .int (ag xs i 1), .int (ag xs i 2), .int (ag xs i 3), .int (ag xs i 4), .ref (a 90 0)]) (rest := []) X.1 (vL_guessed X.2.2.2.2 (out := (k, v, u1)) (z := kmL [2, 3, 1] k) hc (km_231 hk)) hR hS ml_L_234 mh_guessed rfl ⟨Nat.le_of_ble_eq_true rfl, Nat.le_of_ble_eq_true rfl, by omega, by omega⟩ hl.1 rfl (Nat.le_of_ble_eq_true rfl) dL_law__2275 (fun a1 H locs hAL hR hS h92 => ?_)
  have hl : lv_has ls 8 [(4, .int i), (0, .ref b), (1, .ref (a1 8 0)), (2, .ref (a1 9 0)), (3, .ref (a1 90 0))] := by rw [hAL 8 0 (by decide) (by decide) (by decide) (by decide), hAL 9 0 (by decide) (by decide) (by decide) (by decide), hAL 90 0 (by decide) (by decide) (by decide) (by decide)]; exact hl
  refine lv_istore (lv' := [(5, .int (kmL [2, 3, 1] k)), (4, .int i), (0, .ref b), (1, .ref (a1 8 0)), (2, .ref (a1 9 0)), (3, .ref (a1 90 0))]) hx hb dL_law__2278 hl (by decide) rfl (fun ls hl => ?_)
  refine lv_aload_n hx hb dL_law__2280 rfl (lv_at hl 4 rfl) ?_
  refine l_arg (j := 1) X hS (hi 1 (by decide)) (lv_at hl 2 rfl) (lv_at hl 1 rfl) (by decide) dL_law__2281 dL_law__2282 dL_law__2284 dL_law__2285 dL_law__2286 ?_
  refine l_arg (j := 2) X hS (hi 2 (by decide)) (lv_at hl 2 rfl) (lv_at hl 1 rfl) (by decide) dL_law__2287 dL_law__2288 dL_law__2290 dL_law__2291 dL_law__2292 ?_
  refine l_arg (j := 3) X hS (hi 3 (by decide)) (lv_at hl 2 rfl) (lv_at hl 1 rfl) (by decide) dL_law__2293 dL_law__2294 dL_law__2296 dL_law__2297 dL_law__2298 ?_
  refine l_arg (j := 4) X hS (hi 4 (by decide)) (lv_at hl 2 rfl) (lv_at hl 1 rfl) (by decide) dL_law__2299 dL_law__2300 dL_law__2302 dL_law__2303 dL_law__2304 ?_
  refine r_callV1 (As := [.int (ag xs i 1), .int (ag xs i 2), .int (ag xs i 3), .int (ag xs i 4)]) (rest := []) (r := 9) (i := 0) X.1 (vX9_guessed (out := (r, u2)) hr) hR hS (lv0 (by decide) (by decide)) (by decide) ml_L_236 mw_X9_guessed rfl ⟨Nat.le_of_ble_eq_true rfl, Nat.le_of_ble_eq_true rfl, by omega, by omega⟩ hl.1 rfl (Nat.le_of_ble_eq_true rfl) dL_law__2305 (fun H locs hR hS => ?_)
  refine lv_istore (lv' := [(6, .int r), (5, .int (kmL [2, 3, 1] k)), (4, .int i), (0, .ref b), (1, .ref (a1 8 0)), (2, .ref (a1 9 0)), (3, .ref (a1 90 0))]) hx hb dL_law__2308 hl (by decide) rfl (fun ls hl => ?_)
  refine l_tail (off := 889) X hR hS ml_L_149 mw_X9_thrown hl hgt (fun h => (congrArg dL (h92 h)).trans ((dL_eL _).trans (congrArg Int32.toInt64 (hv (km0 (by decide) h))))) (by omega) (by omega) (by decide) dL_law__2310 dL_law__2311 dL_law__2314 dL_law__2316 dL_law__2321 dL_law__2323 dL_law__2326 dL_law__2327 dL_law__2328 dL_law__2329 dL_law__2331 dL_law__2332 dL_law__2333 dL_law__2338 (fun H locs hR hS => ?_)
  refine W.widen (k := cells + 5) (n := slots + 4900) (by omega) (by omega) ?_
  exact kk a1 u2 H locs ls hI2 hR hS (lv_sub hl [2, 3, 4, 5, 6] rfl)
set_option maxHeartbeats 4000000 in
theorem cs_apart {u : HS} {i : Int32} (X : LXm E p l s m meth c b L xs) (hi : ∀ j ∈ ([1, 2, 3, 4, 5, 6] : List Int32), vp_in (i + j) L) (hI : IV u) (hR : Rel E a u H) (hS : va_S (AE E) s.heap H locs) (hl : lv_has ls 8 [(4, .int i), (0, .ref b), (1, .ref (a 8 0)), (2, .ref (a 9 0)), (3, .ref (a 90 0))]) (hcs : cells + 5 ≤ room_1.cells) (hss : slots + 4900 ≤ room_1.slots) (kk : LK E p l e s m below meth c b i cells slots Q) : W p l e room_1 s m #[.ref b] below meth c H locs cells slots Q (F0 m 2341 ls []) := by
  have hx := X.1.1
  have hb := X.1.2.1
  obtain ⟨k, v, u1, r, u2, hc, hr, hgt, hv, hk, hI2⟩ := s_apart (ag xs i 1) (ag xs i 2) (ag xs i 3) (ag xs i 4) (ag xs i 5) (ag xs i 6) u hI
  have hc : mX8_apart u (ag xs i 1) (ag xs i 2) (ag xs i 3) (ag xs i 4) (ag xs i 5) (ag xs i 6) = some (k, v, u1) := hc
  have hr : mX9_apart u1 (ag xs i 1) (ag xs i 2) (ag xs i 3) (ag xs i 4) (ag xs i 5) (ag xs i 6) = some (r, u2) := hr
  refine lv_aload_n hx hb dL_law__2341 rfl (lv_at hl 2 rfl) ?_
  refine l_arg (j := 1) X hS (hi 1 (by decide)) (lv_at hl 1 rfl) (lv_at hl 0 rfl) (by decide) dL_law__2342 dL_law__2343 dL_law__2345 dL_law__2346 dL_law__2347 ?_
  refine l_arg (j := 2) X hS (hi 2 (by decide)) (lv_at hl 1 rfl) (lv_at hl 0 rfl) (by decide) dL_law__2348 dL_law__2349 dL_law__2351 dL_law__2352 dL_law__2353 ?_
  refine l_arg (j := 3) X hS (hi 3 (by decide)) (lv_at hl 1 rfl) (lv_at hl 0 rfl) (by decide) dL_law__2354 dL_law__2355 dL_law__2357 dL_law__2358 dL_law__2359 ?_
  refine l_arg (j := 4) X hS (hi 4 (by decide)) (lv_at hl 1 rfl) (lv_at hl 0 rfl) (by decide) dL_law__2360 dL_law__2361 dL_law__2363 dL_law__2364 dL_law__2365 ?_
  refine l_arg (j := 5) X hS (hi 5 (by decide)) (lv_at hl 1 rfl) (lv_at hl 0 rfl) (by decide) dL_law__2366 dL_law__2367 dL_law__2369 dL_law__2370 dL_law__2371 ?_
  refine l_arg6 (j := 6) X hS (hi 6 (by decide)) (lv_at hl 1 rfl) (lv_at hl 0 rfl) (by decide) dL_law__2372 dL_law__2373 dL_law__2375 dL_law__2377 dL_law__2378 ?_
  refine lv_aload_n hx hb dL_law__2379 rfl (lv_at hl 4 rfl) ?_
  refine l_callH (As := [.ref (a 8 0), .int (ag xs i 1), .int (ag xs i 2), .int (ag xs i 3), .int (ag xs i 4), .int (ag xs i 5), .int (ag xs i 6), .ref (a 90 0)]) (rest := []) X.1 (vL_apart X.2.2.2.2 (out := (k, v, u1)) (z := kmL [2, 3, 1] k) hc (km_231 hk)) hR hS ml_L_237 mh_apart rfl ⟨Nat.le_of_ble_eq_true rfl, Nat.le_of_ble_eq_true rfl, by omega, by omega⟩ hl.1 rfl (Nat.le_of_ble_eq_true rfl) dL_law__2380 (fun a1 H locs hAL hR hS h92 => ?_)
  have hl : lv_has ls 8 [(4, .int i), (0, .ref b), (1, .ref (a1 8 0)), (2, .ref (a1 9 0)), (3, .ref (a1 90 0))] := by rw [hAL 8 0 (by decide) (by decide) (by decide) (by decide), hAL 9 0 (by decide) (by decide) (by decide) (by decide), hAL 90 0 (by decide) (by decide) (by decide) (by decide)]; exact hl
  refine lv_istore (lv' := [(5, .int (kmL [2, 3, 1] k)), (4, .int i), (0, .ref b), (1, .ref (a1 8 0)), (2, .ref (a1 9 0)), (3, .ref (a1 90 0))]) hx hb dL_law__2383 hl (by decide) rfl (fun ls hl => ?_)
  refine lv_aload_n hx hb dL_law__2385 rfl (lv_at hl 4 rfl) ?_
  refine l_arg (j := 1) X hS (hi 1 (by decide)) (lv_at hl 2 rfl) (lv_at hl 1 rfl) (by decide) dL_law__2386 dL_law__2387 dL_law__2389 dL_law__2390 dL_law__2391 ?_
  refine l_arg (j := 2) X hS (hi 2 (by decide)) (lv_at hl 2 rfl) (lv_at hl 1 rfl) (by decide) dL_law__2392 dL_law__2393 dL_law__2395 dL_law__2396 dL_law__2397 ?_
  refine l_arg (j := 3) X hS (hi 3 (by decide)) (lv_at hl 2 rfl) (lv_at hl 1 rfl) (by decide) dL_law__2398 dL_law__2399 dL_law__2401 dL_law__2402 dL_law__2403 ?_
  refine l_arg (j := 4) X hS (hi 4 (by decide)) (lv_at hl 2 rfl) (lv_at hl 1 rfl) (by decide) dL_law__2404 dL_law__2405 dL_law__2407 dL_law__2408 dL_law__2409 ?_
  refine l_arg (j := 5) X hS (hi 5 (by decide)) (lv_at hl 2 rfl) (lv_at hl 1 rfl) (by decide) dL_law__2410 dL_law__2411 dL_law__2413 dL_law__2414 dL_law__2415 ?_
  refine l_arg6 (j := 6) X hS (hi 6 (by decide)) (lv_at hl 2 rfl) (lv_at hl 1 rfl) (by decide) dL_law__2416 dL_law__2417 dL_law__2419 dL_law__2421 dL_law__2422 ?_
  refine r_callV1 (As := [.int (ag xs i 1), .int (ag xs i 2), .int (ag xs i 3), .int (ag xs i 4), .int (ag xs i 5), .int (ag xs i 6)]) (rest := []) (r := 9) (i := 0) X.1 (vX9_apart (out := (r, u2)) hr) hR hS (lv0 (by decide) (by decide)) (by decide) ml_L_240 mw_X9_apart rfl ⟨Nat.le_of_ble_eq_true rfl, Nat.le_of_ble_eq_true rfl, by omega, by omega⟩ hl.1 rfl (Nat.le_of_ble_eq_true rfl) dL_law__2423 (fun H locs hR hS => ?_)
  refine lv_istore (lv' := [(6, .int r), (5, .int (kmL [2, 3, 1] k)), (4, .int i), (0, .ref b), (1, .ref (a1 8 0)), (2, .ref (a1 9 0)), (3, .ref (a1 90 0))]) hx hb dL_law__2426 hl (by decide) rfl (fun ls hl => ?_)
  refine l_tail (off := 771) X hR hS ml_L_149 mw_X9_thrown hl hgt (fun h => (congrArg dL (h92 h)).trans ((dL_eL _).trans (congrArg Int32.toInt64 (hv (km0 (by decide) h))))) (by omega) (by omega) (by decide) dL_law__2428 dL_law__2429 dL_law__2432 dL_law__2434 dL_law__2439 dL_law__2441 dL_law__2444 dL_law__2445 dL_law__2446 dL_law__2447 dL_law__2449 dL_law__2450 dL_law__2451 dL_law__2456 (fun H locs hR hS => ?_)
  refine W.widen (k := cells + 5) (n := slots + 4900) (by omega) (by omega) ?_
  exact kk a1 u2 H locs ls hI2 hR hS (lv_sub hl [2, 3, 4, 5, 6] rfl)
set_option maxHeartbeats 4000000 in
theorem cs_gone {u : HS} {i : Int32} (X : LXm E p l s m meth c b L xs) (hi : ∀ j ∈ ([1, 2, 3, 4, 5, 6] : List Int32), vp_in (i + j) L) (hI : IV u) (hR : Rel E a u H) (hS : va_S (AE E) s.heap H locs) (hl : lv_has ls 8 [(4, .int i), (0, .ref b), (1, .ref (a 8 0)), (2, .ref (a 9 0)), (3, .ref (a 90 0))]) (hcs : cells + 5 ≤ room_1.cells) (hss : slots + 4900 ≤ room_1.slots) (kk : LK E p l e s m below meth c b i cells slots Q) : W p l e room_1 s m #[.ref b] below meth c H locs cells slots Q (F0 m 2459 ls []) := by
  have hx := X.1.1
  have hb := X.1.2.1
  obtain ⟨k, v, u1, r, u2, hc, hr, hgt, hv, hk, hI2⟩ := s_gone (ag xs i 1) (ag xs i 2) (ag xs i 3) u hI
  have hc : mX8_gone u (ag xs i 1) (ag xs i 2) (ag xs i 3) = some (k, v, u1) := hc
  have hr : mX9_gone u1 (ag xs i 1) (ag xs i 2) (ag xs i 3) = some (r, u2) := hr
  refine lv_aload_n hx hb dL_law__2459 rfl (lv_at hl 2 rfl) ?_
  refine l_arg (j := 1) X hS (hi 1 (by decide)) (lv_at hl 1 rfl) (lv_at hl 0 rfl) (by decide) dL_law__2460 dL_law__2461 dL_law__2463 dL_law__2464 dL_law__2465 ?_
  refine l_arg (j := 2) X hS (hi 2 (by decide)) (lv_at hl 1 rfl) (lv_at hl 0 rfl) (by decide) dL_law__2466 dL_law__2467 dL_law__2469 dL_law__2470 dL_law__2471 ?_
  refine l_arg (j := 3) X hS (hi 3 (by decide)) (lv_at hl 1 rfl) (lv_at hl 0 rfl) (by decide) dL_law__2472 dL_law__2473 dL_law__2475 dL_law__2476 dL_law__2477 ?_
  refine lv_aload_n hx hb dL_law__2478 rfl (lv_at hl 4 rfl) ?_
  refine l_callH (As := [.ref (a 8 0), .int (ag xs i 1), .int (ag xs i 2), .int (ag xs i 3), .ref (a 90 0)]) (rest := []) X.1 (vL_gone X.2.2.2.2 (out := (k, v, u1)) (z := kmL [2, 3, 1] k) hc (km_231 hk)) hR hS ml_L_241 mh_gone rfl ⟨Nat.le_of_ble_eq_true rfl, Nat.le_of_ble_eq_true rfl, by omega, by omega⟩ hl.1 rfl (Nat.le_of_ble_eq_true rfl) dL_law__2479 (fun a1 H locs hAL hR hS h92 => ?_)
  have hl : lv_has ls 8 [(4, .int i), (0, .ref b), (1, .ref (a1 8 0)), (2, .ref (a1 9 0)), (3, .ref (a1 90 0))] := by rw [hAL 8 0 (by decide) (by decide) (by decide) (by decide), hAL 9 0 (by decide) (by decide) (by decide) (by decide), hAL 90 0 (by decide) (by decide) (by decide) (by decide)]; exact hl
  refine lv_istore (lv' := [(5, .int (kmL [2, 3, 1] k)), (4, .int i), (0, .ref b), (1, .ref (a1 8 0)), (2, .ref (a1 9 0)), (3, .ref (a1 90 0))]) hx hb dL_law__2482 hl (by decide) rfl (fun ls hl => ?_)
  refine lv_aload_n hx hb dL_law__2484 rfl (lv_at hl 4 rfl) ?_
  refine l_arg (j := 1) X hS (hi 1 (by decide)) (lv_at hl 2 rfl) (lv_at hl 1 rfl) (by decide) dL_law__2485 dL_law__2486 dL_law__2488 dL_law__2489 dL_law__2490 ?_
  refine l_arg (j := 2) X hS (hi 2 (by decide)) (lv_at hl 2 rfl) (lv_at hl 1 rfl) (by decide) dL_law__2491 dL_law__2492 dL_law__2494 dL_law__2495 dL_law__2496 ?_
  refine l_arg (j := 3) X hS (hi 3 (by decide)) (lv_at hl 2 rfl) (lv_at hl 1 rfl) (by decide) dL_law__2497 dL_law__2498 dL_law__2500 dL_law__2501 dL_law__2502 ?_
  refine r_callV1 (As := [.int (ag xs i 1), .int (ag xs i 2), .int (ag xs i 3)]) (rest := []) (r := 9) (i := 0) X.1 (vX9_gone (out := (r, u2)) hr) hR hS (lv0 (by decide) (by decide)) (by decide) ml_L_243 mw_X9_gone rfl ⟨Nat.le_of_ble_eq_true rfl, Nat.le_of_ble_eq_true rfl, by omega, by omega⟩ hl.1 rfl (Nat.le_of_ble_eq_true rfl) dL_law__2503 (fun H locs hR hS => ?_)
  refine lv_istore (lv' := [(6, .int r), (5, .int (kmL [2, 3, 1] k)), (4, .int i), (0, .ref b), (1, .ref (a1 8 0)), (2, .ref (a1 9 0)), (3, .ref (a1 90 0))]) hx hb dL_law__2506 hl (by decide) rfl (fun ls hl => ?_)
  refine l_tail (off := 691) X hR hS ml_L_149 mw_X9_thrown hl hgt (fun h => (congrArg dL (h92 h)).trans ((dL_eL _).trans (congrArg Int32.toInt64 (hv (km0 (by decide) h))))) (by omega) (by omega) (by decide) dL_law__2508 dL_law__2509 dL_law__2512 dL_law__2514 dL_law__2519 dL_law__2521 dL_law__2524 dL_law__2525 dL_law__2526 dL_law__2527 dL_law__2529 dL_law__2530 dL_law__2531 dL_law__2536 (fun H locs hR hS => ?_)
  refine W.widen (k := cells + 5) (n := slots + 4900) (by omega) (by omega) ?_
  exact kk a1 u2 H locs ls hI2 hR hS (lv_sub hl [2, 3, 4, 5, 6] rfl)
set_option maxHeartbeats 4000000 in
theorem cs_lost {u : HS} {i : Int32} (X : LXm E p l s m meth c b L xs) (hi : ∀ j ∈ ([1, 2, 3, 4, 5, 6] : List Int32), vp_in (i + j) L) (hI : IV u) (hR : Rel E a u H) (hS : va_S (AE E) s.heap H locs) (hl : lv_has ls 8 [(4, .int i), (0, .ref b), (1, .ref (a 8 0)), (2, .ref (a 9 0)), (3, .ref (a 90 0))]) (hcs : cells + 5 ≤ room_1.cells) (hss : slots + 4900 ≤ room_1.slots) (kk : LK E p l e s m below meth c b i cells slots Q) : W p l e room_1 s m #[.ref b] below meth c H locs cells slots Q (F0 m 2539 ls []) := by
  have hx := X.1.1
  have hb := X.1.2.1
  obtain ⟨k, v, u1, r, u2, hc, hr, hgt, hv, hk, hI2⟩ := s_lost (ag xs i 1) u hI
  have hc : mX8_lost u (ag xs i 1) = some (k, v, u1) := hc
  have hr : mX9_lost u1 (ag xs i 1) = some (r, u2) := hr
  refine lv_aload_n hx hb dL_law__2539 rfl (lv_at hl 2 rfl) ?_
  refine l_arg (j := 1) X hS (hi 1 (by decide)) (lv_at hl 1 rfl) (lv_at hl 0 rfl) (by decide) dL_law__2540 dL_law__2541 dL_law__2543 dL_law__2544 dL_law__2545 ?_
  refine lv_aload_n hx hb dL_law__2546 rfl (lv_at hl 4 rfl) ?_
  refine l_callH (As := [.ref (a 8 0), .int (ag xs i 1), .ref (a 90 0)]) (rest := []) X.1 (vL_lost X.2.2.2.2 (out := (k, v, u1)) (z := kmL [1] k) hc (km_1 hk)) hR hS ml_L_244 mh_lost rfl ⟨Nat.le_of_ble_eq_true rfl, Nat.le_of_ble_eq_true rfl, by omega, by omega⟩ hl.1 rfl (Nat.le_of_ble_eq_true rfl) dL_law__2547 (fun a1 H locs hAL hR hS h92 => ?_)
  have hl : lv_has ls 8 [(4, .int i), (0, .ref b), (1, .ref (a1 8 0)), (2, .ref (a1 9 0)), (3, .ref (a1 90 0))] := by rw [hAL 8 0 (by decide) (by decide) (by decide) (by decide), hAL 9 0 (by decide) (by decide) (by decide) (by decide), hAL 90 0 (by decide) (by decide) (by decide) (by decide)]; exact hl
  refine lv_istore (lv' := [(5, .int (kmL [1] k)), (4, .int i), (0, .ref b), (1, .ref (a1 8 0)), (2, .ref (a1 9 0)), (3, .ref (a1 90 0))]) hx hb dL_law__2550 hl (by decide) rfl (fun ls hl => ?_)
  refine lv_aload_n hx hb dL_law__2552 rfl (lv_at hl 4 rfl) ?_
  refine l_arg (j := 1) X hS (hi 1 (by decide)) (lv_at hl 2 rfl) (lv_at hl 1 rfl) (by decide) dL_law__2553 dL_law__2554 dL_law__2556 dL_law__2557 dL_law__2558 ?_
  refine r_callV1 (As := [.int (ag xs i 1)]) (rest := []) (r := 9) (i := 0) X.1 (vX9_lost (out := (r, u2)) hr) hR hS (lv0 (by decide) (by decide)) (by decide) ml_L_246 mw_X9_lost rfl ⟨Nat.le_of_ble_eq_true rfl, Nat.le_of_ble_eq_true rfl, by omega, by omega⟩ hl.1 rfl (Nat.le_of_ble_eq_true rfl) dL_law__2559 (fun H locs hR hS => ?_)
  refine lv_istore (lv' := [(6, .int r), (5, .int (kmL [1] k)), (4, .int i), (0, .ref b), (1, .ref (a1 8 0)), (2, .ref (a1 9 0)), (3, .ref (a1 90 0))]) hx hb dL_law__2562 hl (by decide) rfl (fun ls hl => ?_)
  refine l_tail (off := 635) X hR hS ml_L_149 mw_X9_thrown hl hgt (fun h => (congrArg dL (h92 h)).trans ((dL_eL _).trans (congrArg Int32.toInt64 (hv (km0 (by decide) h))))) (by omega) (by omega) (by decide) dL_law__2564 dL_law__2565 dL_law__2568 dL_law__2570 dL_law__2575 dL_law__2577 dL_law__2580 dL_law__2581 dL_law__2582 dL_law__2583 dL_law__2585 dL_law__2586 dL_law__2587 dL_law__2592 (fun H locs hR hS => ?_)
  refine W.widen (k := cells + 5) (n := slots + 4900) (by omega) (by omega) ?_
  exact kk a1 u2 H locs ls hI2 hR hS (lv_sub hl [2, 3, 4, 5, 6] rfl)
set_option maxHeartbeats 4000000 in
theorem cs_cost {u : HS} {i : Int32} (X : LXm E p l s m meth c b L xs) (hi : ∀ j ∈ ([1, 2, 3, 4, 5, 6] : List Int32), vp_in (i + j) L) (hI : IV u) (hR : Rel E a u H) (hS : va_S (AE E) s.heap H locs) (hl : lv_has ls 8 [(4, .int i), (0, .ref b), (1, .ref (a 8 0)), (2, .ref (a 9 0)), (3, .ref (a 90 0))]) (hcs : cells + 5 ≤ room_1.cells) (hss : slots + 4900 ≤ room_1.slots) (kk : LK E p l e s m below meth c b i cells slots Q) : W p l e room_1 s m #[.ref b] below meth c H locs cells slots Q (F0 m 2595 ls []) := by
  have hx := X.1.1
  have hb := X.1.2.1
  obtain ⟨k, v, u1, r, u2, hc, hr, hgt, hv, hk, hI2⟩ := s_cost (ag xs i 1) (ag xs i 2) (ag xs i 3) u hI
  have hc : mX8_cost u (ag xs i 1) (ag xs i 2) (ag xs i 3) = some (k, v, u1) := hc
  have hr : mX9_cost u1 (ag xs i 1) (ag xs i 2) (ag xs i 3) = some (r, u2) := hr
  refine lv_aload_n hx hb dL_law__2595 rfl (lv_at hl 2 rfl) ?_
  refine l_arg (j := 1) X hS (hi 1 (by decide)) (lv_at hl 1 rfl) (lv_at hl 0 rfl) (by decide) dL_law__2596 dL_law__2597 dL_law__2599 dL_law__2600 dL_law__2601 ?_
  refine l_arg (j := 2) X hS (hi 2 (by decide)) (lv_at hl 1 rfl) (lv_at hl 0 rfl) (by decide) dL_law__2602 dL_law__2603 dL_law__2605 dL_law__2606 dL_law__2607 ?_
  refine l_arg (j := 3) X hS (hi 3 (by decide)) (lv_at hl 1 rfl) (lv_at hl 0 rfl) (by decide) dL_law__2608 dL_law__2609 dL_law__2611 dL_law__2612 dL_law__2613 ?_
  refine lv_aload_n hx hb dL_law__2614 rfl (lv_at hl 4 rfl) ?_
  refine l_callH (As := [.ref (a 8 0), .int (ag xs i 1), .int (ag xs i 2), .int (ag xs i 3), .ref (a 90 0)]) (rest := []) X.1 (vL_cost X.2.2.2.2 (out := (k, v, u1)) (z := kmL [2, 3] k) hc (km_23 hk)) hR hS ml_L_247 mh_cost rfl ⟨Nat.le_of_ble_eq_true rfl, Nat.le_of_ble_eq_true rfl, by omega, by omega⟩ hl.1 rfl (Nat.le_of_ble_eq_true rfl) dL_law__2615 (fun a1 H locs hAL hR hS h92 => ?_)
  have hl : lv_has ls 8 [(4, .int i), (0, .ref b), (1, .ref (a1 8 0)), (2, .ref (a1 9 0)), (3, .ref (a1 90 0))] := by rw [hAL 8 0 (by decide) (by decide) (by decide) (by decide), hAL 9 0 (by decide) (by decide) (by decide) (by decide), hAL 90 0 (by decide) (by decide) (by decide) (by decide)]; exact hl
  refine lv_istore (lv' := [(5, .int (kmL [2, 3] k)), (4, .int i), (0, .ref b), (1, .ref (a1 8 0)), (2, .ref (a1 9 0)), (3, .ref (a1 90 0))]) hx hb dL_law__2618 hl (by decide) rfl (fun ls hl => ?_)
  refine lv_aload_n hx hb dL_law__2620 rfl (lv_at hl 4 rfl) ?_
  refine l_arg (j := 1) X hS (hi 1 (by decide)) (lv_at hl 2 rfl) (lv_at hl 1 rfl) (by decide) dL_law__2621 dL_law__2622 dL_law__2624 dL_law__2625 dL_law__2626 ?_
  refine l_arg (j := 2) X hS (hi 2 (by decide)) (lv_at hl 2 rfl) (lv_at hl 1 rfl) (by decide) dL_law__2627 dL_law__2628 dL_law__2630 dL_law__2631 dL_law__2632 ?_
  refine l_arg (j := 3) X hS (hi 3 (by decide)) (lv_at hl 2 rfl) (lv_at hl 1 rfl) (by decide) dL_law__2633 dL_law__2634 dL_law__2636 dL_law__2637 dL_law__2638 ?_
  refine r_callV1 (As := [.int (ag xs i 1), .int (ag xs i 2), .int (ag xs i 3)]) (rest := []) (r := 9) (i := 0) X.1 (vX9_cost (out := (r, u2)) hr) hR hS (lv0 (by decide) (by decide)) (by decide) ml_L_249 mw_X9_cost rfl ⟨Nat.le_of_ble_eq_true rfl, Nat.le_of_ble_eq_true rfl, by omega, by omega⟩ hl.1 rfl (Nat.le_of_ble_eq_true rfl) dL_law__2639 (fun H locs hR hS => ?_)
  refine lv_istore (lv' := [(6, .int r), (5, .int (kmL [2, 3] k)), (4, .int i), (0, .ref b), (1, .ref (a1 8 0)), (2, .ref (a1 9 0)), (3, .ref (a1 90 0))]) hx hb dL_law__2642 hl (by decide) rfl (fun ls hl => ?_)
  refine l_tail (off := 555) X hR hS ml_L_149 mw_X9_thrown hl hgt (fun h => (congrArg dL (h92 h)).trans ((dL_eL _).trans (congrArg Int32.toInt64 (hv (km0 (by decide) h))))) (by omega) (by omega) (by decide) dL_law__2644 dL_law__2645 dL_law__2648 dL_law__2650 dL_law__2655 dL_law__2657 dL_law__2660 dL_law__2661 dL_law__2662 dL_law__2663 dL_law__2665 dL_law__2666 dL_law__2667 dL_law__2672 (fun H locs hR hS => ?_)
  refine W.widen (k := cells + 5) (n := slots + 4900) (by omega) (by omega) ?_
  exact kk a1 u2 H locs ls hI2 hR hS (lv_sub hl [2, 3, 4, 5, 6] rfl)
set_option maxHeartbeats 4000000 in
theorem cs_off {u : HS} {i : Int32} (X : LXm E p l s m meth c b L xs) (hi : ∀ j ∈ ([1, 2, 3, 4, 5, 6] : List Int32), vp_in (i + j) L) (hI : IV u) (hR : Rel E a u H) (hS : va_S (AE E) s.heap H locs) (hl : lv_has ls 8 [(4, .int i), (0, .ref b), (1, .ref (a 8 0)), (2, .ref (a 9 0)), (3, .ref (a 90 0))]) (hcs : cells + 5 ≤ room_1.cells) (hss : slots + 4900 ≤ room_1.slots) (kk : LK E p l e s m below meth c b i cells slots Q) : W p l e room_1 s m #[.ref b] below meth c H locs cells slots Q (F0 m 2675 ls []) := by
  have hx := X.1.1
  have hb := X.1.2.1
  obtain ⟨k, v, u1, r, u2, hc, hr, hgt, hv, hk, hI2⟩ := s_off (ag xs i 1) (ag xs i 2) (ag xs i 3) u hI
  have hc : mX8_off u (ag xs i 1) (ag xs i 2) (ag xs i 3) = some (k, v, u1) := hc
  have hr : mX9_off u1 (ag xs i 1) (ag xs i 2) (ag xs i 3) = some (r, u2) := hr
  refine lv_aload_n hx hb dL_law__2675 rfl (lv_at hl 2 rfl) ?_
  refine l_arg (j := 1) X hS (hi 1 (by decide)) (lv_at hl 1 rfl) (lv_at hl 0 rfl) (by decide) dL_law__2676 dL_law__2677 dL_law__2679 dL_law__2680 dL_law__2681 ?_
  refine l_arg (j := 2) X hS (hi 2 (by decide)) (lv_at hl 1 rfl) (lv_at hl 0 rfl) (by decide) dL_law__2682 dL_law__2683 dL_law__2685 dL_law__2686 dL_law__2687 ?_
  refine l_arg (j := 3) X hS (hi 3 (by decide)) (lv_at hl 1 rfl) (lv_at hl 0 rfl) (by decide) dL_law__2688 dL_law__2689 dL_law__2691 dL_law__2692 dL_law__2693 ?_
  refine lv_aload_n hx hb dL_law__2694 rfl (lv_at hl 4 rfl) ?_
  refine l_callH (As := [.ref (a 8 0), .int (ag xs i 1), .int (ag xs i 2), .int (ag xs i 3), .ref (a 90 0)]) (rest := []) X.1 (vL_off X.2.2.2.2 (out := (k, v, u1)) (z := kmL [2, 3, 1] k) hc (km_231 hk)) hR hS ml_L_250 mh_off rfl ⟨Nat.le_of_ble_eq_true rfl, Nat.le_of_ble_eq_true rfl, by omega, by omega⟩ hl.1 rfl (Nat.le_of_ble_eq_true rfl) dL_law__2695 (fun a1 H locs hAL hR hS h92 => ?_)
  have hl : lv_has ls 8 [(4, .int i), (0, .ref b), (1, .ref (a1 8 0)), (2, .ref (a1 9 0)), (3, .ref (a1 90 0))] := by rw [hAL 8 0 (by decide) (by decide) (by decide) (by decide), hAL 9 0 (by decide) (by decide) (by decide) (by decide), hAL 90 0 (by decide) (by decide) (by decide) (by decide)]; exact hl
  refine lv_istore (lv' := [(5, .int (kmL [2, 3, 1] k)), (4, .int i), (0, .ref b), (1, .ref (a1 8 0)), (2, .ref (a1 9 0)), (3, .ref (a1 90 0))]) hx hb dL_law__2698 hl (by decide) rfl (fun ls hl => ?_)
  refine lv_aload_n hx hb dL_law__2700 rfl (lv_at hl 4 rfl) ?_
  refine l_arg (j := 1) X hS (hi 1 (by decide)) (lv_at hl 2 rfl) (lv_at hl 1 rfl) (by decide) dL_law__2701 dL_law__2702 dL_law__2704 dL_law__2705 dL_law__2706 ?_
  refine l_arg (j := 2) X hS (hi 2 (by decide)) (lv_at hl 2 rfl) (lv_at hl 1 rfl) (by decide) dL_law__2707 dL_law__2708 dL_law__2710 dL_law__2711 dL_law__2712 ?_
  refine l_arg (j := 3) X hS (hi 3 (by decide)) (lv_at hl 2 rfl) (lv_at hl 1 rfl) (by decide) dL_law__2713 dL_law__2714 dL_law__2716 dL_law__2717 dL_law__2718 ?_
  refine r_callV1 (As := [.int (ag xs i 1), .int (ag xs i 2), .int (ag xs i 3)]) (rest := []) (r := 9) (i := 0) X.1 (vX9_off (out := (r, u2)) hr) hR hS (lv0 (by decide) (by decide)) (by decide) ml_L_252 mw_X9_off rfl ⟨Nat.le_of_ble_eq_true rfl, Nat.le_of_ble_eq_true rfl, by omega, by omega⟩ hl.1 rfl (Nat.le_of_ble_eq_true rfl) dL_law__2719 (fun H locs hR hS => ?_)
  refine lv_istore (lv' := [(6, .int r), (5, .int (kmL [2, 3, 1] k)), (4, .int i), (0, .ref b), (1, .ref (a1 8 0)), (2, .ref (a1 9 0)), (3, .ref (a1 90 0))]) hx hb dL_law__2722 hl (by decide) rfl (fun ls hl => ?_)
  refine l_tail (off := 475) X hR hS ml_L_149 mw_X9_thrown hl hgt (fun h => (congrArg dL (h92 h)).trans ((dL_eL _).trans (congrArg Int32.toInt64 (hv (km0 (by decide) h))))) (by omega) (by omega) (by decide) dL_law__2724 dL_law__2725 dL_law__2728 dL_law__2730 dL_law__2735 dL_law__2737 dL_law__2740 dL_law__2741 dL_law__2742 dL_law__2743 dL_law__2745 dL_law__2746 dL_law__2747 dL_law__2752 (fun H locs hR hS => ?_)
  refine W.widen (k := cells + 5) (n := slots + 4900) (by omega) (by omega) ?_
  exact kk a1 u2 H locs ls hI2 hR hS (lv_sub hl [2, 3, 4, 5, 6] rfl)
end R14
