/-! THE FUNCTIONS: written by program: each method comes to its function. -/
section Fn39
variable {L : Nat} {xs : Nat → Int32} {d : Nat} {S : mz_S} {R : Nat → Nat → Option Nat} {Q : mz_Q} {N : mz_N} {b : Bool} {t : Nat}
/-! 622 KeptHouseLaw.law ([I)Z -/
theorem ms_622_0 : mz_sf mk_622 0 = mk_622 := mz_sf_zero _
theorem ms_622_28 : mz_sf mk_622 28 = mt_622_28 := mz_sf_add ms_622_0 (t := 28) rfl rfl
theorem ms_622_35 : mz_sf mk_622 35 = mt_622_35 := mz_sf_add ms_622_28 (t := 7) rfl rfl
theorem ms_622_332 : mz_sf mk_622 332 = mt_622_332 := mz_sf_add ms_622_35 (t := 297) rfl rfl
theorem ms_622_357 : mz_sf mk_622 357 = mt_622_357 := mz_sf_add ms_622_332 (t := 25) rfl rfl
theorem ms_622_368 : mz_sf mk_622 368 = mt_622_368 := mz_sf_add ms_622_357 (t := 11) rfl rfl
theorem ms_622_385 : mz_sf mk_622 385 = mt_622_385 := mz_sf_add ms_622_368 (t := 17) rfl rfl
theorem ms_622_388 : mz_sf mk_622 388 = mt_622_388 := mz_sf_add ms_622_385 (t := 3) rfl rfl
theorem ms_622_432 : mz_sf mk_622 432 = mt_622_432 := mz_sf_add ms_622_388 (t := 44) rfl rfl
theorem ms_622_475 : mz_sf mk_622 475 = mt_622_475 := mz_sf_add ms_622_432 (t := 43) rfl rfl
theorem ms_622_486 : mz_sf mk_622 486 = mt_622_486 := mz_sf_add ms_622_475 (t := 11) rfl rfl
theorem ms_622_503 : mz_sf mk_622 503 = mt_622_503 := mz_sf_add ms_622_486 (t := 17) rfl rfl
theorem ms_622_506 : mz_sf mk_622 506 = mt_622_506 := mz_sf_add ms_622_503 (t := 3) rfl rfl
theorem ms_622_531 : mz_sf mk_622 531 = mt_622_531 := mz_sf_add ms_622_506 (t := 25) rfl rfl
theorem ms_622_542 : mz_sf mk_622 542 = mt_622_542 := mz_sf_add ms_622_531 (t := 11) rfl rfl
theorem ms_622_559 : mz_sf mk_622 559 = mt_622_559 := mz_sf_add ms_622_542 (t := 17) rfl rfl
theorem ms_622_562 : mz_sf mk_622 562 = mt_622_562 := mz_sf_add ms_622_559 (t := 3) rfl rfl
theorem ms_622_581 : mz_sf mk_622 581 = mt_622_581 := mz_sf_add ms_622_562 (t := 19) rfl rfl
theorem ms_622_599 : mz_sf mk_622 599 = mt_622_599 := mz_sf_add ms_622_581 (t := 18) rfl rfl
theorem ms_622_610 : mz_sf mk_622 610 = mt_622_610 := mz_sf_add ms_622_599 (t := 11) rfl rfl
theorem ms_622_627 : mz_sf mk_622 627 = mt_622_627 := mz_sf_add ms_622_610 (t := 17) rfl rfl
theorem ms_622_630 : mz_sf mk_622 630 = mt_622_630 := mz_sf_add ms_622_627 (t := 3) rfl rfl
theorem ms_622_656 : mz_sf mk_622 656 = mt_622_656 := mz_sf_add ms_622_630 (t := 26) rfl rfl
theorem ms_622_657 : mz_sf mk_622 657 = mt_622_657 := mz_sf_add ms_622_656 (t := 1) rfl rfl
theorem ms_622_689 : mz_sf mk_622 689 = mt_622_689 := mz_sf_add ms_622_657 (t := 32) rfl rfl
theorem ms_622_690 : mz_sf mk_622 690 = mt_622_690 := mz_sf_add ms_622_689 (t := 1) rfl rfl
theorem ms_622_706 : mz_sf mk_622 706 = mt_622_706 := mz_sf_add ms_622_690 (t := 16) rfl rfl
theorem ms_622_723 : mz_sf mk_622 723 = mt_622_723 := mz_sf_add ms_622_706 (t := 17) rfl rfl
theorem ms_622_726 : mz_sf mk_622 726 = mt_622_726 := mz_sf_add ms_622_723 (t := 3) rfl rfl
theorem ms_622_745 : mz_sf mk_622 745 = mt_622_745 := mz_sf_add ms_622_726 (t := 19) rfl rfl
theorem ms_622_763 : mz_sf mk_622 763 = mt_622_763 := mz_sf_add ms_622_745 (t := 18) rfl rfl
theorem ms_622_774 : mz_sf mk_622 774 = mt_622_774 := mz_sf_add ms_622_763 (t := 11) rfl rfl
theorem ms_622_791 : mz_sf mk_622 791 = mt_622_791 := mz_sf_add ms_622_774 (t := 17) rfl rfl
theorem ms_622_794 : mz_sf mk_622 794 = mt_622_794 := mz_sf_add ms_622_791 (t := 3) rfl rfl
theorem ms_622_819 : mz_sf mk_622 819 = mt_622_819 := mz_sf_add ms_622_794 (t := 25) rfl rfl
theorem ms_622_843 : mz_sf mk_622 843 = mt_622_843 := mz_sf_add ms_622_819 (t := 24) rfl rfl
theorem ms_622_854 : mz_sf mk_622 854 = mt_622_854 := mz_sf_add ms_622_843 (t := 11) rfl rfl
theorem ms_622_871 : mz_sf mk_622 871 = mt_622_871 := mz_sf_add ms_622_854 (t := 17) rfl rfl
theorem ms_622_874 : mz_sf mk_622 874 = mt_622_874 := mz_sf_add ms_622_871 (t := 3) rfl rfl
theorem ms_622_898 : mz_sf mk_622 898 = mt_622_898 := mz_sf_add ms_622_874 (t := 24) rfl rfl
theorem ms_622_915 : mz_sf mk_622 915 = mt_622_915 := mz_sf_add ms_622_898 (t := 17) rfl rfl
theorem ms_622_918 : mz_sf mk_622 918 = mt_622_918 := mz_sf_add ms_622_915 (t := 3) rfl rfl
theorem ms_622_942 : mz_sf mk_622 942 = mt_622_942 := mz_sf_add ms_622_918 (t := 24) rfl rfl
theorem ms_622_959 : mz_sf mk_622 959 = mt_622_959 := mz_sf_add ms_622_942 (t := 17) rfl rfl
theorem ms_622_962 : mz_sf mk_622 962 = mt_622_962 := mz_sf_add ms_622_959 (t := 3) rfl rfl
theorem ms_622_981 : mz_sf mk_622 981 = mt_622_981 := mz_sf_add ms_622_962 (t := 19) rfl rfl
theorem ms_622_999 : mz_sf mk_622 999 = mt_622_999 := mz_sf_add ms_622_981 (t := 18) rfl rfl
theorem ms_622_1010 : mz_sf mk_622 1010 = mt_622_1010 := mz_sf_add ms_622_999 (t := 11) rfl rfl
theorem ms_622_1027 : mz_sf mk_622 1027 = mt_622_1027 := mz_sf_add ms_622_1010 (t := 17) rfl rfl
theorem ms_622_1030 : mz_sf mk_622 1030 = mt_622_1030 := mz_sf_add ms_622_1027 (t := 3) rfl rfl
theorem ms_622_1049 : mz_sf mk_622 1049 = mt_622_1049 := mz_sf_add ms_622_1030 (t := 19) rfl rfl
theorem ms_622_1067 : mz_sf mk_622 1067 = mt_622_1067 := mz_sf_add ms_622_1049 (t := 18) rfl rfl
theorem ms_622_1078 : mz_sf mk_622 1078 = mt_622_1078 := mz_sf_add ms_622_1067 (t := 11) rfl rfl
theorem ms_622_1095 : mz_sf mk_622 1095 = mt_622_1095 := mz_sf_add ms_622_1078 (t := 17) rfl rfl
theorem ms_622_1098 : mz_sf mk_622 1098 = mt_622_1098 := mz_sf_add ms_622_1095 (t := 3) rfl rfl
theorem ms_622_1123 : mz_sf mk_622 1123 = mt_622_1123 := mz_sf_add ms_622_1098 (t := 25) rfl rfl
theorem ms_622_1147 : mz_sf mk_622 1147 = mt_622_1147 := mz_sf_add ms_622_1123 (t := 24) rfl rfl
theorem ms_622_1158 : mz_sf mk_622 1158 = mt_622_1158 := mz_sf_add ms_622_1147 (t := 11) rfl rfl
theorem ms_622_1175 : mz_sf mk_622 1175 = mt_622_1175 := mz_sf_add ms_622_1158 (t := 17) rfl rfl
theorem ms_622_1178 : mz_sf mk_622 1178 = mt_622_1178 := mz_sf_add ms_622_1175 (t := 3) rfl rfl
theorem ms_622_1203 : mz_sf mk_622 1203 = mt_622_1203 := mz_sf_add ms_622_1178 (t := 25) rfl rfl
theorem ms_622_1227 : mz_sf mk_622 1227 = mt_622_1227 := mz_sf_add ms_622_1203 (t := 24) rfl rfl
theorem ms_622_1238 : mz_sf mk_622 1238 = mt_622_1238 := mz_sf_add ms_622_1227 (t := 11) rfl rfl
theorem ms_622_1255 : mz_sf mk_622 1255 = mt_622_1255 := mz_sf_add ms_622_1238 (t := 17) rfl rfl
theorem ms_622_1258 : mz_sf mk_622 1258 = mt_622_1258 := mz_sf_add ms_622_1255 (t := 3) rfl rfl
theorem ms_622_1283 : mz_sf mk_622 1283 = mt_622_1283 := mz_sf_add ms_622_1258 (t := 25) rfl rfl
theorem ms_622_1307 : mz_sf mk_622 1307 = mt_622_1307 := mz_sf_add ms_622_1283 (t := 24) rfl rfl
theorem ms_622_1318 : mz_sf mk_622 1318 = mt_622_1318 := mz_sf_add ms_622_1307 (t := 11) rfl rfl
theorem ms_622_1335 : mz_sf mk_622 1335 = mt_622_1335 := mz_sf_add ms_622_1318 (t := 17) rfl rfl
theorem ms_622_1338 : mz_sf mk_622 1338 = mt_622_1338 := mz_sf_add ms_622_1335 (t := 3) rfl rfl
theorem ms_622_1357 : mz_sf mk_622 1357 = mt_622_1357 := mz_sf_add ms_622_1338 (t := 19) rfl rfl
theorem ms_622_1375 : mz_sf mk_622 1375 = mt_622_1375 := mz_sf_add ms_622_1357 (t := 18) rfl rfl
theorem ms_622_1386 : mz_sf mk_622 1386 = mt_622_1386 := mz_sf_add ms_622_1375 (t := 11) rfl rfl
theorem ms_622_1403 : mz_sf mk_622 1403 = mt_622_1403 := mz_sf_add ms_622_1386 (t := 17) rfl rfl
theorem ms_622_1406 : mz_sf mk_622 1406 = mt_622_1406 := mz_sf_add ms_622_1403 (t := 3) rfl rfl
theorem ms_622_1431 : mz_sf mk_622 1431 = mt_622_1431 := mz_sf_add ms_622_1406 (t := 25) rfl rfl
theorem ms_622_1455 : mz_sf mk_622 1455 = mt_622_1455 := mz_sf_add ms_622_1431 (t := 24) rfl rfl
theorem ms_622_1466 : mz_sf mk_622 1466 = mt_622_1466 := mz_sf_add ms_622_1455 (t := 11) rfl rfl
theorem ms_622_1483 : mz_sf mk_622 1483 = mt_622_1483 := mz_sf_add ms_622_1466 (t := 17) rfl rfl
theorem ms_622_1486 : mz_sf mk_622 1486 = mt_622_1486 := mz_sf_add ms_622_1483 (t := 3) rfl rfl
theorem ms_622_1511 : mz_sf mk_622 1511 = mt_622_1511 := mz_sf_add ms_622_1486 (t := 25) rfl rfl
theorem ms_622_1535 : mz_sf mk_622 1535 = mt_622_1535 := mz_sf_add ms_622_1511 (t := 24) rfl rfl
theorem ms_622_1546 : mz_sf mk_622 1546 = mt_622_1546 := mz_sf_add ms_622_1535 (t := 11) rfl rfl
theorem ms_622_1563 : mz_sf mk_622 1563 = mt_622_1563 := mz_sf_add ms_622_1546 (t := 17) rfl rfl
theorem ms_622_1566 : mz_sf mk_622 1566 = mt_622_1566 := mz_sf_add ms_622_1563 (t := 3) rfl rfl
theorem ms_622_1585 : mz_sf mk_622 1585 = mt_622_1585 := mz_sf_add ms_622_1566 (t := 19) rfl rfl
theorem ms_622_1603 : mz_sf mk_622 1603 = mt_622_1603 := mz_sf_add ms_622_1585 (t := 18) rfl rfl
theorem ms_622_1614 : mz_sf mk_622 1614 = mt_622_1614 := mz_sf_add ms_622_1603 (t := 11) rfl rfl
theorem ms_622_1631 : mz_sf mk_622 1631 = mt_622_1631 := mz_sf_add ms_622_1614 (t := 17) rfl rfl
theorem ms_622_1634 : mz_sf mk_622 1634 = mt_622_1634 := mz_sf_add ms_622_1631 (t := 3) rfl rfl
theorem ms_622_1653 : mz_sf mk_622 1653 = mt_622_1653 := mz_sf_add ms_622_1634 (t := 19) rfl rfl
theorem ms_622_1671 : mz_sf mk_622 1671 = mt_622_1671 := mz_sf_add ms_622_1653 (t := 18) rfl rfl
theorem ms_622_1682 : mz_sf mk_622 1682 = mt_622_1682 := mz_sf_add ms_622_1671 (t := 11) rfl rfl
theorem ms_622_1699 : mz_sf mk_622 1699 = mt_622_1699 := mz_sf_add ms_622_1682 (t := 17) rfl rfl
theorem ms_622_1702 : mz_sf mk_622 1702 = mt_622_1702 := mz_sf_add ms_622_1699 (t := 3) rfl rfl
theorem ms_622_1727 : mz_sf mk_622 1727 = mt_622_1727 := mz_sf_add ms_622_1702 (t := 25) rfl rfl
theorem ms_622_1738 : mz_sf mk_622 1738 = mt_622_1738 := mz_sf_add ms_622_1727 (t := 11) rfl rfl
theorem ms_622_1755 : mz_sf mk_622 1755 = mt_622_1755 := mz_sf_add ms_622_1738 (t := 17) rfl rfl
theorem ms_622_1758 : mz_sf mk_622 1758 = mt_622_1758 := mz_sf_add ms_622_1755 (t := 3) rfl rfl
theorem ms_622_1782 : mz_sf mk_622 1782 = mt_622_1782 := mz_sf_add ms_622_1758 (t := 24) rfl rfl
theorem ms_622_1799 : mz_sf mk_622 1799 = mt_622_1799 := mz_sf_add ms_622_1782 (t := 17) rfl rfl
theorem ms_622_1802 : mz_sf mk_622 1802 = mt_622_1802 := mz_sf_add ms_622_1799 (t := 3) rfl rfl
theorem ms_622_1826 : mz_sf mk_622 1826 = mt_622_1826 := mz_sf_add ms_622_1802 (t := 24) rfl rfl
theorem ms_622_1843 : mz_sf mk_622 1843 = mt_622_1843 := mz_sf_add ms_622_1826 (t := 17) rfl rfl
theorem ms_622_1846 : mz_sf mk_622 1846 = mt_622_1846 := mz_sf_add ms_622_1843 (t := 3) rfl rfl
theorem ms_622_1871 : mz_sf mk_622 1871 = mt_622_1871 := mz_sf_add ms_622_1846 (t := 25) rfl rfl
theorem ms_622_1882 : mz_sf mk_622 1882 = mt_622_1882 := mz_sf_add ms_622_1871 (t := 11) rfl rfl
theorem ms_622_1899 : mz_sf mk_622 1899 = mt_622_1899 := mz_sf_add ms_622_1882 (t := 17) rfl rfl
theorem ms_622_1902 : mz_sf mk_622 1902 = mt_622_1902 := mz_sf_add ms_622_1899 (t := 3) rfl rfl
theorem ms_622_1927 : mz_sf mk_622 1927 = mt_622_1927 := mz_sf_add ms_622_1902 (t := 25) rfl rfl
theorem ms_622_1938 : mz_sf mk_622 1938 = mt_622_1938 := mz_sf_add ms_622_1927 (t := 11) rfl rfl
theorem ms_622_1955 : mz_sf mk_622 1955 = mt_622_1955 := mz_sf_add ms_622_1938 (t := 17) rfl rfl
theorem ms_622_1958 : mz_sf mk_622 1958 = mt_622_1958 := mz_sf_add ms_622_1955 (t := 3) rfl rfl
theorem ms_622_1983 : mz_sf mk_622 1983 = mt_622_1983 := mz_sf_add ms_622_1958 (t := 25) rfl rfl
theorem ms_622_1994 : mz_sf mk_622 1994 = mt_622_1994 := mz_sf_add ms_622_1983 (t := 11) rfl rfl
theorem ms_622_2011 : mz_sf mk_622 2011 = mt_622_2011 := mz_sf_add ms_622_1994 (t := 17) rfl rfl
theorem ms_622_2014 : mz_sf mk_622 2014 = mt_622_2014 := mz_sf_add ms_622_2011 (t := 3) rfl rfl
theorem ms_622_2028 : mz_sf mk_622 2028 = mt_622_2028 := mz_sf_add ms_622_2014 (t := 14) rfl rfl
theorem ms_622_2029 : mz_sf mk_622 2029 = mt_622_2029 := mz_sf_add ms_622_2028 (t := 1) rfl rfl
theorem ms_622_2049 : mz_sf mk_622 2049 = mt_622_2049 := mz_sf_add ms_622_2029 (t := 20) rfl rfl
theorem ms_622_2050 : mz_sf mk_622 2050 = mt_622_2050 := mz_sf_add ms_622_2049 (t := 1) rfl rfl
theorem ms_622_2066 : mz_sf mk_622 2066 = mt_622_2066 := mz_sf_add ms_622_2050 (t := 16) rfl rfl
theorem ms_622_2083 : mz_sf mk_622 2083 = mt_622_2083 := mz_sf_add ms_622_2066 (t := 17) rfl rfl
theorem ms_622_2084 : mz_sf mk_622 2084 = mt_622_2084 := mz_sf_add ms_622_2083 (t := 1) rfl rfl
theorem ms_622_2090 : mz_sf mk_622 2090 = mt_622_2090 := mz_sf_add ms_622_2084 (t := 6) rfl rfl
theorem ms_622_2093 : mz_sf mk_622 2093 = mt_622_2093 := mz_sf_add ms_622_2090 (t := 3) rfl rfl
theorem ms_622_2118 : mz_sf mk_622 2118 = mt_622_2118 := mz_sf_add ms_622_2093 (t := 25) rfl rfl
theorem ms_622_2129 : mz_sf mk_622 2129 = mt_622_2129 := mz_sf_add ms_622_2118 (t := 11) rfl rfl
theorem ms_622_2146 : mz_sf mk_622 2146 = mt_622_2146 := mz_sf_add ms_622_2129 (t := 17) rfl rfl
theorem ms_622_2149 : mz_sf mk_622 2149 = mt_622_2149 := mz_sf_add ms_622_2146 (t := 3) rfl rfl
theorem ms_622_2174 : mz_sf mk_622 2174 = mt_622_2174 := mz_sf_add ms_622_2149 (t := 25) rfl rfl
theorem ms_622_2185 : mz_sf mk_622 2185 = mt_622_2185 := mz_sf_add ms_622_2174 (t := 11) rfl rfl
theorem ms_622_2202 : mz_sf mk_622 2202 = mt_622_2202 := mz_sf_add ms_622_2185 (t := 17) rfl rfl
theorem ms_622_2203 : mz_sf mk_622 2203 = mt_622_2203 := mz_sf_add ms_622_2202 (t := 1) rfl rfl
theorem ms_622_2209 : mz_sf mk_622 2209 = mt_622_2209 := mz_sf_add ms_622_2203 (t := 6) rfl rfl
theorem ms_622_2212 : mz_sf mk_622 2212 = mt_622_2212 := mz_sf_add ms_622_2209 (t := 3) rfl rfl
theorem ms_622_2231 : mz_sf mk_622 2231 = mt_622_2231 := mz_sf_add ms_622_2212 (t := 19) rfl rfl
theorem ms_622_2249 : mz_sf mk_622 2249 = mt_622_2249 := mz_sf_add ms_622_2231 (t := 18) rfl rfl
theorem ms_622_2260 : mz_sf mk_622 2260 = mt_622_2260 := mz_sf_add ms_622_2249 (t := 11) rfl rfl
theorem ms_622_2277 : mz_sf mk_622 2277 = mt_622_2277 := mz_sf_add ms_622_2260 (t := 17) rfl rfl
theorem ms_622_2280 : mz_sf mk_622 2280 = mt_622_2280 := mz_sf_add ms_622_2277 (t := 3) rfl rfl
theorem ms_622_2305 : mz_sf mk_622 2305 = mt_622_2305 := mz_sf_add ms_622_2280 (t := 25) rfl rfl
theorem ms_622_2316 : mz_sf mk_622 2316 = mt_622_2316 := mz_sf_add ms_622_2305 (t := 11) rfl rfl
theorem ms_622_2333 : mz_sf mk_622 2333 = mt_622_2333 := mz_sf_add ms_622_2316 (t := 17) rfl rfl
theorem ms_622_2336 : mz_sf mk_622 2336 = mt_622_2336 := mz_sf_add ms_622_2333 (t := 3) rfl rfl
theorem ms_622_2361 : mz_sf mk_622 2361 = mt_622_2361 := mz_sf_add ms_622_2336 (t := 25) rfl rfl
theorem ms_622_2385 : mz_sf mk_622 2385 = mt_622_2385 := mz_sf_add ms_622_2361 (t := 24) rfl rfl
theorem ms_622_2396 : mz_sf mk_622 2396 = mt_622_2396 := mz_sf_add ms_622_2385 (t := 11) rfl rfl
theorem ms_622_2412 : mz_sf mk_622 2412 = mt_622_2412 := mz_sf_add ms_622_2396 (t := 16) rfl rfl
theorem ms_622_2415 : mz_sf mk_622 2415 = mt_622_2415 := mz_sf_add ms_622_2412 (t := 3) rfl rfl
theorem ms_622_2434 : mz_sf mk_622 2434 = mt_622_2434 := mz_sf_add ms_622_2415 (t := 19) rfl rfl
theorem ms_622_2452 : mz_sf mk_622 2452 = mt_622_2452 := mz_sf_add ms_622_2434 (t := 18) rfl rfl
theorem ms_622_2463 : mz_sf mk_622 2463 = mt_622_2463 := mz_sf_add ms_622_2452 (t := 11) rfl rfl
theorem ms_622_2480 : mz_sf mk_622 2480 = mt_622_2480 := mz_sf_add ms_622_2463 (t := 17) rfl rfl
theorem ms_622_2481 : mz_sf mk_622 2481 = mt_622_2481 := mz_sf_add ms_622_2480 (t := 1) rfl rfl
theorem ms_622_2487 : mz_sf mk_622 2487 = mt_622_2487 := mz_sf_add ms_622_2481 (t := 6) rfl rfl
theorem ms_622_2490 : mz_sf mk_622 2490 = mt_622_2490 := mz_sf_add ms_622_2487 (t := 3) rfl rfl
theorem ms_622_2515 : mz_sf mk_622 2515 = mt_622_2515 := mz_sf_add ms_622_2490 (t := 25) rfl rfl
theorem ms_622_2526 : mz_sf mk_622 2526 = mt_622_2526 := mz_sf_add ms_622_2515 (t := 11) rfl rfl
theorem ms_622_2543 : mz_sf mk_622 2543 = mt_622_2543 := mz_sf_add ms_622_2526 (t := 17) rfl rfl
theorem ms_622_2544 : mz_sf mk_622 2544 = mt_622_2544 := mz_sf_add ms_622_2543 (t := 1) rfl rfl
theorem ms_622_2550 : mz_sf mk_622 2550 = mt_622_2550 := mz_sf_add ms_622_2544 (t := 6) rfl rfl
theorem ms_622_2553 : mz_sf mk_622 2553 = mt_622_2553 := mz_sf_add ms_622_2550 (t := 3) rfl rfl
theorem ms_622_2577 : mz_sf mk_622 2577 = mt_622_2577 := mz_sf_add ms_622_2553 (t := 24) rfl rfl
theorem ms_622_2594 : mz_sf mk_622 2594 = mt_622_2594 := mz_sf_add ms_622_2577 (t := 17) rfl rfl
theorem ms_622_2597 : mz_sf mk_622 2597 = mt_622_2597 := mz_sf_add ms_622_2594 (t := 3) rfl rfl
theorem ms_622_2616 : mz_sf mk_622 2616 = mt_622_2616 := mz_sf_add ms_622_2597 (t := 19) rfl rfl
theorem ms_622_2634 : mz_sf mk_622 2634 = mt_622_2634 := mz_sf_add ms_622_2616 (t := 18) rfl rfl
theorem ms_622_2645 : mz_sf mk_622 2645 = mt_622_2645 := mz_sf_add ms_622_2634 (t := 11) rfl rfl
theorem ms_622_2662 : mz_sf mk_622 2662 = mt_622_2662 := mz_sf_add ms_622_2645 (t := 17) rfl rfl
theorem ms_622_2665 : mz_sf mk_622 2665 = mt_622_2665 := mz_sf_add ms_622_2662 (t := 3) rfl rfl
theorem ms_622_2684 : mz_sf mk_622 2684 = mt_622_2684 := mz_sf_add ms_622_2665 (t := 19) rfl rfl
theorem ms_622_2702 : mz_sf mk_622 2702 = mt_622_2702 := mz_sf_add ms_622_2684 (t := 18) rfl rfl
theorem ms_622_2713 : mz_sf mk_622 2713 = mt_622_2713 := mz_sf_add ms_622_2702 (t := 11) rfl rfl
theorem ms_622_2730 : mz_sf mk_622 2730 = mt_622_2730 := mz_sf_add ms_622_2713 (t := 17) rfl rfl
theorem ms_622_2733 : mz_sf mk_622 2733 = mt_622_2733 := mz_sf_add ms_622_2730 (t := 3) rfl rfl
theorem ms_622_2771 : mz_sf mk_622 2771 = mt_622_2771 := mz_sf_add ms_622_2733 (t := 38) rfl rfl
theorem ms_622_2772 : mz_sf mk_622 2772 = mt_622_2772 := mz_sf_add ms_622_2771 (t := 1) rfl rfl
theorem ms_622_2816 : mz_sf mk_622 2816 = mt_622_2816 := mz_sf_add ms_622_2772 (t := 44) rfl rfl
theorem ms_622_2817 : mz_sf mk_622 2817 = mt_622_2817 := mz_sf_add ms_622_2816 (t := 1) rfl rfl
theorem ms_622_2833 : mz_sf mk_622 2833 = mt_622_2833 := mz_sf_add ms_622_2817 (t := 16) rfl rfl
theorem ms_622_2850 : mz_sf mk_622 2850 = mt_622_2850 := mz_sf_add ms_622_2833 (t := 17) rfl rfl
theorem ms_622_2853 : mz_sf mk_622 2853 = mt_622_2853 := mz_sf_add ms_622_2850 (t := 3) rfl rfl
theorem ms_622_2872 : mz_sf mk_622 2872 = mt_622_2872 := mz_sf_add ms_622_2853 (t := 19) rfl rfl
theorem ms_622_2890 : mz_sf mk_622 2890 = mt_622_2890 := mz_sf_add ms_622_2872 (t := 18) rfl rfl
theorem ms_622_2901 : mz_sf mk_622 2901 = mt_622_2901 := mz_sf_add ms_622_2890 (t := 11) rfl rfl
theorem ms_622_2918 : mz_sf mk_622 2918 = mt_622_2918 := mz_sf_add ms_622_2901 (t := 17) rfl rfl
theorem ms_622_2921 : mz_sf mk_622 2921 = mt_622_2921 := mz_sf_add ms_622_2918 (t := 3) rfl rfl
theorem ms_622_2946 : mz_sf mk_622 2946 = mt_622_2946 := mz_sf_add ms_622_2921 (t := 25) rfl rfl
theorem ms_622_2957 : mz_sf mk_622 2957 = mt_622_2957 := mz_sf_add ms_622_2946 (t := 11) rfl rfl
theorem ms_622_2974 : mz_sf mk_622 2974 = mt_622_2974 := mz_sf_add ms_622_2957 (t := 17) rfl rfl
theorem ms_622_2977 : mz_sf mk_622 2977 = mt_622_2977 := mz_sf_add ms_622_2974 (t := 3) rfl rfl
theorem ms_622_3002 : mz_sf mk_622 3002 = mt_622_3002 := mz_sf_add ms_622_2977 (t := 25) rfl rfl
theorem ms_622_3013 : mz_sf mk_622 3013 = mt_622_3013 := mz_sf_add ms_622_3002 (t := 11) rfl rfl
theorem ms_622_3030 : mz_sf mk_622 3030 = mt_622_3030 := mz_sf_add ms_622_3013 (t := 17) rfl rfl
theorem ms_622_3033 : mz_sf mk_622 3033 = mt_622_3033 := mz_sf_add ms_622_3030 (t := 3) rfl rfl
theorem ms_622_3052 : mz_sf mk_622 3052 = mt_622_3052 := mz_sf_add ms_622_3033 (t := 19) rfl rfl
theorem ms_622_3070 : mz_sf mk_622 3070 = mt_622_3070 := mz_sf_add ms_622_3052 (t := 18) rfl rfl
theorem ms_622_3081 : mz_sf mk_622 3081 = mt_622_3081 := mz_sf_add ms_622_3070 (t := 11) rfl rfl
theorem ms_622_3098 : mz_sf mk_622 3098 = mt_622_3098 := mz_sf_add ms_622_3081 (t := 17) rfl rfl
theorem ms_622_3101 : mz_sf mk_622 3101 = mt_622_3101 := mz_sf_add ms_622_3098 (t := 3) rfl rfl
theorem ms_622_3126 : mz_sf mk_622 3126 = mt_622_3126 := mz_sf_add ms_622_3101 (t := 25) rfl rfl
theorem ms_622_3150 : mz_sf mk_622 3150 = mt_622_3150 := mz_sf_add ms_622_3126 (t := 24) rfl rfl
theorem ms_622_3161 : mz_sf mk_622 3161 = mt_622_3161 := mz_sf_add ms_622_3150 (t := 11) rfl rfl
theorem ms_622_3178 : mz_sf mk_622 3178 = mt_622_3178 := mz_sf_add ms_622_3161 (t := 17) rfl rfl
theorem ms_622_3181 : mz_sf mk_622 3181 = mt_622_3181 := mz_sf_add ms_622_3178 (t := 3) rfl rfl
theorem ms_622_3200 : mz_sf mk_622 3200 = mt_622_3200 := mz_sf_add ms_622_3181 (t := 19) rfl rfl
theorem ms_622_3218 : mz_sf mk_622 3218 = mt_622_3218 := mz_sf_add ms_622_3200 (t := 18) rfl rfl
theorem ms_622_3229 : mz_sf mk_622 3229 = mt_622_3229 := mz_sf_add ms_622_3218 (t := 11) rfl rfl
theorem ms_622_3245 : mz_sf mk_622 3245 = mt_622_3245 := mz_sf_add ms_622_3229 (t := 16) rfl rfl
theorem ms_622_3248 : mz_sf mk_622 3248 = mt_622_3248 := mz_sf_add ms_622_3245 (t := 3) rfl rfl
theorem ms_622_3267 : mz_sf mk_622 3267 = mt_622_3267 := mz_sf_add ms_622_3248 (t := 19) rfl rfl
theorem ms_622_3285 : mz_sf mk_622 3285 = mt_622_3285 := mz_sf_add ms_622_3267 (t := 18) rfl rfl
theorem ms_622_3296 : mz_sf mk_622 3296 = mt_622_3296 := mz_sf_add ms_622_3285 (t := 11) rfl rfl
theorem ms_622_3313 : mz_sf mk_622 3313 = mt_622_3313 := mz_sf_add ms_622_3296 (t := 17) rfl rfl
theorem ms_622_3316 : mz_sf mk_622 3316 = mt_622_3316 := mz_sf_add ms_622_3313 (t := 3) rfl rfl
theorem ms_622_3340 : mz_sf mk_622 3340 = mt_622_3340 := mz_sf_add ms_622_3316 (t := 24) rfl rfl
theorem ms_622_3357 : mz_sf mk_622 3357 = mt_622_3357 := mz_sf_add ms_622_3340 (t := 17) rfl rfl
theorem ms_622_3360 : mz_sf mk_622 3360 = mt_622_3360 := mz_sf_add ms_622_3357 (t := 3) rfl rfl
theorem ms_622_3379 : mz_sf mk_622 3379 = mt_622_3379 := mz_sf_add ms_622_3360 (t := 19) rfl rfl
theorem ms_622_3397 : mz_sf mk_622 3397 = mt_622_3397 := mz_sf_add ms_622_3379 (t := 18) rfl rfl
theorem ms_622_3408 : mz_sf mk_622 3408 = mt_622_3408 := mz_sf_add ms_622_3397 (t := 11) rfl rfl
theorem ms_622_3425 : mz_sf mk_622 3425 = mt_622_3425 := mz_sf_add ms_622_3408 (t := 17) rfl rfl
theorem ms_622_3428 : mz_sf mk_622 3428 = mt_622_3428 := mz_sf_add ms_622_3425 (t := 3) rfl rfl
theorem ms_622_3453 : mz_sf mk_622 3453 = mt_622_3453 := mz_sf_add ms_622_3428 (t := 25) rfl rfl
theorem ms_622_3464 : mz_sf mk_622 3464 = mt_622_3464 := mz_sf_add ms_622_3453 (t := 11) rfl rfl
theorem ms_622_3481 : mz_sf mk_622 3481 = mt_622_3481 := mz_sf_add ms_622_3464 (t := 17) rfl rfl
theorem ms_622_3484 : mz_sf mk_622 3484 = mt_622_3484 := mz_sf_add ms_622_3481 (t := 3) rfl rfl
theorem ms_622_3503 : mz_sf mk_622 3503 = mt_622_3503 := mz_sf_add ms_622_3484 (t := 19) rfl rfl
theorem ms_622_3521 : mz_sf mk_622 3521 = mt_622_3521 := mz_sf_add ms_622_3503 (t := 18) rfl rfl
theorem ms_622_3532 : mz_sf mk_622 3532 = mt_622_3532 := mz_sf_add ms_622_3521 (t := 11) rfl rfl
theorem ms_622_3549 : mz_sf mk_622 3549 = mt_622_3549 := mz_sf_add ms_622_3532 (t := 17) rfl rfl
theorem ms_622_3552 : mz_sf mk_622 3552 = mt_622_3552 := mz_sf_add ms_622_3549 (t := 3) rfl rfl
theorem ms_622_3571 : mz_sf mk_622 3571 = mt_622_3571 := mz_sf_add ms_622_3552 (t := 19) rfl rfl
theorem ms_622_3589 : mz_sf mk_622 3589 = mt_622_3589 := mz_sf_add ms_622_3571 (t := 18) rfl rfl
theorem ms_622_3600 : mz_sf mk_622 3600 = mt_622_3600 := mz_sf_add ms_622_3589 (t := 11) rfl rfl
theorem ms_622_3617 : mz_sf mk_622 3617 = mt_622_3617 := mz_sf_add ms_622_3600 (t := 17) rfl rfl
theorem ms_622_3620 : mz_sf mk_622 3620 = mt_622_3620 := mz_sf_add ms_622_3617 (t := 3) rfl rfl
theorem ms_622_3639 : mz_sf mk_622 3639 = mt_622_3639 := mz_sf_add ms_622_3620 (t := 19) rfl rfl
theorem ms_622_3657 : mz_sf mk_622 3657 = mt_622_3657 := mz_sf_add ms_622_3639 (t := 18) rfl rfl
theorem ms_622_3668 : mz_sf mk_622 3668 = mt_622_3668 := mz_sf_add ms_622_3657 (t := 11) rfl rfl
theorem ms_622_3685 : mz_sf mk_622 3685 = mt_622_3685 := mz_sf_add ms_622_3668 (t := 17) rfl rfl
theorem ms_622_3688 : mz_sf mk_622 3688 = mt_622_3688 := mz_sf_add ms_622_3685 (t := 3) rfl rfl
theorem ms_622_3707 : mz_sf mk_622 3707 = mt_622_3707 := mz_sf_add ms_622_3688 (t := 19) rfl rfl
theorem ms_622_3725 : mz_sf mk_622 3725 = mt_622_3725 := mz_sf_add ms_622_3707 (t := 18) rfl rfl
theorem ms_622_3736 : mz_sf mk_622 3736 = mt_622_3736 := mz_sf_add ms_622_3725 (t := 11) rfl rfl
theorem ms_622_3753 : mz_sf mk_622 3753 = mt_622_3753 := mz_sf_add ms_622_3736 (t := 17) rfl rfl
theorem ms_622_3756 : mz_sf mk_622 3756 = mt_622_3756 := mz_sf_add ms_622_3753 (t := 3) rfl rfl
theorem ms_622_3775 : mz_sf mk_622 3775 = mt_622_3775 := mz_sf_add ms_622_3756 (t := 19) rfl rfl
theorem ms_622_3793 : mz_sf mk_622 3793 = mt_622_3793 := mz_sf_add ms_622_3775 (t := 18) rfl rfl
theorem ms_622_3804 : mz_sf mk_622 3804 = mt_622_3804 := mz_sf_add ms_622_3793 (t := 11) rfl rfl
theorem ms_622_3820 : mz_sf mk_622 3820 = mt_622_3820 := mz_sf_add ms_622_3804 (t := 16) rfl rfl
theorem ms_622_3823 : mz_sf mk_622 3823 = mt_622_3823 := mz_sf_add ms_622_3820 (t := 3) rfl rfl
theorem ms_622_3848 : mz_sf mk_622 3848 = mt_622_3848 := mz_sf_add ms_622_3823 (t := 25) rfl rfl
theorem ms_622_3859 : mz_sf mk_622 3859 = mt_622_3859 := mz_sf_add ms_622_3848 (t := 11) rfl rfl
theorem ms_622_3875 : mz_sf mk_622 3875 = mt_622_3875 := mz_sf_add ms_622_3859 (t := 16) rfl rfl
theorem ms_622_3878 : mz_sf mk_622 3878 = mt_622_3878 := mz_sf_add ms_622_3875 (t := 3) rfl rfl
theorem ms_622_3897 : mz_sf mk_622 3897 = mt_622_3897 := mz_sf_add ms_622_3878 (t := 19) rfl rfl
theorem ms_622_3915 : mz_sf mk_622 3915 = mt_622_3915 := mz_sf_add ms_622_3897 (t := 18) rfl rfl
theorem ms_622_3926 : mz_sf mk_622 3926 = mt_622_3926 := mz_sf_add ms_622_3915 (t := 11) rfl rfl
theorem ms_622_3943 : mz_sf mk_622 3943 = mt_622_3943 := mz_sf_add ms_622_3926 (t := 17) rfl rfl
theorem ms_622_3946 : mz_sf mk_622 3946 = mt_622_3946 := mz_sf_add ms_622_3943 (t := 3) rfl rfl
theorem ms_622_3968 : mz_sf mk_622 3968 = mt_622_3968 := mz_sf_add ms_622_3946 (t := 22) rfl rfl
theorem ms_622_3979 : mz_sf mk_622 3979 = mt_622_3979 := mz_sf_add ms_622_3968 (t := 11) rfl rfl
theorem ms_622_3982 : mz_sf mk_622 3982 = mt_622_3982 := mz_sf_add ms_622_3979 (t := 3) rfl rfl
theorem ms_622_3995 : mz_sf mk_622 3995 = mt_622_3995 := mz_sf_add ms_622_3982 (t := 13) rfl rfl
theorem ms_622_4008 : mz_sf mk_622 4008 = mt_622_4008 := mz_sf_add ms_622_3995 (t := 13) rfl rfl
theorem ms_622_4033 : mz_sf mk_622 4033 = mt_622_4033 := mz_sf_add ms_622_4008 (t := 25) rfl rfl
theorem ms_622_4044 : mz_sf mk_622 4044 = mt_622_4044 := mz_sf_add ms_622_4033 (t := 11) rfl rfl
theorem ms_622_4061 : mz_sf mk_622 4061 = mt_622_4061 := mz_sf_add ms_622_4044 (t := 17) rfl rfl
theorem ms_622_4064 : mz_sf mk_622 4064 = mt_622_4064 := mz_sf_add ms_622_4061 (t := 3) rfl rfl
theorem ms_622_4089 : mz_sf mk_622 4089 = mt_622_4089 := mz_sf_add ms_622_4064 (t := 25) rfl rfl
theorem ms_622_4113 : mz_sf mk_622 4113 = mt_622_4113 := mz_sf_add ms_622_4089 (t := 24) rfl rfl
theorem ms_622_4124 : mz_sf mk_622 4124 = mt_622_4124 := mz_sf_add ms_622_4113 (t := 11) rfl rfl
theorem ms_622_4141 : mz_sf mk_622 4141 = mt_622_4141 := mz_sf_add ms_622_4124 (t := 17) rfl rfl
theorem ms_622_4144 : mz_sf mk_622 4144 = mt_622_4144 := mz_sf_add ms_622_4141 (t := 3) rfl rfl
theorem ms_622_4168 : mz_sf mk_622 4168 = mt_622_4168 := mz_sf_add ms_622_4144 (t := 24) rfl rfl
theorem ms_622_4185 : mz_sf mk_622 4185 = mt_622_4185 := mz_sf_add ms_622_4168 (t := 17) rfl rfl
theorem ms_622_4188 : mz_sf mk_622 4188 = mt_622_4188 := mz_sf_add ms_622_4185 (t := 3) rfl rfl
theorem ms_622_4213 : mz_sf mk_622 4213 = mt_622_4213 := mz_sf_add ms_622_4188 (t := 25) rfl rfl
theorem ms_622_4224 : mz_sf mk_622 4224 = mt_622_4224 := mz_sf_add ms_622_4213 (t := 11) rfl rfl
theorem ms_622_4241 : mz_sf mk_622 4241 = mt_622_4241 := mz_sf_add ms_622_4224 (t := 17) rfl rfl
theorem ms_622_4244 : mz_sf mk_622 4244 = mt_622_4244 := mz_sf_add ms_622_4241 (t := 3) rfl rfl
theorem ms_622_4269 : mz_sf mk_622 4269 = mt_622_4269 := mz_sf_add ms_622_4244 (t := 25) rfl rfl
theorem ms_622_4280 : mz_sf mk_622 4280 = mt_622_4280 := mz_sf_add ms_622_4269 (t := 11) rfl rfl
theorem ms_622_4297 : mz_sf mk_622 4297 = mt_622_4297 := mz_sf_add ms_622_4280 (t := 17) rfl rfl
theorem ms_622_4300 : mz_sf mk_622 4300 = mt_622_4300 := mz_sf_add ms_622_4297 (t := 3) rfl rfl
theorem ms_622_4324 : mz_sf mk_622 4324 = mt_622_4324 := mz_sf_add ms_622_4300 (t := 24) rfl rfl
theorem ms_622_4341 : mz_sf mk_622 4341 = mt_622_4341 := mz_sf_add ms_622_4324 (t := 17) rfl rfl
theorem ms_622_4344 : mz_sf mk_622 4344 = mt_622_4344 := mz_sf_add ms_622_4341 (t := 3) rfl rfl
theorem ms_622_4363 : mz_sf mk_622 4363 = mt_622_4363 := mz_sf_add ms_622_4344 (t := 19) rfl rfl
theorem ms_622_4381 : mz_sf mk_622 4381 = mt_622_4381 := mz_sf_add ms_622_4363 (t := 18) rfl rfl
theorem ms_622_4392 : mz_sf mk_622 4392 = mt_622_4392 := mz_sf_add ms_622_4381 (t := 11) rfl rfl
theorem ms_622_4409 : mz_sf mk_622 4409 = mt_622_4409 := mz_sf_add ms_622_4392 (t := 17) rfl rfl
theorem ms_622_4412 : mz_sf mk_622 4412 = mt_622_4412 := mz_sf_add ms_622_4409 (t := 3) rfl rfl
theorem ms_622_4436 : mz_sf mk_622 4436 = mt_622_4436 := mz_sf_add ms_622_4412 (t := 24) rfl rfl
theorem ms_622_4453 : mz_sf mk_622 4453 = mt_622_4453 := mz_sf_add ms_622_4436 (t := 17) rfl rfl
theorem ms_622_4456 : mz_sf mk_622 4456 = mt_622_4456 := mz_sf_add ms_622_4453 (t := 3) rfl rfl
theorem ms_622_4480 : mz_sf mk_622 4480 = mt_622_4480 := mz_sf_add ms_622_4456 (t := 24) rfl rfl
theorem ms_622_4497 : mz_sf mk_622 4497 = mt_622_4497 := mz_sf_add ms_622_4480 (t := 17) rfl rfl
theorem ms_622_4500 : mz_sf mk_622 4500 = mt_622_4500 := mz_sf_add ms_622_4497 (t := 3) rfl rfl
theorem ms_622_4506 : mz_sf mk_622 4506 = mt_622_4506 := mz_sf_add ms_622_4500 (t := 6) rfl rfl
set_option maxRecDepth 100000 in
theorem mzq_622 : mz_PG0 622 = some (13, ⟨"KeptHouseLaw", "law", "([I)Z"⟩, code, 8, some .boolean, [], mk_622, []) := rfl
theorem cg_622_4500 (hd : 12 ≤ d) (hS : mz_extR S 343) (hR : mz_rok R 343) (L : Nat) (xs : Nat → Int32) (v4 : Int32) (N : mz_N) (b : Bool) (t : Nat) {C0 : (Bool × mz_N × Bool × Nat) → Prop} (hr : ∀ (w : Bool) (N2 : mz_N) (b2 : Bool) (t2 : Nat), C0 (w, N2, b2, t2) → Q (.inl (some (.int (mz_b01 w)))) (mz_k S R N2 b2 t2)) {C1 : ((Int32 × mz_N × Bool × Nat) ⊕ (Bool × mz_N × Bool × Nat)) → Prop} (hc1 : ∀ s2, C1 (.inl s2) → mz_G (d, mz_X0 L xs, some .boolean, [], mk_622, 8, Q) 35 mt_622_35 [(0, .ref 1002), (1, .ref 0), (2, .ref 232), (3, .ref 342), (4, .int s2.1)] [] false (mz_k S R s2.2.1 s2.2.2.1 s2.2.2.2)) (hx1 : ∀ z, C1 (.inr z) → C0 z) (hp : cp_622_4500 L xs v4 N b t) (hC : C1 (cf_622_4500 L xs v4 N b t)) : mz_G (d, mz_X0 L xs, some .boolean, [], mk_622, 8, Q) 4500 mt_622_4500 [(0, .ref 1002), (1, .ref 0), (2, .ref 232), (3, .ref 342), (4, .int v4)] [] false (mz_k S R N b t) := by
  unfold cf_622_4500 at hC
  unfold cp_622_4500 at hp
  refine g_iinc rfl mzi_7 (Nat.le_of_ble_eq_true rfl) rfl (g_goto (tg := 35) rfl ms_622_35 ?_)
  refine g_weak ?_ (g_cl (hc1 ((v4 + 7), N, b, t) hC))
  exact ⟨rfl, rfl, rfl, rfl, rfl, trivial⟩
theorem cg_622_2333 (hd : 12 ≤ d) (hS : mz_extR S 343) (hR : mz_rok R 343) (L : Nat) (xs : Nat → Int32) (v4 : Int32) (N : mz_N) (b : Bool) (t : Nat) {C0 : (Bool × mz_N × Bool × Nat) → Prop} (hr : ∀ (w : Bool) (N2 : mz_N) (b2 : Bool) (t2 : Nat), C0 (w, N2, b2, t2) → Q (.inl (some (.int (mz_b01 w)))) (mz_k S R N2 b2 t2)) {C1 : ((Int32 × mz_N × Bool × Nat) ⊕ (Bool × mz_N × Bool × Nat)) → Prop} (hc1 : ∀ s2, C1 (.inl s2) → mz_G (d, mz_X0 L xs, some .boolean, [], mk_622, 8, Q) 35 mt_622_35 [(0, .ref 1002), (1, .ref 0), (2, .ref 232), (3, .ref 342), (4, .int s2.1)] [] false (mz_k S R s2.2.1 s2.2.2.1 s2.2.2.2)) (hx1 : ∀ z, C1 (.inr z) → C0 z) (hp : cp_622_2333 L xs v4 N b t) (hC : C1 (cf_622_2333 L xs v4 N b t)) : mz_G (d, mz_X0 L xs, some .boolean, [], mk_622, 8, Q) 2333 mt_622_2333 [(0, .ref 1002), (1, .ref 0), (2, .ref 232), (3, .ref 342), (4, .int v4)] [] false (mz_k S R N b t) := by
  unfold cf_622_2333 at hC
  unfold cp_622_2333 at hp
  refine g_goto (tg := 4500) rfl ms_622_4500 ?_
  refine g_weak ?_ (g_cl (cg_622_4500 hd hS hR L xs v4 N b t hr hc1 hx1 hp hC))
  exact ⟨rfl, rfl, rfl, rfl, rfl, trivial⟩
theorem cg_622_2305 (hd : 12 ≤ d) (hS : mz_extR S 343) (hR : mz_rok R 343) (L : Nat) (xs : Nat → Int32) (v4 : Int32) (v5 : Int32) (v6 : Int32) (N : mz_N) (b : Bool) (t : Nat) {C0 : (Bool × mz_N × Bool × Nat) → Prop} (hr : ∀ (w : Bool) (N2 : mz_N) (b2 : Bool) (t2 : Nat), C0 (w, N2, b2, t2) → Q (.inl (some (.int (mz_b01 w)))) (mz_k S R N2 b2 t2)) {C1 : ((Int32 × mz_N × Bool × Nat) ⊕ (Bool × mz_N × Bool × Nat)) → Prop} (hc1 : ∀ s2, C1 (.inl s2) → mz_G (d, mz_X0 L xs, some .boolean, [], mk_622, 8, Q) 35 mt_622_35 [(0, .ref 1002), (1, .ref 0), (2, .ref 232), (3, .ref 342), (4, .int s2.1)] [] false (mz_k S R s2.2.1 s2.2.2.1 s2.2.2.2)) (hx1 : ∀ z, C1 (.inr z) → C0 z) (hp : cp_622_2305 L xs v4 v5 v6 N b t) (hC : C1 (cf_622_2305 L xs v4 v5 v6 N b t)) : mz_G (d, mz_X0 L xs, some .boolean, [], mk_622, 8, Q) 2305 mt_622_2305 [(0, .ref 1002), (1, .ref 0), (2, .ref 232), (3, .ref 342), (4, .int v4), (5, .int v5), (6, .int v6)] [] false (mz_k S R N b t) := by
  unfold cf_622_2305 at hC
  unfold cp_622_2305 at hp
  refine g_aload_n rfl ?_
  refine g_v1v (Nat.le_of_ble_eq_true rfl) (mz_at hS (Nat.le_of_ble_eq_true rfl) mzcS_232) (fun _ hq => cs_459 (Nat.le_trans (Nat.le_of_ble_eq_true rfl) hd) (hS.le (Nat.le_of_ble_eq_true rfl)) (hR.le (Nat.le_of_ble_eq_true rfl))  N trivial hq) (g_iload rfl ?_)
  refine g_iceq (tg := 2316) rfl ms_622_2316 hC (fun h2 hC => ?_) (fun h2 hC => ?_)
  · have hp := hp.1 h2
    refine g_iload rfl ?_
    refine g_ifne (tg := 2333) rfl ms_622_2333 hC (fun h3 hC => ?_) (fun h3 hC => ?_)
    · have hp := hp.1 h3
      refine g_aload_n rfl (g_iconst mzi_0 (g_lald (mz_at hS (Nat.le_of_ble_eq_true rfl) mzcS_342) (mz_ibd (by decide)) (g_iload rfl (g_i2l (g_lcmp ?_)))))
      refine g_leq (tg := 2333) rfl ms_622_2333 hC (fun h4 hC => ?_) (fun h4 hC => ?_)
      · have hp := hp.1 h4
        refine g_weak ?_ (g_cl (cg_622_2333 hd hS hR L xs v4 N b t hr hc1 hx1 hp hC))
        exact ⟨rfl, rfl, rfl, rfl, rfl, trivial⟩
      · have hp := hp.2 h4
        refine g_iconst mzi_0 ?_
        exact g_zret (z := false) rfl (hr _ _ _ _ (hx1 _ hC))
    · have hp := hp.2 h3
      refine g_weak ?_ (g_cl (cg_622_2333 hd hS hR L xs v4 N b t hr hc1 hx1 hp hC))
      exact ⟨rfl, rfl, rfl, rfl, rfl, trivial⟩
  · have hp := hp.2 h2
    refine g_iconst mzi_0 ?_
    exact g_zret (z := false) rfl (hr _ _ _ _ (hx1 _ hC))
theorem cg_622_1335 (hd : 12 ≤ d) (hS : mz_extR S 343) (hR : mz_rok R 343) (L : Nat) (xs : Nat → Int32) (v4 : Int32) (N : mz_N) (b : Bool) (t : Nat) {C0 : (Bool × mz_N × Bool × Nat) → Prop} (hr : ∀ (w : Bool) (N2 : mz_N) (b2 : Bool) (t2 : Nat), C0 (w, N2, b2, t2) → Q (.inl (some (.int (mz_b01 w)))) (mz_k S R N2 b2 t2)) {C1 : ((Int32 × mz_N × Bool × Nat) ⊕ (Bool × mz_N × Bool × Nat)) → Prop} (hc1 : ∀ s2, C1 (.inl s2) → mz_G (d, mz_X0 L xs, some .boolean, [], mk_622, 8, Q) 35 mt_622_35 [(0, .ref 1002), (1, .ref 0), (2, .ref 232), (3, .ref 342), (4, .int s2.1)] [] false (mz_k S R s2.2.1 s2.2.2.1 s2.2.2.2)) (hx1 : ∀ z, C1 (.inr z) → C0 z) (hp : cp_622_1335 L xs v4 N b t) (hC : C1 (cf_622_1335 L xs v4 N b t)) : mz_G (d, mz_X0 L xs, some .boolean, [], mk_622, 8, Q) 1335 mt_622_1335 [(0, .ref 1002), (1, .ref 0), (2, .ref 232), (3, .ref 342), (4, .int v4)] [] false (mz_k S R N b t) := by
  unfold cf_622_1335 at hC
  unfold cp_622_1335 at hp
  refine g_goto (tg := 4500) rfl ms_622_4500 ?_
  refine g_weak ?_ (g_cl (cg_622_4500 hd hS hR L xs v4 N b t hr hc1 hx1 hp hC))
  exact ⟨rfl, rfl, rfl, rfl, rfl, trivial⟩
theorem cg_622_1307 (hd : 12 ≤ d) (hS : mz_extR S 343) (hR : mz_rok R 343) (L : Nat) (xs : Nat → Int32) (v4 : Int32) (v5 : Int32) (v6 : Int32) (N : mz_N) (b : Bool) (t : Nat) {C0 : (Bool × mz_N × Bool × Nat) → Prop} (hr : ∀ (w : Bool) (N2 : mz_N) (b2 : Bool) (t2 : Nat), C0 (w, N2, b2, t2) → Q (.inl (some (.int (mz_b01 w)))) (mz_k S R N2 b2 t2)) {C1 : ((Int32 × mz_N × Bool × Nat) ⊕ (Bool × mz_N × Bool × Nat)) → Prop} (hc1 : ∀ s2, C1 (.inl s2) → mz_G (d, mz_X0 L xs, some .boolean, [], mk_622, 8, Q) 35 mt_622_35 [(0, .ref 1002), (1, .ref 0), (2, .ref 232), (3, .ref 342), (4, .int s2.1)] [] false (mz_k S R s2.2.1 s2.2.2.1 s2.2.2.2)) (hx1 : ∀ z, C1 (.inr z) → C0 z) (hp : cp_622_1307 L xs v4 v5 v6 N b t) (hC : C1 (cf_622_1307 L xs v4 v5 v6 N b t)) : mz_G (d, mz_X0 L xs, some .boolean, [], mk_622, 8, Q) 1307 mt_622_1307 [(0, .ref 1002), (1, .ref 0), (2, .ref 232), (3, .ref 342), (4, .int v4), (5, .int v5), (6, .int v6)] [] false (mz_k S R N b t) := by
  unfold cf_622_1307 at hC
  unfold cp_622_1307 at hp
  refine g_aload_n rfl ?_
  refine g_v1v (Nat.le_of_ble_eq_true rfl) (mz_at hS (Nat.le_of_ble_eq_true rfl) mzcS_232) (fun _ hq => cs_459 (Nat.le_trans (Nat.le_of_ble_eq_true rfl) hd) (hS.le (Nat.le_of_ble_eq_true rfl)) (hR.le (Nat.le_of_ble_eq_true rfl))  N trivial hq) (g_iload rfl ?_)
  refine g_iceq (tg := 1318) rfl ms_622_1318 hC (fun h2 hC => ?_) (fun h2 hC => ?_)
  · have hp := hp.1 h2
    refine g_iload rfl ?_
    refine g_ifne (tg := 1335) rfl ms_622_1335 hC (fun h3 hC => ?_) (fun h3 hC => ?_)
    · have hp := hp.1 h3
      refine g_aload_n rfl (g_iconst mzi_0 (g_lald (mz_at hS (Nat.le_of_ble_eq_true rfl) mzcS_342) (mz_ibd (by decide)) (g_iload rfl (g_i2l (g_lcmp ?_)))))
      refine g_leq (tg := 1335) rfl ms_622_1335 hC (fun h4 hC => ?_) (fun h4 hC => ?_)
      · have hp := hp.1 h4
        refine g_weak ?_ (g_cl (cg_622_1335 hd hS hR L xs v4 N b t hr hc1 hx1 hp hC))
        exact ⟨rfl, rfl, rfl, rfl, rfl, trivial⟩
      · have hp := hp.2 h4
        refine g_iconst mzi_0 ?_
        exact g_zret (z := false) rfl (hr _ _ _ _ (hx1 _ hC))
    · have hp := hp.2 h3
      refine g_weak ?_ (g_cl (cg_622_1335 hd hS hR L xs v4 N b t hr hc1 hx1 hp hC))
      exact ⟨rfl, rfl, rfl, rfl, rfl, trivial⟩
  · have hp := hp.2 h2
    refine g_iconst mzi_0 ?_
    exact g_zret (z := false) rfl (hr _ _ _ _ (hx1 _ hC))
theorem cg_622_1283 (hd : 12 ≤ d) (hS : mz_extR S 343) (hR : mz_rok R 343) (L : Nat) (xs : Nat → Int32) (v4 : Int32) (v5 : Int32) (N : mz_N) (b : Bool) (t : Nat) {C0 : (Bool × mz_N × Bool × Nat) → Prop} (hr : ∀ (w : Bool) (N2 : mz_N) (b2 : Bool) (t2 : Nat), C0 (w, N2, b2, t2) → Q (.inl (some (.int (mz_b01 w)))) (mz_k S R N2 b2 t2)) {C1 : ((Int32 × mz_N × Bool × Nat) ⊕ (Bool × mz_N × Bool × Nat)) → Prop} (hc1 : ∀ s2, C1 (.inl s2) → mz_G (d, mz_X0 L xs, some .boolean, [], mk_622, 8, Q) 35 mt_622_35 [(0, .ref 1002), (1, .ref 0), (2, .ref 232), (3, .ref 342), (4, .int s2.1)] [] false (mz_k S R s2.2.1 s2.2.2.1 s2.2.2.2)) (hx1 : ∀ z, C1 (.inr z) → C0 z) (hp : cp_622_1283 L xs v4 v5 N b t) (hC : C1 (cf_622_1283 L xs v4 v5 N b t)) : mz_G (d, mz_X0 L xs, some .boolean, [], mk_622, 8, Q) 1283 mt_622_1283 [(0, .ref 1002), (1, .ref 0), (2, .ref 232), (3, .ref 342), (4, .int v4), (5, .int v5)] [] false (mz_k S R N b t) := by
  unfold cf_622_1283 at hC
  unfold cp_622_1283 at hp
  refine g_aload_n rfl (g_aload_n rfl (g_iload rfl (g_iconst mzi_1 (g_iadd ?_))))
  obtain ⟨h1, hp⟩ := hp
  refine g_iald1002 h1 (g_aload_n rfl (g_iload rfl (g_iconst mzi_2 (g_iadd ?_))))
  obtain ⟨h2, hp⟩ := hp
  refine g_iald1002 h2 (g_aload_n rfl (g_iload rfl (g_iconst mzi_3 (g_iadd ?_))))
  obtain ⟨h3, hp⟩ := hp
  refine g_iald1002 h3 ?_
  obtain ⟨h4, hp⟩ := hp
  refine g_v4v (Nat.le_of_ble_eq_true rfl) (mz_at hS (Nat.le_of_ble_eq_true rfl) mzcS_232) (fun _ hq => cs_495 (Nat.le_trans (Nat.le_of_ble_eq_true rfl) hd) (hS.le (Nat.le_of_ble_eq_true rfl)) (hR.le (Nat.le_of_ble_eq_true rfl))  (xs (v4 + 1).toNatClampNeg) (xs (v4 + 2).toNatClampNeg) (xs (v4 + 3).toNatClampNeg) N h4 hq) (g_istore (Nat.le_of_ble_eq_true rfl) rfl ?_)
  refine g_weak ?_ (g_cl (cg_622_1307 hd hS hR L xs v4 v5 ((cf_495_0 (xs (v4 + 1).toNatClampNeg) (xs (v4 + 2).toNatClampNeg) (xs (v4 + 3).toNatClampNeg) N).1) ((cf_495_0 (xs (v4 + 1).toNatClampNeg) (xs (v4 + 2).toNatClampNeg) (xs (v4 + 3).toNatClampNeg) N).2) b t hr hc1 hx1 hp hC))
  exact ⟨rfl, rfl, rfl, rfl, rfl, rfl, rfl, trivial⟩
theorem cg_622_1799 (hd : 12 ≤ d) (hS : mz_extR S 343) (hR : mz_rok R 343) (L : Nat) (xs : Nat → Int32) (v4 : Int32) (N : mz_N) (b : Bool) (t : Nat) {C0 : (Bool × mz_N × Bool × Nat) → Prop} (hr : ∀ (w : Bool) (N2 : mz_N) (b2 : Bool) (t2 : Nat), C0 (w, N2, b2, t2) → Q (.inl (some (.int (mz_b01 w)))) (mz_k S R N2 b2 t2)) {C1 : ((Int32 × mz_N × Bool × Nat) ⊕ (Bool × mz_N × Bool × Nat)) → Prop} (hc1 : ∀ s2, C1 (.inl s2) → mz_G (d, mz_X0 L xs, some .boolean, [], mk_622, 8, Q) 35 mt_622_35 [(0, .ref 1002), (1, .ref 0), (2, .ref 232), (3, .ref 342), (4, .int s2.1)] [] false (mz_k S R s2.2.1 s2.2.2.1 s2.2.2.2)) (hx1 : ∀ z, C1 (.inr z) → C0 z) (hp : cp_622_1799 L xs v4 N b t) (hC : C1 (cf_622_1799 L xs v4 N b t)) : mz_G (d, mz_X0 L xs, some .boolean, [], mk_622, 8, Q) 1799 mt_622_1799 [(0, .ref 1002), (1, .ref 0), (2, .ref 232), (3, .ref 342), (4, .int v4)] [] false (mz_k S R N b t) := by
  unfold cf_622_1799 at hC
  unfold cp_622_1799 at hp
  refine g_goto (tg := 4500) rfl ms_622_4500 ?_
  refine g_weak ?_ (g_cl (cg_622_4500 hd hS hR L xs v4 N b t hr hc1 hx1 hp hC))
  exact ⟨rfl, rfl, rfl, rfl, rfl, trivial⟩
theorem cg_622_3875 (hd : 12 ≤ d) (hS : mz_extR S 343) (hR : mz_rok R 343) (L : Nat) (xs : Nat → Int32) (v4 : Int32) (N : mz_N) (b : Bool) (t : Nat) {C0 : (Bool × mz_N × Bool × Nat) → Prop} (hr : ∀ (w : Bool) (N2 : mz_N) (b2 : Bool) (t2 : Nat), C0 (w, N2, b2, t2) → Q (.inl (some (.int (mz_b01 w)))) (mz_k S R N2 b2 t2)) {C1 : ((Int32 × mz_N × Bool × Nat) ⊕ (Bool × mz_N × Bool × Nat)) → Prop} (hc1 : ∀ s2, C1 (.inl s2) → mz_G (d, mz_X0 L xs, some .boolean, [], mk_622, 8, Q) 35 mt_622_35 [(0, .ref 1002), (1, .ref 0), (2, .ref 232), (3, .ref 342), (4, .int s2.1)] [] false (mz_k S R s2.2.1 s2.2.2.1 s2.2.2.2)) (hx1 : ∀ z, C1 (.inr z) → C0 z) (hp : cp_622_3875 L xs v4 N b t) (hC : C1 (cf_622_3875 L xs v4 N b t)) : mz_G (d, mz_X0 L xs, some .boolean, [], mk_622, 8, Q) 3875 mt_622_3875 [(0, .ref 1002), (1, .ref 0), (2, .ref 232), (3, .ref 342), (4, .int v4)] [] false (mz_k S R N b t) := by
  unfold cf_622_3875 at hC
  unfold cp_622_3875 at hp
  refine g_goto (tg := 4500) rfl ms_622_4500 ?_
  refine g_weak ?_ (g_cl (cg_622_4500 hd hS hR L xs v4 N b t hr hc1 hx1 hp hC))
  exact ⟨rfl, rfl, rfl, rfl, rfl, trivial⟩
theorem cg_622_3848 (hd : 12 ≤ d) (hS : mz_extR S 343) (hR : mz_rok R 343) (L : Nat) (xs : Nat → Int32) (v4 : Int32) (v5 : Int32) (v6 : Int64) (N : mz_N) (b : Bool) (t : Nat) {C0 : (Bool × mz_N × Bool × Nat) → Prop} (hr : ∀ (w : Bool) (N2 : mz_N) (b2 : Bool) (t2 : Nat), C0 (w, N2, b2, t2) → Q (.inl (some (.int (mz_b01 w)))) (mz_k S R N2 b2 t2)) {C1 : ((Int32 × mz_N × Bool × Nat) ⊕ (Bool × mz_N × Bool × Nat)) → Prop} (hc1 : ∀ s2, C1 (.inl s2) → mz_G (d, mz_X0 L xs, some .boolean, [], mk_622, 8, Q) 35 mt_622_35 [(0, .ref 1002), (1, .ref 0), (2, .ref 232), (3, .ref 342), (4, .int s2.1)] [] false (mz_k S R s2.2.1 s2.2.2.1 s2.2.2.2)) (hx1 : ∀ z, C1 (.inr z) → C0 z) (hp : cp_622_3848 L xs v4 v5 v6 N b t) (hC : C1 (cf_622_3848 L xs v4 v5 v6 N b t)) : mz_G (d, mz_X0 L xs, some .boolean, [], mk_622, 8, Q) 3848 mt_622_3848 [(0, .ref 1002), (1, .ref 0), (2, .ref 232), (3, .ref 342), (4, .int v4), (5, .int v5), (6, .long v6)] [] false (mz_k S R N b t) := by
  unfold cf_622_3848 at hC
  unfold cp_622_3848 at hp
  refine g_aload_n rfl ?_
  refine g_v1v (Nat.le_of_ble_eq_true rfl) (mz_at hS (Nat.le_of_ble_eq_true rfl) mzcS_232) (fun _ hq => cs_459 (Nat.le_trans (Nat.le_of_ble_eq_true rfl) hd) (hS.le (Nat.le_of_ble_eq_true rfl)) (hR.le (Nat.le_of_ble_eq_true rfl))  N trivial hq) (g_iload rfl ?_)
  refine g_iceq (tg := 3859) rfl ms_622_3859 hC (fun h2 hC => ?_) (fun h2 hC => ?_)
  · have hp := hp.1 h2
    refine g_iload rfl ?_
    refine g_ifne (tg := 3875) rfl ms_622_3875 hC (fun h3 hC => ?_) (fun h3 hC => ?_)
    · have hp := hp.1 h3
      refine g_aload_n rfl (g_iconst mzi_0 (g_lald (mz_at hS (Nat.le_of_ble_eq_true rfl) mzcS_342) (mz_ibd (by decide)) (g_lload rfl (g_lcmp ?_))))
      refine g_leq (tg := 3875) rfl ms_622_3875 hC (fun h4 hC => ?_) (fun h4 hC => ?_)
      · have hp := hp.1 h4
        refine g_weak ?_ (g_cl (cg_622_3875 hd hS hR L xs v4 N b t hr hc1 hx1 hp hC))
        exact ⟨rfl, rfl, rfl, rfl, rfl, trivial⟩
      · have hp := hp.2 h4
        refine g_iconst mzi_0 ?_
        exact g_zret (z := false) rfl (hr _ _ _ _ (hx1 _ hC))
    · have hp := hp.2 h3
      refine g_weak ?_ (g_cl (cg_622_3875 hd hS hR L xs v4 N b t hr hc1 hx1 hp hC))
      exact ⟨rfl, rfl, rfl, rfl, rfl, trivial⟩
  · have hp := hp.2 h2
    refine g_iconst mzi_0 ?_
    exact g_zret (z := false) rfl (hr _ _ _ _ (hx1 _ hC))
theorem cg_622_4409 (hd : 12 ≤ d) (hS : mz_extR S 343) (hR : mz_rok R 343) (L : Nat) (xs : Nat → Int32) (v4 : Int32) (N : mz_N) (b : Bool) (t : Nat) {C0 : (Bool × mz_N × Bool × Nat) → Prop} (hr : ∀ (w : Bool) (N2 : mz_N) (b2 : Bool) (t2 : Nat), C0 (w, N2, b2, t2) → Q (.inl (some (.int (mz_b01 w)))) (mz_k S R N2 b2 t2)) {C1 : ((Int32 × mz_N × Bool × Nat) ⊕ (Bool × mz_N × Bool × Nat)) → Prop} (hc1 : ∀ s2, C1 (.inl s2) → mz_G (d, mz_X0 L xs, some .boolean, [], mk_622, 8, Q) 35 mt_622_35 [(0, .ref 1002), (1, .ref 0), (2, .ref 232), (3, .ref 342), (4, .int s2.1)] [] false (mz_k S R s2.2.1 s2.2.2.1 s2.2.2.2)) (hx1 : ∀ z, C1 (.inr z) → C0 z) (hp : cp_622_4409 L xs v4 N b t) (hC : C1 (cf_622_4409 L xs v4 N b t)) : mz_G (d, mz_X0 L xs, some .boolean, [], mk_622, 8, Q) 4409 mt_622_4409 [(0, .ref 1002), (1, .ref 0), (2, .ref 232), (3, .ref 342), (4, .int v4)] [] false (mz_k S R N b t) := by
  unfold cf_622_4409 at hC
  unfold cp_622_4409 at hp
  refine g_goto (tg := 4500) rfl ms_622_4500 ?_
  refine g_weak ?_ (g_cl (cg_622_4500 hd hS hR L xs v4 N b t hr hc1 hx1 hp hC))
  exact ⟨rfl, rfl, rfl, rfl, rfl, trivial⟩
theorem cg_622_4363 (hd : 12 ≤ d) (hS : mz_extR S 343) (hR : mz_rok R 343) (L : Nat) (xs : Nat → Int32) (v4 : Int32) (v5 : Int32) (N : mz_N) (b : Bool) (t : Nat) {C0 : (Bool × mz_N × Bool × Nat) → Prop} (hr : ∀ (w : Bool) (N2 : mz_N) (b2 : Bool) (t2 : Nat), C0 (w, N2, b2, t2) → Q (.inl (some (.int (mz_b01 w)))) (mz_k S R N2 b2 t2)) {C1 : ((Int32 × mz_N × Bool × Nat) ⊕ (Bool × mz_N × Bool × Nat)) → Prop} (hc1 : ∀ s2, C1 (.inl s2) → mz_G (d, mz_X0 L xs, some .boolean, [], mk_622, 8, Q) 35 mt_622_35 [(0, .ref 1002), (1, .ref 0), (2, .ref 232), (3, .ref 342), (4, .int s2.1)] [] false (mz_k S R s2.2.1 s2.2.2.1 s2.2.2.2)) (hx1 : ∀ z, C1 (.inr z) → C0 z) (hp : cp_622_4363 L xs v4 v5 N b t) (hC : C1 (cf_622_4363 L xs v4 v5 N b t)) : mz_G (d, mz_X0 L xs, some .boolean, [], mk_622, 8, Q) 4363 mt_622_4363 [(0, .ref 1002), (1, .ref 0), (2, .ref 232), (3, .ref 342), (4, .int v4), (5, .int v5)] [] false (mz_k S R N b t) := by
  unfold cf_622_4363 at hC
  unfold cp_622_4363 at hp
  refine g_aload_n rfl (g_aload_n rfl (g_iload rfl (g_iconst mzi_1 (g_iadd ?_))))
  obtain ⟨h1, hp⟩ := hp
  refine g_iald1002 h1 (g_aload_n rfl (g_iload rfl (g_iconst mzi_2 (g_iadd ?_))))
  obtain ⟨h2, hp⟩ := hp
  refine g_iald1002 h2 ?_
  obtain ⟨h3, hp⟩ := hp
  refine g_v3v (Nat.le_of_ble_eq_true rfl) (mz_at hS (Nat.le_of_ble_eq_true rfl) mzcS_232) (fun _ hq => cs_605 (Nat.le_trans (Nat.le_of_ble_eq_true rfl) hd) (hS.le (Nat.le_of_ble_eq_true rfl)) (hR.le (Nat.le_of_ble_eq_true rfl))  (xs (v4 + 1).toNatClampNeg) (xs (v4 + 2).toNatClampNeg) N h3 hq) (g_istore (Nat.le_of_ble_eq_true rfl) rfl (g_aload_n rfl ?_))
  refine g_v1v (Nat.le_of_ble_eq_true rfl) (mz_at hS (Nat.le_of_ble_eq_true rfl) mzcS_232) (fun _ hq => cs_459 (Nat.le_trans (Nat.le_of_ble_eq_true rfl) hd) (hS.le (Nat.le_of_ble_eq_true rfl)) (hR.le (Nat.le_of_ble_eq_true rfl))  ((cf_605_0 (xs (v4 + 1).toNatClampNeg) (xs (v4 + 2).toNatClampNeg) N).2) trivial hq) (g_iload rfl ?_)
  refine g_iceq (tg := 4392) rfl ms_622_4392 hC (fun h5 hC => ?_) (fun h5 hC => ?_)
  · have hp := hp.1 h5
    refine g_iload rfl ?_
    refine g_ifne (tg := 4409) rfl ms_622_4409 hC (fun h6 hC => ?_) (fun h6 hC => ?_)
    · have hp := hp.1 h6
      refine g_aload_n rfl (g_iconst mzi_0 (g_lald (mz_at hS (Nat.le_of_ble_eq_true rfl) mzcS_342) (mz_ibd (by decide)) (g_iload rfl (g_i2l (g_lcmp ?_)))))
      refine g_leq (tg := 4409) rfl ms_622_4409 hC (fun h7 hC => ?_) (fun h7 hC => ?_)
      · have hp := hp.1 h7
        refine g_weak ?_ (g_cl (cg_622_4409 hd hS hR L xs v4 ((cf_605_0 (xs (v4 + 1).toNatClampNeg) (xs (v4 + 2).toNatClampNeg) N).2) b t hr hc1 hx1 hp hC))
        exact ⟨rfl, rfl, rfl, rfl, rfl, trivial⟩
      · have hp := hp.2 h7
        refine g_iconst mzi_0 ?_
        exact g_zret (z := false) rfl (hr _ _ _ _ (hx1 _ hC))
    · have hp := hp.2 h6
      refine g_weak ?_ (g_cl (cg_622_4409 hd hS hR L xs v4 ((cf_605_0 (xs (v4 + 1).toNatClampNeg) (xs (v4 + 2).toNatClampNeg) N).2) b t hr hc1 hx1 hp hC))
      exact ⟨rfl, rfl, rfl, rfl, rfl, trivial⟩
  · have hp := hp.2 h5
    refine g_iconst mzi_0 ?_
    exact g_zret (z := false) rfl (hr _ _ _ _ (hx1 _ hC))
theorem cg_622_559 (hd : 12 ≤ d) (hS : mz_extR S 343) (hR : mz_rok R 343) (L : Nat) (xs : Nat → Int32) (v4 : Int32) (N : mz_N) (b : Bool) (t : Nat) {C0 : (Bool × mz_N × Bool × Nat) → Prop} (hr : ∀ (w : Bool) (N2 : mz_N) (b2 : Bool) (t2 : Nat), C0 (w, N2, b2, t2) → Q (.inl (some (.int (mz_b01 w)))) (mz_k S R N2 b2 t2)) {C1 : ((Int32 × mz_N × Bool × Nat) ⊕ (Bool × mz_N × Bool × Nat)) → Prop} (hc1 : ∀ s2, C1 (.inl s2) → mz_G (d, mz_X0 L xs, some .boolean, [], mk_622, 8, Q) 35 mt_622_35 [(0, .ref 1002), (1, .ref 0), (2, .ref 232), (3, .ref 342), (4, .int s2.1)] [] false (mz_k S R s2.2.1 s2.2.2.1 s2.2.2.2)) (hx1 : ∀ z, C1 (.inr z) → C0 z) (hp : cp_622_559 L xs v4 N b t) (hC : C1 (cf_622_559 L xs v4 N b t)) : mz_G (d, mz_X0 L xs, some .boolean, [], mk_622, 8, Q) 559 mt_622_559 [(0, .ref 1002), (1, .ref 0), (2, .ref 232), (3, .ref 342), (4, .int v4)] [] false (mz_k S R N b t) := by
  unfold cf_622_559 at hC
  unfold cp_622_559 at hp
  refine g_goto (tg := 4500) rfl ms_622_4500 ?_
  refine g_weak ?_ (g_cl (cg_622_4500 hd hS hR L xs v4 N b t hr hc1 hx1 hp hC))
  exact ⟨rfl, rfl, rfl, rfl, rfl, trivial⟩
theorem cg_622_531 (hd : 12 ≤ d) (hS : mz_extR S 343) (hR : mz_rok R 343) (L : Nat) (xs : Nat → Int32) (v4 : Int32) (v5 : Int32) (v6 : Int32) (N : mz_N) (b : Bool) (t : Nat) {C0 : (Bool × mz_N × Bool × Nat) → Prop} (hr : ∀ (w : Bool) (N2 : mz_N) (b2 : Bool) (t2 : Nat), C0 (w, N2, b2, t2) → Q (.inl (some (.int (mz_b01 w)))) (mz_k S R N2 b2 t2)) {C1 : ((Int32 × mz_N × Bool × Nat) ⊕ (Bool × mz_N × Bool × Nat)) → Prop} (hc1 : ∀ s2, C1 (.inl s2) → mz_G (d, mz_X0 L xs, some .boolean, [], mk_622, 8, Q) 35 mt_622_35 [(0, .ref 1002), (1, .ref 0), (2, .ref 232), (3, .ref 342), (4, .int s2.1)] [] false (mz_k S R s2.2.1 s2.2.2.1 s2.2.2.2)) (hx1 : ∀ z, C1 (.inr z) → C0 z) (hp : cp_622_531 L xs v4 v5 v6 N b t) (hC : C1 (cf_622_531 L xs v4 v5 v6 N b t)) : mz_G (d, mz_X0 L xs, some .boolean, [], mk_622, 8, Q) 531 mt_622_531 [(0, .ref 1002), (1, .ref 0), (2, .ref 232), (3, .ref 342), (4, .int v4), (5, .int v5), (6, .int v6)] [] false (mz_k S R N b t) := by
  unfold cf_622_531 at hC
  unfold cp_622_531 at hp
  refine g_aload_n rfl ?_
  refine g_v1v (Nat.le_of_ble_eq_true rfl) (mz_at hS (Nat.le_of_ble_eq_true rfl) mzcS_232) (fun _ hq => cs_459 (Nat.le_trans (Nat.le_of_ble_eq_true rfl) hd) (hS.le (Nat.le_of_ble_eq_true rfl)) (hR.le (Nat.le_of_ble_eq_true rfl))  N trivial hq) (g_iload rfl ?_)
  refine g_iceq (tg := 542) rfl ms_622_542 hC (fun h2 hC => ?_) (fun h2 hC => ?_)
  · have hp := hp.1 h2
    refine g_iload rfl ?_
    refine g_ifne (tg := 559) rfl ms_622_559 hC (fun h3 hC => ?_) (fun h3 hC => ?_)
    · have hp := hp.1 h3
      refine g_aload_n rfl (g_iconst mzi_0 (g_lald (mz_at hS (Nat.le_of_ble_eq_true rfl) mzcS_342) (mz_ibd (by decide)) (g_iload rfl (g_i2l (g_lcmp ?_)))))
      refine g_leq (tg := 559) rfl ms_622_559 hC (fun h4 hC => ?_) (fun h4 hC => ?_)
      · have hp := hp.1 h4
        refine g_weak ?_ (g_cl (cg_622_559 hd hS hR L xs v4 N b t hr hc1 hx1 hp hC))
        exact ⟨rfl, rfl, rfl, rfl, rfl, trivial⟩
      · have hp := hp.2 h4
        refine g_iconst mzi_0 ?_
        exact g_zret (z := false) rfl (hr _ _ _ _ (hx1 _ hC))
    · have hp := hp.2 h3
      refine g_weak ?_ (g_cl (cg_622_559 hd hS hR L xs v4 N b t hr hc1 hx1 hp hC))
      exact ⟨rfl, rfl, rfl, rfl, rfl, trivial⟩
  · have hp := hp.2 h2
    refine g_iconst mzi_0 ?_
    exact g_zret (z := false) rfl (hr _ _ _ _ (hx1 _ hC))
theorem cg_622_1095 (hd : 12 ≤ d) (hS : mz_extR S 343) (hR : mz_rok R 343) (L : Nat) (xs : Nat → Int32) (v4 : Int32) (N : mz_N) (b : Bool) (t : Nat) {C0 : (Bool × mz_N × Bool × Nat) → Prop} (hr : ∀ (w : Bool) (N2 : mz_N) (b2 : Bool) (t2 : Nat), C0 (w, N2, b2, t2) → Q (.inl (some (.int (mz_b01 w)))) (mz_k S R N2 b2 t2)) {C1 : ((Int32 × mz_N × Bool × Nat) ⊕ (Bool × mz_N × Bool × Nat)) → Prop} (hc1 : ∀ s2, C1 (.inl s2) → mz_G (d, mz_X0 L xs, some .boolean, [], mk_622, 8, Q) 35 mt_622_35 [(0, .ref 1002), (1, .ref 0), (2, .ref 232), (3, .ref 342), (4, .int s2.1)] [] false (mz_k S R s2.2.1 s2.2.2.1 s2.2.2.2)) (hx1 : ∀ z, C1 (.inr z) → C0 z) (hp : cp_622_1095 L xs v4 N b t) (hC : C1 (cf_622_1095 L xs v4 N b t)) : mz_G (d, mz_X0 L xs, some .boolean, [], mk_622, 8, Q) 1095 mt_622_1095 [(0, .ref 1002), (1, .ref 0), (2, .ref 232), (3, .ref 342), (4, .int v4)] [] false (mz_k S R N b t) := by
  unfold cf_622_1095 at hC
  unfold cp_622_1095 at hp
  refine g_goto (tg := 4500) rfl ms_622_4500 ?_
  refine g_weak ?_ (g_cl (cg_622_4500 hd hS hR L xs v4 N b t hr hc1 hx1 hp hC))
  exact ⟨rfl, rfl, rfl, rfl, rfl, trivial⟩
theorem cg_622_1049 (hd : 12 ≤ d) (hS : mz_extR S 343) (hR : mz_rok R 343) (L : Nat) (xs : Nat → Int32) (v4 : Int32) (v5 : Int32) (N : mz_N) (b : Bool) (t : Nat) {C0 : (Bool × mz_N × Bool × Nat) → Prop} (hr : ∀ (w : Bool) (N2 : mz_N) (b2 : Bool) (t2 : Nat), C0 (w, N2, b2, t2) → Q (.inl (some (.int (mz_b01 w)))) (mz_k S R N2 b2 t2)) {C1 : ((Int32 × mz_N × Bool × Nat) ⊕ (Bool × mz_N × Bool × Nat)) → Prop} (hc1 : ∀ s2, C1 (.inl s2) → mz_G (d, mz_X0 L xs, some .boolean, [], mk_622, 8, Q) 35 mt_622_35 [(0, .ref 1002), (1, .ref 0), (2, .ref 232), (3, .ref 342), (4, .int s2.1)] [] false (mz_k S R s2.2.1 s2.2.2.1 s2.2.2.2)) (hx1 : ∀ z, C1 (.inr z) → C0 z) (hp : cp_622_1049 L xs v4 v5 N b t) (hC : C1 (cf_622_1049 L xs v4 v5 N b t)) : mz_G (d, mz_X0 L xs, some .boolean, [], mk_622, 8, Q) 1049 mt_622_1049 [(0, .ref 1002), (1, .ref 0), (2, .ref 232), (3, .ref 342), (4, .int v4), (5, .int v5)] [] false (mz_k S R N b t) := by
  unfold cf_622_1049 at hC
  unfold cp_622_1049 at hp
  refine g_aload_n rfl (g_aload_n rfl (g_iload rfl (g_iconst mzi_1 (g_iadd ?_))))
  obtain ⟨h1, hp⟩ := hp
  refine g_iald1002 h1 (g_aload_n rfl (g_iload rfl (g_iconst mzi_2 (g_iadd ?_))))
  obtain ⟨h2, hp⟩ := hp
  refine g_iald1002 h2 ?_
  obtain ⟨h3, hp⟩ := hp
  refine g_v3v (Nat.le_of_ble_eq_true rfl) (mz_at hS (Nat.le_of_ble_eq_true rfl) mzcS_232) (fun _ hq => cs_490 (Nat.le_trans (Nat.le_of_ble_eq_true rfl) hd) (hS.le (Nat.le_of_ble_eq_true rfl)) (hR.le (Nat.le_of_ble_eq_true rfl))  (xs (v4 + 1).toNatClampNeg) (xs (v4 + 2).toNatClampNeg) N h3 hq) (g_istore (Nat.le_of_ble_eq_true rfl) rfl (g_aload_n rfl ?_))
  refine g_v1v (Nat.le_of_ble_eq_true rfl) (mz_at hS (Nat.le_of_ble_eq_true rfl) mzcS_232) (fun _ hq => cs_459 (Nat.le_trans (Nat.le_of_ble_eq_true rfl) hd) (hS.le (Nat.le_of_ble_eq_true rfl)) (hR.le (Nat.le_of_ble_eq_true rfl))  ((cf_490_0 (xs (v4 + 1).toNatClampNeg) (xs (v4 + 2).toNatClampNeg) N).2) trivial hq) (g_iload rfl ?_)
  refine g_iceq (tg := 1078) rfl ms_622_1078 hC (fun h5 hC => ?_) (fun h5 hC => ?_)
  · have hp := hp.1 h5
    refine g_iload rfl ?_
    refine g_ifne (tg := 1095) rfl ms_622_1095 hC (fun h6 hC => ?_) (fun h6 hC => ?_)
    · have hp := hp.1 h6
      refine g_aload_n rfl (g_iconst mzi_0 (g_lald (mz_at hS (Nat.le_of_ble_eq_true rfl) mzcS_342) (mz_ibd (by decide)) (g_iload rfl (g_i2l (g_lcmp ?_)))))
      refine g_leq (tg := 1095) rfl ms_622_1095 hC (fun h7 hC => ?_) (fun h7 hC => ?_)
      · have hp := hp.1 h7
        refine g_weak ?_ (g_cl (cg_622_1095 hd hS hR L xs v4 ((cf_490_0 (xs (v4 + 1).toNatClampNeg) (xs (v4 + 2).toNatClampNeg) N).2) b t hr hc1 hx1 hp hC))
        exact ⟨rfl, rfl, rfl, rfl, rfl, trivial⟩
      · have hp := hp.2 h7
        refine g_iconst mzi_0 ?_
        exact g_zret (z := false) rfl (hr _ _ _ _ (hx1 _ hC))
    · have hp := hp.2 h6
      refine g_weak ?_ (g_cl (cg_622_1095 hd hS hR L xs v4 ((cf_490_0 (xs (v4 + 1).toNatClampNeg) (xs (v4 + 2).toNatClampNeg) N).2) b t hr hc1 hx1 hp hC))
      exact ⟨rfl, rfl, rfl, rfl, rfl, trivial⟩
  · have hp := hp.2 h5
    refine g_iconst mzi_0 ?_
    exact g_zret (z := false) rfl (hr _ _ _ _ (hx1 _ hC))
theorem cg_622_3357 (hd : 12 ≤ d) (hS : mz_extR S 343) (hR : mz_rok R 343) (L : Nat) (xs : Nat → Int32) (v4 : Int32) (N : mz_N) (b : Bool) (t : Nat) {C0 : (Bool × mz_N × Bool × Nat) → Prop} (hr : ∀ (w : Bool) (N2 : mz_N) (b2 : Bool) (t2 : Nat), C0 (w, N2, b2, t2) → Q (.inl (some (.int (mz_b01 w)))) (mz_k S R N2 b2 t2)) {C1 : ((Int32 × mz_N × Bool × Nat) ⊕ (Bool × mz_N × Bool × Nat)) → Prop} (hc1 : ∀ s2, C1 (.inl s2) → mz_G (d, mz_X0 L xs, some .boolean, [], mk_622, 8, Q) 35 mt_622_35 [(0, .ref 1002), (1, .ref 0), (2, .ref 232), (3, .ref 342), (4, .int s2.1)] [] false (mz_k S R s2.2.1 s2.2.2.1 s2.2.2.2)) (hx1 : ∀ z, C1 (.inr z) → C0 z) (hp : cp_622_3357 L xs v4 N b t) (hC : C1 (cf_622_3357 L xs v4 N b t)) : mz_G (d, mz_X0 L xs, some .boolean, [], mk_622, 8, Q) 3357 mt_622_3357 [(0, .ref 1002), (1, .ref 0), (2, .ref 232), (3, .ref 342), (4, .int v4)] [] false (mz_k S R N b t) := by
  unfold cf_622_3357 at hC
  unfold cp_622_3357 at hp
  refine g_goto (tg := 4500) rfl ms_622_4500 ?_
  refine g_weak ?_ (g_cl (cg_622_4500 hd hS hR L xs v4 N b t hr hc1 hx1 hp hC))
  exact ⟨rfl, rfl, rfl, rfl, rfl, trivial⟩
theorem cg_622_2594 (hd : 12 ≤ d) (hS : mz_extR S 343) (hR : mz_rok R 343) (L : Nat) (xs : Nat → Int32) (v4 : Int32) (N : mz_N) (b : Bool) (t : Nat) {C0 : (Bool × mz_N × Bool × Nat) → Prop} (hr : ∀ (w : Bool) (N2 : mz_N) (b2 : Bool) (t2 : Nat), C0 (w, N2, b2, t2) → Q (.inl (some (.int (mz_b01 w)))) (mz_k S R N2 b2 t2)) {C1 : ((Int32 × mz_N × Bool × Nat) ⊕ (Bool × mz_N × Bool × Nat)) → Prop} (hc1 : ∀ s2, C1 (.inl s2) → mz_G (d, mz_X0 L xs, some .boolean, [], mk_622, 8, Q) 35 mt_622_35 [(0, .ref 1002), (1, .ref 0), (2, .ref 232), (3, .ref 342), (4, .int s2.1)] [] false (mz_k S R s2.2.1 s2.2.2.1 s2.2.2.2)) (hx1 : ∀ z, C1 (.inr z) → C0 z) (hp : cp_622_2594 L xs v4 N b t) (hC : C1 (cf_622_2594 L xs v4 N b t)) : mz_G (d, mz_X0 L xs, some .boolean, [], mk_622, 8, Q) 2594 mt_622_2594 [(0, .ref 1002), (1, .ref 0), (2, .ref 232), (3, .ref 342), (4, .int v4)] [] false (mz_k S R N b t) := by
  unfold cf_622_2594 at hC
  unfold cp_622_2594 at hp
  refine g_goto (tg := 4500) rfl ms_622_4500 ?_
  refine g_weak ?_ (g_cl (cg_622_4500 hd hS hR L xs v4 N b t hr hc1 hx1 hp hC))
  exact ⟨rfl, rfl, rfl, rfl, rfl, trivial⟩
theorem cg_622_1631 (hd : 12 ≤ d) (hS : mz_extR S 343) (hR : mz_rok R 343) (L : Nat) (xs : Nat → Int32) (v4 : Int32) (N : mz_N) (b : Bool) (t : Nat) {C0 : (Bool × mz_N × Bool × Nat) → Prop} (hr : ∀ (w : Bool) (N2 : mz_N) (b2 : Bool) (t2 : Nat), C0 (w, N2, b2, t2) → Q (.inl (some (.int (mz_b01 w)))) (mz_k S R N2 b2 t2)) {C1 : ((Int32 × mz_N × Bool × Nat) ⊕ (Bool × mz_N × Bool × Nat)) → Prop} (hc1 : ∀ s2, C1 (.inl s2) → mz_G (d, mz_X0 L xs, some .boolean, [], mk_622, 8, Q) 35 mt_622_35 [(0, .ref 1002), (1, .ref 0), (2, .ref 232), (3, .ref 342), (4, .int s2.1)] [] false (mz_k S R s2.2.1 s2.2.2.1 s2.2.2.2)) (hx1 : ∀ z, C1 (.inr z) → C0 z) (hp : cp_622_1631 L xs v4 N b t) (hC : C1 (cf_622_1631 L xs v4 N b t)) : mz_G (d, mz_X0 L xs, some .boolean, [], mk_622, 8, Q) 1631 mt_622_1631 [(0, .ref 1002), (1, .ref 0), (2, .ref 232), (3, .ref 342), (4, .int v4)] [] false (mz_k S R N b t) := by
  unfold cf_622_1631 at hC
  unfold cp_622_1631 at hp
  refine g_goto (tg := 4500) rfl ms_622_4500 ?_
  refine g_weak ?_ (g_cl (cg_622_4500 hd hS hR L xs v4 N b t hr hc1 hx1 hp hC))
  exact ⟨rfl, rfl, rfl, rfl, rfl, trivial⟩
theorem cg_622_1585 (hd : 12 ≤ d) (hS : mz_extR S 343) (hR : mz_rok R 343) (L : Nat) (xs : Nat → Int32) (v4 : Int32) (v5 : Int32) (N : mz_N) (b : Bool) (t : Nat) {C0 : (Bool × mz_N × Bool × Nat) → Prop} (hr : ∀ (w : Bool) (N2 : mz_N) (b2 : Bool) (t2 : Nat), C0 (w, N2, b2, t2) → Q (.inl (some (.int (mz_b01 w)))) (mz_k S R N2 b2 t2)) {C1 : ((Int32 × mz_N × Bool × Nat) ⊕ (Bool × mz_N × Bool × Nat)) → Prop} (hc1 : ∀ s2, C1 (.inl s2) → mz_G (d, mz_X0 L xs, some .boolean, [], mk_622, 8, Q) 35 mt_622_35 [(0, .ref 1002), (1, .ref 0), (2, .ref 232), (3, .ref 342), (4, .int s2.1)] [] false (mz_k S R s2.2.1 s2.2.2.1 s2.2.2.2)) (hx1 : ∀ z, C1 (.inr z) → C0 z) (hp : cp_622_1585 L xs v4 v5 N b t) (hC : C1 (cf_622_1585 L xs v4 v5 N b t)) : mz_G (d, mz_X0 L xs, some .boolean, [], mk_622, 8, Q) 1585 mt_622_1585 [(0, .ref 1002), (1, .ref 0), (2, .ref 232), (3, .ref 342), (4, .int v4), (5, .int v5)] [] false (mz_k S R N b t) := by
  unfold cf_622_1585 at hC
  unfold cp_622_1585 at hp
  refine g_aload_n rfl (g_aload_n rfl (g_iload rfl (g_iconst mzi_1 (g_iadd ?_))))
  obtain ⟨h1, hp⟩ := hp
  refine g_iald1002 h1 (g_aload_n rfl (g_iload rfl (g_iconst mzi_2 (g_iadd ?_))))
  obtain ⟨h2, hp⟩ := hp
  refine g_iald1002 h2 ?_
  obtain ⟨h3, hp⟩ := hp
  refine g_v3v (Nat.le_of_ble_eq_true rfl) (mz_at hS (Nat.le_of_ble_eq_true rfl) mzcS_232) (fun _ hq => cs_499 (Nat.le_trans (Nat.le_of_ble_eq_true rfl) hd) (hS.le (Nat.le_of_ble_eq_true rfl)) (hR.le (Nat.le_of_ble_eq_true rfl))  (xs (v4 + 1).toNatClampNeg) (xs (v4 + 2).toNatClampNeg) N h3 hq) (g_istore (Nat.le_of_ble_eq_true rfl) rfl (g_aload_n rfl ?_))
  refine g_v1v (Nat.le_of_ble_eq_true rfl) (mz_at hS (Nat.le_of_ble_eq_true rfl) mzcS_232) (fun _ hq => cs_459 (Nat.le_trans (Nat.le_of_ble_eq_true rfl) hd) (hS.le (Nat.le_of_ble_eq_true rfl)) (hR.le (Nat.le_of_ble_eq_true rfl))  ((cf_499_0 (xs (v4 + 1).toNatClampNeg) (xs (v4 + 2).toNatClampNeg) N).2) trivial hq) (g_iload rfl ?_)
  refine g_iceq (tg := 1614) rfl ms_622_1614 hC (fun h5 hC => ?_) (fun h5 hC => ?_)
  · have hp := hp.1 h5
    refine g_iload rfl ?_
    refine g_ifne (tg := 1631) rfl ms_622_1631 hC (fun h6 hC => ?_) (fun h6 hC => ?_)
    · have hp := hp.1 h6
      refine g_aload_n rfl (g_iconst mzi_0 (g_lald (mz_at hS (Nat.le_of_ble_eq_true rfl) mzcS_342) (mz_ibd (by decide)) (g_iload rfl (g_i2l (g_lcmp ?_)))))
      refine g_leq (tg := 1631) rfl ms_622_1631 hC (fun h7 hC => ?_) (fun h7 hC => ?_)
      · have hp := hp.1 h7
        refine g_weak ?_ (g_cl (cg_622_1631 hd hS hR L xs v4 ((cf_499_0 (xs (v4 + 1).toNatClampNeg) (xs (v4 + 2).toNatClampNeg) N).2) b t hr hc1 hx1 hp hC))
        exact ⟨rfl, rfl, rfl, rfl, rfl, trivial⟩
      · have hp := hp.2 h7
        refine g_iconst mzi_0 ?_
        exact g_zret (z := false) rfl (hr _ _ _ _ (hx1 _ hC))
    · have hp := hp.2 h6
      refine g_weak ?_ (g_cl (cg_622_1631 hd hS hR L xs v4 ((cf_499_0 (xs (v4 + 1).toNatClampNeg) (xs (v4 + 2).toNatClampNeg) N).2) b t hr hc1 hx1 hp hC))
      exact ⟨rfl, rfl, rfl, rfl, rfl, trivial⟩
  · have hp := hp.2 h5
    refine g_iconst mzi_0 ?_
    exact g_zret (z := false) rfl (hr _ _ _ _ (hx1 _ hC))
theorem cg_622_871 (hd : 12 ≤ d) (hS : mz_extR S 343) (hR : mz_rok R 343) (L : Nat) (xs : Nat → Int32) (v4 : Int32) (N : mz_N) (b : Bool) (t : Nat) {C0 : (Bool × mz_N × Bool × Nat) → Prop} (hr : ∀ (w : Bool) (N2 : mz_N) (b2 : Bool) (t2 : Nat), C0 (w, N2, b2, t2) → Q (.inl (some (.int (mz_b01 w)))) (mz_k S R N2 b2 t2)) {C1 : ((Int32 × mz_N × Bool × Nat) ⊕ (Bool × mz_N × Bool × Nat)) → Prop} (hc1 : ∀ s2, C1 (.inl s2) → mz_G (d, mz_X0 L xs, some .boolean, [], mk_622, 8, Q) 35 mt_622_35 [(0, .ref 1002), (1, .ref 0), (2, .ref 232), (3, .ref 342), (4, .int s2.1)] [] false (mz_k S R s2.2.1 s2.2.2.1 s2.2.2.2)) (hx1 : ∀ z, C1 (.inr z) → C0 z) (hp : cp_622_871 L xs v4 N b t) (hC : C1 (cf_622_871 L xs v4 N b t)) : mz_G (d, mz_X0 L xs, some .boolean, [], mk_622, 8, Q) 871 mt_622_871 [(0, .ref 1002), (1, .ref 0), (2, .ref 232), (3, .ref 342), (4, .int v4)] [] false (mz_k S R N b t) := by
  unfold cf_622_871 at hC
  unfold cp_622_871 at hp
  refine g_goto (tg := 4500) rfl ms_622_4500 ?_
  refine g_weak ?_ (g_cl (cg_622_4500 hd hS hR L xs v4 N b t hr hc1 hx1 hp hC))
  exact ⟨rfl, rfl, rfl, rfl, rfl, trivial⟩
theorem cg_622_843 (hd : 12 ≤ d) (hS : mz_extR S 343) (hR : mz_rok R 343) (L : Nat) (xs : Nat → Int32) (v4 : Int32) (v5 : Int32) (v6 : Int32) (N : mz_N) (b : Bool) (t : Nat) {C0 : (Bool × mz_N × Bool × Nat) → Prop} (hr : ∀ (w : Bool) (N2 : mz_N) (b2 : Bool) (t2 : Nat), C0 (w, N2, b2, t2) → Q (.inl (some (.int (mz_b01 w)))) (mz_k S R N2 b2 t2)) {C1 : ((Int32 × mz_N × Bool × Nat) ⊕ (Bool × mz_N × Bool × Nat)) → Prop} (hc1 : ∀ s2, C1 (.inl s2) → mz_G (d, mz_X0 L xs, some .boolean, [], mk_622, 8, Q) 35 mt_622_35 [(0, .ref 1002), (1, .ref 0), (2, .ref 232), (3, .ref 342), (4, .int s2.1)] [] false (mz_k S R s2.2.1 s2.2.2.1 s2.2.2.2)) (hx1 : ∀ z, C1 (.inr z) → C0 z) (hp : cp_622_843 L xs v4 v5 v6 N b t) (hC : C1 (cf_622_843 L xs v4 v5 v6 N b t)) : mz_G (d, mz_X0 L xs, some .boolean, [], mk_622, 8, Q) 843 mt_622_843 [(0, .ref 1002), (1, .ref 0), (2, .ref 232), (3, .ref 342), (4, .int v4), (5, .int v5), (6, .int v6)] [] false (mz_k S R N b t) := by
  unfold cf_622_843 at hC
  unfold cp_622_843 at hp
  refine g_aload_n rfl ?_
  refine g_v1v (Nat.le_of_ble_eq_true rfl) (mz_at hS (Nat.le_of_ble_eq_true rfl) mzcS_232) (fun _ hq => cs_459 (Nat.le_trans (Nat.le_of_ble_eq_true rfl) hd) (hS.le (Nat.le_of_ble_eq_true rfl)) (hR.le (Nat.le_of_ble_eq_true rfl))  N trivial hq) (g_iload rfl ?_)
  refine g_iceq (tg := 854) rfl ms_622_854 hC (fun h2 hC => ?_) (fun h2 hC => ?_)
  · have hp := hp.1 h2
    refine g_iload rfl ?_
    refine g_ifne (tg := 871) rfl ms_622_871 hC (fun h3 hC => ?_) (fun h3 hC => ?_)
    · have hp := hp.1 h3
      refine g_aload_n rfl (g_iconst mzi_0 (g_lald (mz_at hS (Nat.le_of_ble_eq_true rfl) mzcS_342) (mz_ibd (by decide)) (g_iload rfl (g_i2l (g_lcmp ?_)))))
      refine g_leq (tg := 871) rfl ms_622_871 hC (fun h4 hC => ?_) (fun h4 hC => ?_)
      · have hp := hp.1 h4
        refine g_weak ?_ (g_cl (cg_622_871 hd hS hR L xs v4 N b t hr hc1 hx1 hp hC))
        exact ⟨rfl, rfl, rfl, rfl, rfl, trivial⟩
      · have hp := hp.2 h4
        refine g_iconst mzi_0 ?_
        exact g_zret (z := false) rfl (hr _ _ _ _ (hx1 _ hC))
    · have hp := hp.2 h3
      refine g_weak ?_ (g_cl (cg_622_871 hd hS hR L xs v4 N b t hr hc1 hx1 hp hC))
      exact ⟨rfl, rfl, rfl, rfl, rfl, trivial⟩
  · have hp := hp.2 h2
    refine g_iconst mzi_0 ?_
    exact g_zret (z := false) rfl (hr _ _ _ _ (hx1 _ hC))
theorem cg_622_819 (hd : 12 ≤ d) (hS : mz_extR S 343) (hR : mz_rok R 343) (L : Nat) (xs : Nat → Int32) (v4 : Int32) (v5 : Int32) (N : mz_N) (b : Bool) (t : Nat) {C0 : (Bool × mz_N × Bool × Nat) → Prop} (hr : ∀ (w : Bool) (N2 : mz_N) (b2 : Bool) (t2 : Nat), C0 (w, N2, b2, t2) → Q (.inl (some (.int (mz_b01 w)))) (mz_k S R N2 b2 t2)) {C1 : ((Int32 × mz_N × Bool × Nat) ⊕ (Bool × mz_N × Bool × Nat)) → Prop} (hc1 : ∀ s2, C1 (.inl s2) → mz_G (d, mz_X0 L xs, some .boolean, [], mk_622, 8, Q) 35 mt_622_35 [(0, .ref 1002), (1, .ref 0), (2, .ref 232), (3, .ref 342), (4, .int s2.1)] [] false (mz_k S R s2.2.1 s2.2.2.1 s2.2.2.2)) (hx1 : ∀ z, C1 (.inr z) → C0 z) (hp : cp_622_819 L xs v4 v5 N b t) (hC : C1 (cf_622_819 L xs v4 v5 N b t)) : mz_G (d, mz_X0 L xs, some .boolean, [], mk_622, 8, Q) 819 mt_622_819 [(0, .ref 1002), (1, .ref 0), (2, .ref 232), (3, .ref 342), (4, .int v4), (5, .int v5)] [] false (mz_k S R N b t) := by
  unfold cf_622_819 at hC
  unfold cp_622_819 at hp
  refine g_aload_n rfl (g_aload_n rfl (g_iload rfl (g_iconst mzi_1 (g_iadd ?_))))
  obtain ⟨h1, hp⟩ := hp
  refine g_iald1002 h1 (g_aload_n rfl (g_iload rfl (g_iconst mzi_2 (g_iadd ?_))))
  obtain ⟨h2, hp⟩ := hp
  refine g_iald1002 h2 (g_aload_n rfl (g_iload rfl (g_iconst mzi_3 (g_iadd ?_))))
  obtain ⟨h3, hp⟩ := hp
  refine g_iald1002 h3 ?_
  obtain ⟨h4, hp⟩ := hp
  refine g_v4v (Nat.le_of_ble_eq_true rfl) (mz_at hS (Nat.le_of_ble_eq_true rfl) mzcS_232) (fun _ hq => cs_482 (Nat.le_trans (Nat.le_of_ble_eq_true rfl) hd) (hS.le (Nat.le_of_ble_eq_true rfl)) (hR.le (Nat.le_of_ble_eq_true rfl))  (xs (v4 + 1).toNatClampNeg) (xs (v4 + 2).toNatClampNeg) (xs (v4 + 3).toNatClampNeg) N h4 hq) (g_istore (Nat.le_of_ble_eq_true rfl) rfl ?_)
  refine g_weak ?_ (g_cl (cg_622_843 hd hS hR L xs v4 v5 ((cf_482_0 (xs (v4 + 1).toNatClampNeg) (xs (v4 + 2).toNatClampNeg) (xs (v4 + 3).toNatClampNeg) N).1) ((cf_482_0 (xs (v4 + 1).toNatClampNeg) (xs (v4 + 2).toNatClampNeg) (xs (v4 + 3).toNatClampNeg) N).2) b t hr hc1 hx1 hp hC))
  exact ⟨rfl, rfl, rfl, rfl, rfl, rfl, rfl, trivial⟩
theorem cg_622_1843 (hd : 12 ≤ d) (hS : mz_extR S 343) (hR : mz_rok R 343) (L : Nat) (xs : Nat → Int32) (v4 : Int32) (N : mz_N) (b : Bool) (t : Nat) {C0 : (Bool × mz_N × Bool × Nat) → Prop} (hr : ∀ (w : Bool) (N2 : mz_N) (b2 : Bool) (t2 : Nat), C0 (w, N2, b2, t2) → Q (.inl (some (.int (mz_b01 w)))) (mz_k S R N2 b2 t2)) {C1 : ((Int32 × mz_N × Bool × Nat) ⊕ (Bool × mz_N × Bool × Nat)) → Prop} (hc1 : ∀ s2, C1 (.inl s2) → mz_G (d, mz_X0 L xs, some .boolean, [], mk_622, 8, Q) 35 mt_622_35 [(0, .ref 1002), (1, .ref 0), (2, .ref 232), (3, .ref 342), (4, .int s2.1)] [] false (mz_k S R s2.2.1 s2.2.2.1 s2.2.2.2)) (hx1 : ∀ z, C1 (.inr z) → C0 z) (hp : cp_622_1843 L xs v4 N b t) (hC : C1 (cf_622_1843 L xs v4 N b t)) : mz_G (d, mz_X0 L xs, some .boolean, [], mk_622, 8, Q) 1843 mt_622_1843 [(0, .ref 1002), (1, .ref 0), (2, .ref 232), (3, .ref 342), (4, .int v4)] [] false (mz_k S R N b t) := by
  unfold cf_622_1843 at hC
  unfold cp_622_1843 at hp
  refine g_goto (tg := 4500) rfl ms_622_4500 ?_
  refine g_weak ?_ (g_cl (cg_622_4500 hd hS hR L xs v4 N b t hr hc1 hx1 hp hC))
  exact ⟨rfl, rfl, rfl, rfl, rfl, trivial⟩
theorem cg_622_3425 (hd : 12 ≤ d) (hS : mz_extR S 343) (hR : mz_rok R 343) (L : Nat) (xs : Nat → Int32) (v4 : Int32) (N : mz_N) (b : Bool) (t : Nat) {C0 : (Bool × mz_N × Bool × Nat) → Prop} (hr : ∀ (w : Bool) (N2 : mz_N) (b2 : Bool) (t2 : Nat), C0 (w, N2, b2, t2) → Q (.inl (some (.int (mz_b01 w)))) (mz_k S R N2 b2 t2)) {C1 : ((Int32 × mz_N × Bool × Nat) ⊕ (Bool × mz_N × Bool × Nat)) → Prop} (hc1 : ∀ s2, C1 (.inl s2) → mz_G (d, mz_X0 L xs, some .boolean, [], mk_622, 8, Q) 35 mt_622_35 [(0, .ref 1002), (1, .ref 0), (2, .ref 232), (3, .ref 342), (4, .int s2.1)] [] false (mz_k S R s2.2.1 s2.2.2.1 s2.2.2.2)) (hx1 : ∀ z, C1 (.inr z) → C0 z) (hp : cp_622_3425 L xs v4 N b t) (hC : C1 (cf_622_3425 L xs v4 N b t)) : mz_G (d, mz_X0 L xs, some .boolean, [], mk_622, 8, Q) 3425 mt_622_3425 [(0, .ref 1002), (1, .ref 0), (2, .ref 232), (3, .ref 342), (4, .int v4)] [] false (mz_k S R N b t) := by
  unfold cf_622_3425 at hC
  unfold cp_622_3425 at hp
  refine g_goto (tg := 4500) rfl ms_622_4500 ?_
  refine g_weak ?_ (g_cl (cg_622_4500 hd hS hR L xs v4 N b t hr hc1 hx1 hp hC))
  exact ⟨rfl, rfl, rfl, rfl, rfl, trivial⟩
theorem cg_622_3379 (hd : 12 ≤ d) (hS : mz_extR S 343) (hR : mz_rok R 343) (L : Nat) (xs : Nat → Int32) (v4 : Int32) (v5 : Int32) (N : mz_N) (b : Bool) (t : Nat) {C0 : (Bool × mz_N × Bool × Nat) → Prop} (hr : ∀ (w : Bool) (N2 : mz_N) (b2 : Bool) (t2 : Nat), C0 (w, N2, b2, t2) → Q (.inl (some (.int (mz_b01 w)))) (mz_k S R N2 b2 t2)) {C1 : ((Int32 × mz_N × Bool × Nat) ⊕ (Bool × mz_N × Bool × Nat)) → Prop} (hc1 : ∀ s2, C1 (.inl s2) → mz_G (d, mz_X0 L xs, some .boolean, [], mk_622, 8, Q) 35 mt_622_35 [(0, .ref 1002), (1, .ref 0), (2, .ref 232), (3, .ref 342), (4, .int s2.1)] [] false (mz_k S R s2.2.1 s2.2.2.1 s2.2.2.2)) (hx1 : ∀ z, C1 (.inr z) → C0 z) (hp : cp_622_3379 L xs v4 v5 N b t) (hC : C1 (cf_622_3379 L xs v4 v5 N b t)) : mz_G (d, mz_X0 L xs, some .boolean, [], mk_622, 8, Q) 3379 mt_622_3379 [(0, .ref 1002), (1, .ref 0), (2, .ref 232), (3, .ref 342), (4, .int v4), (5, .int v5)] [] false (mz_k S R N b t) := by
  unfold cf_622_3379 at hC
  unfold cp_622_3379 at hp
  refine g_aload_n rfl (g_aload_n rfl (g_iload rfl (g_iconst mzi_1 (g_iadd ?_))))
  obtain ⟨h1, hp⟩ := hp
  refine g_iald1002 h1 (g_aload_n rfl (g_iload rfl (g_iconst mzi_2 (g_iadd ?_))))
  obtain ⟨h2, hp⟩ := hp
  refine g_iald1002 h2 ?_
  obtain ⟨h3, hp⟩ := hp
  refine g_v3v (Nat.le_of_ble_eq_true rfl) (mz_at hS (Nat.le_of_ble_eq_true rfl) mzcS_232) (fun _ hq => cs_563 (Nat.le_trans (Nat.le_of_ble_eq_true rfl) hd) (hS.le (Nat.le_of_ble_eq_true rfl)) (hR.le (Nat.le_of_ble_eq_true rfl))  (xs (v4 + 1).toNatClampNeg) (xs (v4 + 2).toNatClampNeg) N h3 hq) (g_istore (Nat.le_of_ble_eq_true rfl) rfl (g_aload_n rfl ?_))
  refine g_v1v (Nat.le_of_ble_eq_true rfl) (mz_at hS (Nat.le_of_ble_eq_true rfl) mzcS_232) (fun _ hq => cs_459 (Nat.le_trans (Nat.le_of_ble_eq_true rfl) hd) (hS.le (Nat.le_of_ble_eq_true rfl)) (hR.le (Nat.le_of_ble_eq_true rfl))  ((cf_563_0 (xs (v4 + 1).toNatClampNeg) (xs (v4 + 2).toNatClampNeg) N).2) trivial hq) (g_iload rfl ?_)
  refine g_iceq (tg := 3408) rfl ms_622_3408 hC (fun h5 hC => ?_) (fun h5 hC => ?_)
  · have hp := hp.1 h5
    refine g_iload rfl ?_
    refine g_ifne (tg := 3425) rfl ms_622_3425 hC (fun h6 hC => ?_) (fun h6 hC => ?_)
    · have hp := hp.1 h6
      refine g_aload_n rfl (g_iconst mzi_0 (g_lald (mz_at hS (Nat.le_of_ble_eq_true rfl) mzcS_342) (mz_ibd (by decide)) (g_iload rfl (g_i2l (g_lcmp ?_)))))
      refine g_leq (tg := 3425) rfl ms_622_3425 hC (fun h7 hC => ?_) (fun h7 hC => ?_)
      · have hp := hp.1 h7
        refine g_weak ?_ (g_cl (cg_622_3425 hd hS hR L xs v4 ((cf_563_0 (xs (v4 + 1).toNatClampNeg) (xs (v4 + 2).toNatClampNeg) N).2) b t hr hc1 hx1 hp hC))
        exact ⟨rfl, rfl, rfl, rfl, rfl, trivial⟩
      · have hp := hp.2 h7
        refine g_iconst mzi_0 ?_
        exact g_zret (z := false) rfl (hr _ _ _ _ (hx1 _ hC))
    · have hp := hp.2 h6
      refine g_weak ?_ (g_cl (cg_622_3425 hd hS hR L xs v4 ((cf_563_0 (xs (v4 + 1).toNatClampNeg) (xs (v4 + 2).toNatClampNeg) N).2) b t hr hc1 hx1 hp hC))
      exact ⟨rfl, rfl, rfl, rfl, rfl, trivial⟩
  · have hp := hp.2 h5
    refine g_iconst mzi_0 ?_
    exact g_zret (z := false) rfl (hr _ _ _ _ (hx1 _ hC))
theorem cg_622_3178 (hd : 12 ≤ d) (hS : mz_extR S 343) (hR : mz_rok R 343) (L : Nat) (xs : Nat → Int32) (v4 : Int32) (N : mz_N) (b : Bool) (t : Nat) {C0 : (Bool × mz_N × Bool × Nat) → Prop} (hr : ∀ (w : Bool) (N2 : mz_N) (b2 : Bool) (t2 : Nat), C0 (w, N2, b2, t2) → Q (.inl (some (.int (mz_b01 w)))) (mz_k S R N2 b2 t2)) {C1 : ((Int32 × mz_N × Bool × Nat) ⊕ (Bool × mz_N × Bool × Nat)) → Prop} (hc1 : ∀ s2, C1 (.inl s2) → mz_G (d, mz_X0 L xs, some .boolean, [], mk_622, 8, Q) 35 mt_622_35 [(0, .ref 1002), (1, .ref 0), (2, .ref 232), (3, .ref 342), (4, .int s2.1)] [] false (mz_k S R s2.2.1 s2.2.2.1 s2.2.2.2)) (hx1 : ∀ z, C1 (.inr z) → C0 z) (hp : cp_622_3178 L xs v4 N b t) (hC : C1 (cf_622_3178 L xs v4 N b t)) : mz_G (d, mz_X0 L xs, some .boolean, [], mk_622, 8, Q) 3178 mt_622_3178 [(0, .ref 1002), (1, .ref 0), (2, .ref 232), (3, .ref 342), (4, .int v4)] [] false (mz_k S R N b t) := by
  unfold cf_622_3178 at hC
  unfold cp_622_3178 at hp
  refine g_goto (tg := 4500) rfl ms_622_4500 ?_
  refine g_weak ?_ (g_cl (cg_622_4500 hd hS hR L xs v4 N b t hr hc1 hx1 hp hC))
  exact ⟨rfl, rfl, rfl, rfl, rfl, trivial⟩
theorem cg_622_3150 (hd : 12 ≤ d) (hS : mz_extR S 343) (hR : mz_rok R 343) (L : Nat) (xs : Nat → Int32) (v4 : Int32) (v5 : Int32) (v6 : Int32) (N : mz_N) (b : Bool) (t : Nat) {C0 : (Bool × mz_N × Bool × Nat) → Prop} (hr : ∀ (w : Bool) (N2 : mz_N) (b2 : Bool) (t2 : Nat), C0 (w, N2, b2, t2) → Q (.inl (some (.int (mz_b01 w)))) (mz_k S R N2 b2 t2)) {C1 : ((Int32 × mz_N × Bool × Nat) ⊕ (Bool × mz_N × Bool × Nat)) → Prop} (hc1 : ∀ s2, C1 (.inl s2) → mz_G (d, mz_X0 L xs, some .boolean, [], mk_622, 8, Q) 35 mt_622_35 [(0, .ref 1002), (1, .ref 0), (2, .ref 232), (3, .ref 342), (4, .int s2.1)] [] false (mz_k S R s2.2.1 s2.2.2.1 s2.2.2.2)) (hx1 : ∀ z, C1 (.inr z) → C0 z) (hp : cp_622_3150 L xs v4 v5 v6 N b t) (hC : C1 (cf_622_3150 L xs v4 v5 v6 N b t)) : mz_G (d, mz_X0 L xs, some .boolean, [], mk_622, 8, Q) 3150 mt_622_3150 [(0, .ref 1002), (1, .ref 0), (2, .ref 232), (3, .ref 342), (4, .int v4), (5, .int v5), (6, .int v6)] [] false (mz_k S R N b t) := by
  unfold cf_622_3150 at hC
  unfold cp_622_3150 at hp
  refine g_aload_n rfl ?_
  refine g_v1v (Nat.le_of_ble_eq_true rfl) (mz_at hS (Nat.le_of_ble_eq_true rfl) mzcS_232) (fun _ hq => cs_459 (Nat.le_trans (Nat.le_of_ble_eq_true rfl) hd) (hS.le (Nat.le_of_ble_eq_true rfl)) (hR.le (Nat.le_of_ble_eq_true rfl))  N trivial hq) (g_iload rfl ?_)
  refine g_iceq (tg := 3161) rfl ms_622_3161 hC (fun h2 hC => ?_) (fun h2 hC => ?_)
  · have hp := hp.1 h2
    refine g_iload rfl ?_
    refine g_ifne (tg := 3178) rfl ms_622_3178 hC (fun h3 hC => ?_) (fun h3 hC => ?_)
    · have hp := hp.1 h3
      refine g_aload_n rfl (g_iconst mzi_0 (g_lald (mz_at hS (Nat.le_of_ble_eq_true rfl) mzcS_342) (mz_ibd (by decide)) (g_iload rfl (g_i2l (g_lcmp ?_)))))
      refine g_leq (tg := 3178) rfl ms_622_3178 hC (fun h4 hC => ?_) (fun h4 hC => ?_)
      · have hp := hp.1 h4
        refine g_weak ?_ (g_cl (cg_622_3178 hd hS hR L xs v4 N b t hr hc1 hx1 hp hC))
        exact ⟨rfl, rfl, rfl, rfl, rfl, trivial⟩
      · have hp := hp.2 h4
        refine g_iconst mzi_0 ?_
        exact g_zret (z := false) rfl (hr _ _ _ _ (hx1 _ hC))
    · have hp := hp.2 h3
      refine g_weak ?_ (g_cl (cg_622_3178 hd hS hR L xs v4 N b t hr hc1 hx1 hp hC))
      exact ⟨rfl, rfl, rfl, rfl, rfl, trivial⟩
  · have hp := hp.2 h2
    refine g_iconst mzi_0 ?_
    exact g_zret (z := false) rfl (hr _ _ _ _ (hx1 _ hC))
theorem cg_622_3126 (hd : 12 ≤ d) (hS : mz_extR S 343) (hR : mz_rok R 343) (L : Nat) (xs : Nat → Int32) (v4 : Int32) (v5 : Int32) (N : mz_N) (b : Bool) (t : Nat) {C0 : (Bool × mz_N × Bool × Nat) → Prop} (hr : ∀ (w : Bool) (N2 : mz_N) (b2 : Bool) (t2 : Nat), C0 (w, N2, b2, t2) → Q (.inl (some (.int (mz_b01 w)))) (mz_k S R N2 b2 t2)) {C1 : ((Int32 × mz_N × Bool × Nat) ⊕ (Bool × mz_N × Bool × Nat)) → Prop} (hc1 : ∀ s2, C1 (.inl s2) → mz_G (d, mz_X0 L xs, some .boolean, [], mk_622, 8, Q) 35 mt_622_35 [(0, .ref 1002), (1, .ref 0), (2, .ref 232), (3, .ref 342), (4, .int s2.1)] [] false (mz_k S R s2.2.1 s2.2.2.1 s2.2.2.2)) (hx1 : ∀ z, C1 (.inr z) → C0 z) (hp : cp_622_3126 L xs v4 v5 N b t) (hC : C1 (cf_622_3126 L xs v4 v5 N b t)) : mz_G (d, mz_X0 L xs, some .boolean, [], mk_622, 8, Q) 3126 mt_622_3126 [(0, .ref 1002), (1, .ref 0), (2, .ref 232), (3, .ref 342), (4, .int v4), (5, .int v5)] [] false (mz_k S R N b t) := by
  unfold cf_622_3126 at hC
  unfold cp_622_3126 at hp
  refine g_aload_n rfl (g_aload_n rfl (g_iload rfl (g_iconst mzi_1 (g_iadd ?_))))
  obtain ⟨h1, hp⟩ := hp
  refine g_iald1002 h1 (g_aload_n rfl (g_iload rfl (g_iconst mzi_2 (g_iadd ?_))))
  obtain ⟨h2, hp⟩ := hp
  refine g_iald1002 h2 (g_aload_n rfl (g_iload rfl (g_iconst mzi_3 (g_iadd ?_))))
  obtain ⟨h3, hp⟩ := hp
  refine g_iald1002 h3 ?_
  obtain ⟨h4, hp⟩ := hp
  refine g_v4v (Nat.le_of_ble_eq_true rfl) (mz_at hS (Nat.le_of_ble_eq_true rfl) mzcS_232) (fun _ hq => cs_557 (Nat.le_trans (Nat.le_of_ble_eq_true rfl) hd) (hS.le (Nat.le_of_ble_eq_true rfl)) (hR.le (Nat.le_of_ble_eq_true rfl))  (xs (v4 + 1).toNatClampNeg) (xs (v4 + 2).toNatClampNeg) (xs (v4 + 3).toNatClampNeg) N h4 hq) (g_istore (Nat.le_of_ble_eq_true rfl) rfl ?_)
  refine g_weak ?_ (g_cl (cg_622_3150 hd hS hR L xs v4 v5 ((cf_557_0 (xs (v4 + 1).toNatClampNeg) (xs (v4 + 2).toNatClampNeg) (xs (v4 + 3).toNatClampNeg) N).1) ((cf_557_0 (xs (v4 + 1).toNatClampNeg) (xs (v4 + 2).toNatClampNeg) (xs (v4 + 3).toNatClampNeg) N).2) b t hr hc1 hx1 hp hC))
  exact ⟨rfl, rfl, rfl, rfl, rfl, rfl, rfl, trivial⟩
theorem cg_622_3685 (hd : 12 ≤ d) (hS : mz_extR S 343) (hR : mz_rok R 343) (L : Nat) (xs : Nat → Int32) (v4 : Int32) (N : mz_N) (b : Bool) (t : Nat) {C0 : (Bool × mz_N × Bool × Nat) → Prop} (hr : ∀ (w : Bool) (N2 : mz_N) (b2 : Bool) (t2 : Nat), C0 (w, N2, b2, t2) → Q (.inl (some (.int (mz_b01 w)))) (mz_k S R N2 b2 t2)) {C1 : ((Int32 × mz_N × Bool × Nat) ⊕ (Bool × mz_N × Bool × Nat)) → Prop} (hc1 : ∀ s2, C1 (.inl s2) → mz_G (d, mz_X0 L xs, some .boolean, [], mk_622, 8, Q) 35 mt_622_35 [(0, .ref 1002), (1, .ref 0), (2, .ref 232), (3, .ref 342), (4, .int s2.1)] [] false (mz_k S R s2.2.1 s2.2.2.1 s2.2.2.2)) (hx1 : ∀ z, C1 (.inr z) → C0 z) (hp : cp_622_3685 L xs v4 N b t) (hC : C1 (cf_622_3685 L xs v4 N b t)) : mz_G (d, mz_X0 L xs, some .boolean, [], mk_622, 8, Q) 3685 mt_622_3685 [(0, .ref 1002), (1, .ref 0), (2, .ref 232), (3, .ref 342), (4, .int v4)] [] false (mz_k S R N b t) := by
  unfold cf_622_3685 at hC
  unfold cp_622_3685 at hp
  refine g_goto (tg := 4500) rfl ms_622_4500 ?_
  refine g_weak ?_ (g_cl (cg_622_4500 hd hS hR L xs v4 N b t hr hc1 hx1 hp hC))
  exact ⟨rfl, rfl, rfl, rfl, rfl, trivial⟩
theorem cg_622_3639 (hd : 12 ≤ d) (hS : mz_extR S 343) (hR : mz_rok R 343) (L : Nat) (xs : Nat → Int32) (v4 : Int32) (v5 : Int32) (N : mz_N) (b : Bool) (t : Nat) {C0 : (Bool × mz_N × Bool × Nat) → Prop} (hr : ∀ (w : Bool) (N2 : mz_N) (b2 : Bool) (t2 : Nat), C0 (w, N2, b2, t2) → Q (.inl (some (.int (mz_b01 w)))) (mz_k S R N2 b2 t2)) {C1 : ((Int32 × mz_N × Bool × Nat) ⊕ (Bool × mz_N × Bool × Nat)) → Prop} (hc1 : ∀ s2, C1 (.inl s2) → mz_G (d, mz_X0 L xs, some .boolean, [], mk_622, 8, Q) 35 mt_622_35 [(0, .ref 1002), (1, .ref 0), (2, .ref 232), (3, .ref 342), (4, .int s2.1)] [] false (mz_k S R s2.2.1 s2.2.2.1 s2.2.2.2)) (hx1 : ∀ z, C1 (.inr z) → C0 z) (hp : cp_622_3639 L xs v4 v5 N b t) (hC : C1 (cf_622_3639 L xs v4 v5 N b t)) : mz_G (d, mz_X0 L xs, some .boolean, [], mk_622, 8, Q) 3639 mt_622_3639 [(0, .ref 1002), (1, .ref 0), (2, .ref 232), (3, .ref 342), (4, .int v4), (5, .int v5)] [] false (mz_k S R N b t) := by
  unfold cf_622_3639 at hC
  unfold cp_622_3639 at hp
  refine g_aload_n rfl (g_aload_n rfl (g_iload rfl (g_iconst mzi_1 (g_iadd ?_))))
  obtain ⟨h1, hp⟩ := hp
  refine g_iald1002 h1 (g_aload_n rfl (g_iload rfl (g_iconst mzi_2 (g_iadd ?_))))
  obtain ⟨h2, hp⟩ := hp
  refine g_iald1002 h2 ?_
  obtain ⟨h3, hp⟩ := hp
  refine g_v3v (Nat.le_of_ble_eq_true rfl) (mz_at hS (Nat.le_of_ble_eq_true rfl) mzcS_232) (fun _ hq => cs_573 (Nat.le_trans (Nat.le_of_ble_eq_true rfl) hd) (hS.le (Nat.le_of_ble_eq_true rfl)) (hR.le (Nat.le_of_ble_eq_true rfl))  (xs (v4 + 1).toNatClampNeg) (xs (v4 + 2).toNatClampNeg) N h3 hq) (g_istore (Nat.le_of_ble_eq_true rfl) rfl (g_aload_n rfl ?_))
  refine g_v1v (Nat.le_of_ble_eq_true rfl) (mz_at hS (Nat.le_of_ble_eq_true rfl) mzcS_232) (fun _ hq => cs_459 (Nat.le_trans (Nat.le_of_ble_eq_true rfl) hd) (hS.le (Nat.le_of_ble_eq_true rfl)) (hR.le (Nat.le_of_ble_eq_true rfl))  ((cf_573_0 (xs (v4 + 1).toNatClampNeg) (xs (v4 + 2).toNatClampNeg) N).2) trivial hq) (g_iload rfl ?_)
  refine g_iceq (tg := 3668) rfl ms_622_3668 hC (fun h5 hC => ?_) (fun h5 hC => ?_)
  · have hp := hp.1 h5
    refine g_iload rfl ?_
    refine g_ifne (tg := 3685) rfl ms_622_3685 hC (fun h6 hC => ?_) (fun h6 hC => ?_)
    · have hp := hp.1 h6
      refine g_aload_n rfl (g_iconst mzi_0 (g_lald (mz_at hS (Nat.le_of_ble_eq_true rfl) mzcS_342) (mz_ibd (by decide)) (g_iload rfl (g_i2l (g_lcmp ?_)))))
      refine g_leq (tg := 3685) rfl ms_622_3685 hC (fun h7 hC => ?_) (fun h7 hC => ?_)
      · have hp := hp.1 h7
        refine g_weak ?_ (g_cl (cg_622_3685 hd hS hR L xs v4 ((cf_573_0 (xs (v4 + 1).toNatClampNeg) (xs (v4 + 2).toNatClampNeg) N).2) b t hr hc1 hx1 hp hC))
        exact ⟨rfl, rfl, rfl, rfl, rfl, trivial⟩
      · have hp := hp.2 h7
        refine g_iconst mzi_0 ?_
        exact g_zret (z := false) rfl (hr _ _ _ _ (hx1 _ hC))
    · have hp := hp.2 h6
      refine g_weak ?_ (g_cl (cg_622_3685 hd hS hR L xs v4 ((cf_573_0 (xs (v4 + 1).toNatClampNeg) (xs (v4 + 2).toNatClampNeg) N).2) b t hr hc1 hx1 hp hC))
      exact ⟨rfl, rfl, rfl, rfl, rfl, trivial⟩
  · have hp := hp.2 h5
    refine g_iconst mzi_0 ?_
    exact g_zret (z := false) rfl (hr _ _ _ _ (hx1 _ hC))
theorem cg_622_2662 (hd : 12 ≤ d) (hS : mz_extR S 343) (hR : mz_rok R 343) (L : Nat) (xs : Nat → Int32) (v4 : Int32) (N : mz_N) (b : Bool) (t : Nat) {C0 : (Bool × mz_N × Bool × Nat) → Prop} (hr : ∀ (w : Bool) (N2 : mz_N) (b2 : Bool) (t2 : Nat), C0 (w, N2, b2, t2) → Q (.inl (some (.int (mz_b01 w)))) (mz_k S R N2 b2 t2)) {C1 : ((Int32 × mz_N × Bool × Nat) ⊕ (Bool × mz_N × Bool × Nat)) → Prop} (hc1 : ∀ s2, C1 (.inl s2) → mz_G (d, mz_X0 L xs, some .boolean, [], mk_622, 8, Q) 35 mt_622_35 [(0, .ref 1002), (1, .ref 0), (2, .ref 232), (3, .ref 342), (4, .int s2.1)] [] false (mz_k S R s2.2.1 s2.2.2.1 s2.2.2.2)) (hx1 : ∀ z, C1 (.inr z) → C0 z) (hp : cp_622_2662 L xs v4 N b t) (hC : C1 (cf_622_2662 L xs v4 N b t)) : mz_G (d, mz_X0 L xs, some .boolean, [], mk_622, 8, Q) 2662 mt_622_2662 [(0, .ref 1002), (1, .ref 0), (2, .ref 232), (3, .ref 342), (4, .int v4)] [] false (mz_k S R N b t) := by
  unfold cf_622_2662 at hC
  unfold cp_622_2662 at hp
  refine g_goto (tg := 4500) rfl ms_622_4500 ?_
  refine g_weak ?_ (g_cl (cg_622_4500 hd hS hR L xs v4 N b t hr hc1 hx1 hp hC))
  exact ⟨rfl, rfl, rfl, rfl, rfl, trivial⟩
theorem cg_622_2616 (hd : 12 ≤ d) (hS : mz_extR S 343) (hR : mz_rok R 343) (L : Nat) (xs : Nat → Int32) (v4 : Int32) (v5 : Int32) (N : mz_N) (b : Bool) (t : Nat) {C0 : (Bool × mz_N × Bool × Nat) → Prop} (hr : ∀ (w : Bool) (N2 : mz_N) (b2 : Bool) (t2 : Nat), C0 (w, N2, b2, t2) → Q (.inl (some (.int (mz_b01 w)))) (mz_k S R N2 b2 t2)) {C1 : ((Int32 × mz_N × Bool × Nat) ⊕ (Bool × mz_N × Bool × Nat)) → Prop} (hc1 : ∀ s2, C1 (.inl s2) → mz_G (d, mz_X0 L xs, some .boolean, [], mk_622, 8, Q) 35 mt_622_35 [(0, .ref 1002), (1, .ref 0), (2, .ref 232), (3, .ref 342), (4, .int s2.1)] [] false (mz_k S R s2.2.1 s2.2.2.1 s2.2.2.2)) (hx1 : ∀ z, C1 (.inr z) → C0 z) (hp : cp_622_2616 L xs v4 v5 N b t) (hC : C1 (cf_622_2616 L xs v4 v5 N b t)) : mz_G (d, mz_X0 L xs, some .boolean, [], mk_622, 8, Q) 2616 mt_622_2616 [(0, .ref 1002), (1, .ref 0), (2, .ref 232), (3, .ref 342), (4, .int v4), (5, .int v5)] [] false (mz_k S R N b t) := by
  unfold cf_622_2616 at hC
  unfold cp_622_2616 at hp
  refine g_aload_n rfl (g_aload_n rfl (g_iload rfl (g_iconst mzi_1 (g_iadd ?_))))
  obtain ⟨h1, hp⟩ := hp
  refine g_iald1002 h1 (g_aload_n rfl (g_iload rfl (g_iconst mzi_2 (g_iadd ?_))))
  obtain ⟨h2, hp⟩ := hp
  refine g_iald1002 h2 ?_
  obtain ⟨h3, hp⟩ := hp
  refine g_v3v (Nat.le_of_ble_eq_true rfl) (mz_at hS (Nat.le_of_ble_eq_true rfl) mzcS_232) (fun _ hq => cs_546 (Nat.le_trans (Nat.le_of_ble_eq_true rfl) hd) (hS.le (Nat.le_of_ble_eq_true rfl)) (hR.le (Nat.le_of_ble_eq_true rfl))  (xs (v4 + 1).toNatClampNeg) (xs (v4 + 2).toNatClampNeg) N h3 hq) (g_istore (Nat.le_of_ble_eq_true rfl) rfl (g_aload_n rfl ?_))
  refine g_v1v (Nat.le_of_ble_eq_true rfl) (mz_at hS (Nat.le_of_ble_eq_true rfl) mzcS_232) (fun _ hq => cs_459 (Nat.le_trans (Nat.le_of_ble_eq_true rfl) hd) (hS.le (Nat.le_of_ble_eq_true rfl)) (hR.le (Nat.le_of_ble_eq_true rfl))  ((cf_546_0 (xs (v4 + 1).toNatClampNeg) (xs (v4 + 2).toNatClampNeg) N).2) trivial hq) (g_iload rfl ?_)
  refine g_iceq (tg := 2645) rfl ms_622_2645 hC (fun h5 hC => ?_) (fun h5 hC => ?_)
  · have hp := hp.1 h5
    refine g_iload rfl ?_
    refine g_ifne (tg := 2662) rfl ms_622_2662 hC (fun h6 hC => ?_) (fun h6 hC => ?_)
    · have hp := hp.1 h6
      refine g_aload_n rfl (g_iconst mzi_0 (g_lald (mz_at hS (Nat.le_of_ble_eq_true rfl) mzcS_342) (mz_ibd (by decide)) (g_iload rfl (g_i2l (g_lcmp ?_)))))
      refine g_leq (tg := 2662) rfl ms_622_2662 hC (fun h7 hC => ?_) (fun h7 hC => ?_)
      · have hp := hp.1 h7
        refine g_weak ?_ (g_cl (cg_622_2662 hd hS hR L xs v4 ((cf_546_0 (xs (v4 + 1).toNatClampNeg) (xs (v4 + 2).toNatClampNeg) N).2) b t hr hc1 hx1 hp hC))
        exact ⟨rfl, rfl, rfl, rfl, rfl, trivial⟩
      · have hp := hp.2 h7
        refine g_iconst mzi_0 ?_
        exact g_zret (z := false) rfl (hr _ _ _ _ (hx1 _ hC))
    · have hp := hp.2 h6
      refine g_weak ?_ (g_cl (cg_622_2662 hd hS hR L xs v4 ((cf_546_0 (xs (v4 + 1).toNatClampNeg) (xs (v4 + 2).toNatClampNeg) N).2) b t hr hc1 hx1 hp hC))
      exact ⟨rfl, rfl, rfl, rfl, rfl, trivial⟩
  · have hp := hp.2 h5
    refine g_iconst mzi_0 ?_
    exact g_zret (z := false) rfl (hr _ _ _ _ (hx1 _ hC))
theorem cg_622_2412 (hd : 12 ≤ d) (hS : mz_extR S 343) (hR : mz_rok R 343) (L : Nat) (xs : Nat → Int32) (v4 : Int32) (N : mz_N) (b : Bool) (t : Nat) {C0 : (Bool × mz_N × Bool × Nat) → Prop} (hr : ∀ (w : Bool) (N2 : mz_N) (b2 : Bool) (t2 : Nat), C0 (w, N2, b2, t2) → Q (.inl (some (.int (mz_b01 w)))) (mz_k S R N2 b2 t2)) {C1 : ((Int32 × mz_N × Bool × Nat) ⊕ (Bool × mz_N × Bool × Nat)) → Prop} (hc1 : ∀ s2, C1 (.inl s2) → mz_G (d, mz_X0 L xs, some .boolean, [], mk_622, 8, Q) 35 mt_622_35 [(0, .ref 1002), (1, .ref 0), (2, .ref 232), (3, .ref 342), (4, .int s2.1)] [] false (mz_k S R s2.2.1 s2.2.2.1 s2.2.2.2)) (hx1 : ∀ z, C1 (.inr z) → C0 z) (hp : cp_622_2412 L xs v4 N b t) (hC : C1 (cf_622_2412 L xs v4 N b t)) : mz_G (d, mz_X0 L xs, some .boolean, [], mk_622, 8, Q) 2412 mt_622_2412 [(0, .ref 1002), (1, .ref 0), (2, .ref 232), (3, .ref 342), (4, .int v4)] [] false (mz_k S R N b t) := by
  unfold cf_622_2412 at hC
  unfold cp_622_2412 at hp
  refine g_goto (tg := 4500) rfl ms_622_4500 ?_
  refine g_weak ?_ (g_cl (cg_622_4500 hd hS hR L xs v4 N b t hr hc1 hx1 hp hC))
  exact ⟨rfl, rfl, rfl, rfl, rfl, trivial⟩
theorem cg_622_2385 (hd : 12 ≤ d) (hS : mz_extR S 343) (hR : mz_rok R 343) (L : Nat) (xs : Nat → Int32) (v4 : Int32) (v5 : Int32) (v6 : Int64) (N : mz_N) (b : Bool) (t : Nat) {C0 : (Bool × mz_N × Bool × Nat) → Prop} (hr : ∀ (w : Bool) (N2 : mz_N) (b2 : Bool) (t2 : Nat), C0 (w, N2, b2, t2) → Q (.inl (some (.int (mz_b01 w)))) (mz_k S R N2 b2 t2)) {C1 : ((Int32 × mz_N × Bool × Nat) ⊕ (Bool × mz_N × Bool × Nat)) → Prop} (hc1 : ∀ s2, C1 (.inl s2) → mz_G (d, mz_X0 L xs, some .boolean, [], mk_622, 8, Q) 35 mt_622_35 [(0, .ref 1002), (1, .ref 0), (2, .ref 232), (3, .ref 342), (4, .int s2.1)] [] false (mz_k S R s2.2.1 s2.2.2.1 s2.2.2.2)) (hx1 : ∀ z, C1 (.inr z) → C0 z) (hp : cp_622_2385 L xs v4 v5 v6 N b t) (hC : C1 (cf_622_2385 L xs v4 v5 v6 N b t)) : mz_G (d, mz_X0 L xs, some .boolean, [], mk_622, 8, Q) 2385 mt_622_2385 [(0, .ref 1002), (1, .ref 0), (2, .ref 232), (3, .ref 342), (4, .int v4), (5, .int v5), (6, .long v6)] [] false (mz_k S R N b t) := by
  unfold cf_622_2385 at hC
  unfold cp_622_2385 at hp
  refine g_aload_n rfl ?_
  refine g_v1v (Nat.le_of_ble_eq_true rfl) (mz_at hS (Nat.le_of_ble_eq_true rfl) mzcS_232) (fun _ hq => cs_459 (Nat.le_trans (Nat.le_of_ble_eq_true rfl) hd) (hS.le (Nat.le_of_ble_eq_true rfl)) (hR.le (Nat.le_of_ble_eq_true rfl))  N trivial hq) (g_iload rfl ?_)
  refine g_iceq (tg := 2396) rfl ms_622_2396 hC (fun h2 hC => ?_) (fun h2 hC => ?_)
  · have hp := hp.1 h2
    refine g_iload rfl ?_
    refine g_ifne (tg := 2412) rfl ms_622_2412 hC (fun h3 hC => ?_) (fun h3 hC => ?_)
    · have hp := hp.1 h3
      refine g_aload_n rfl (g_iconst mzi_0 (g_lald (mz_at hS (Nat.le_of_ble_eq_true rfl) mzcS_342) (mz_ibd (by decide)) (g_lload rfl (g_lcmp ?_))))
      refine g_leq (tg := 2412) rfl ms_622_2412 hC (fun h4 hC => ?_) (fun h4 hC => ?_)
      · have hp := hp.1 h4
        refine g_weak ?_ (g_cl (cg_622_2412 hd hS hR L xs v4 N b t hr hc1 hx1 hp hC))
        exact ⟨rfl, rfl, rfl, rfl, rfl, trivial⟩
      · have hp := hp.2 h4
        refine g_iconst mzi_0 ?_
        exact g_zret (z := false) rfl (hr _ _ _ _ (hx1 _ hC))
    · have hp := hp.2 h3
      refine g_weak ?_ (g_cl (cg_622_2412 hd hS hR L xs v4 N b t hr hc1 hx1 hp hC))
      exact ⟨rfl, rfl, rfl, rfl, rfl, trivial⟩
  · have hp := hp.2 h2
    refine g_iconst mzi_0 ?_
    exact g_zret (z := false) rfl (hr _ _ _ _ (hx1 _ hC))
theorem cg_622_2361 (hd : 12 ≤ d) (hS : mz_extR S 343) (hR : mz_rok R 343) (L : Nat) (xs : Nat → Int32) (v4 : Int32) (v5 : Int32) (N : mz_N) (b : Bool) (t : Nat) {C0 : (Bool × mz_N × Bool × Nat) → Prop} (hr : ∀ (w : Bool) (N2 : mz_N) (b2 : Bool) (t2 : Nat), C0 (w, N2, b2, t2) → Q (.inl (some (.int (mz_b01 w)))) (mz_k S R N2 b2 t2)) {C1 : ((Int32 × mz_N × Bool × Nat) ⊕ (Bool × mz_N × Bool × Nat)) → Prop} (hc1 : ∀ s2, C1 (.inl s2) → mz_G (d, mz_X0 L xs, some .boolean, [], mk_622, 8, Q) 35 mt_622_35 [(0, .ref 1002), (1, .ref 0), (2, .ref 232), (3, .ref 342), (4, .int s2.1)] [] false (mz_k S R s2.2.1 s2.2.2.1 s2.2.2.2)) (hx1 : ∀ z, C1 (.inr z) → C0 z) (hp : cp_622_2361 L xs v4 v5 N b t) (hC : C1 (cf_622_2361 L xs v4 v5 N b t)) : mz_G (d, mz_X0 L xs, some .boolean, [], mk_622, 8, Q) 2361 mt_622_2361 [(0, .ref 1002), (1, .ref 0), (2, .ref 232), (3, .ref 342), (4, .int v4), (5, .int v5)] [] false (mz_k S R N b t) := by
  unfold cf_622_2361 at hC
  unfold cp_622_2361 at hp
  refine g_aload_n rfl (g_aload_n rfl (g_iload rfl (g_iconst mzi_1 (g_iadd ?_))))
  obtain ⟨h1, hp⟩ := hp
  refine g_iald1002 h1 (g_aload_n rfl (g_iload rfl (g_iconst mzi_2 (g_iadd ?_))))
  obtain ⟨h2, hp⟩ := hp
  refine g_iald1002 h2 (g_aload_n rfl (g_iload rfl (g_iconst mzi_3 (g_iadd ?_))))
  obtain ⟨h3, hp⟩ := hp
  refine g_iald1002 h3 ?_
  obtain ⟨h4, hp⟩ := hp
  refine g_v4v (Nat.le_of_ble_eq_true rfl) (mz_at hS (Nat.le_of_ble_eq_true rfl) mzcS_232) (fun _ hq => cs_553 (Nat.le_trans (Nat.le_of_ble_eq_true rfl) hd) (hS.le (Nat.le_of_ble_eq_true rfl)) (hR.le (Nat.le_of_ble_eq_true rfl))  (xs (v4 + 1).toNatClampNeg) (xs (v4 + 2).toNatClampNeg) (xs (v4 + 3).toNatClampNeg) N h4 hq) (g_lstore (Nat.le_of_ble_eq_true rfl) rfl rfl ?_)
  refine g_weak ?_ (g_cl (cg_622_2385 hd hS hR L xs v4 v5 ((cf_553_0 (xs (v4 + 1).toNatClampNeg) (xs (v4 + 2).toNatClampNeg) (xs (v4 + 3).toNatClampNeg) N).1) ((cf_553_0 (xs (v4 + 1).toNatClampNeg) (xs (v4 + 2).toNatClampNeg) (xs (v4 + 3).toNatClampNeg) N).2) b t hr hc1 hx1 hp hC))
  exact ⟨rfl, rfl, rfl, rfl, rfl, rfl, rfl, trivial⟩
theorem cg_622_2918 (hd : 12 ≤ d) (hS : mz_extR S 343) (hR : mz_rok R 343) (L : Nat) (xs : Nat → Int32) (v4 : Int32) (N : mz_N) (b : Bool) (t : Nat) {C0 : (Bool × mz_N × Bool × Nat) → Prop} (hr : ∀ (w : Bool) (N2 : mz_N) (b2 : Bool) (t2 : Nat), C0 (w, N2, b2, t2) → Q (.inl (some (.int (mz_b01 w)))) (mz_k S R N2 b2 t2)) {C1 : ((Int32 × mz_N × Bool × Nat) ⊕ (Bool × mz_N × Bool × Nat)) → Prop} (hc1 : ∀ s2, C1 (.inl s2) → mz_G (d, mz_X0 L xs, some .boolean, [], mk_622, 8, Q) 35 mt_622_35 [(0, .ref 1002), (1, .ref 0), (2, .ref 232), (3, .ref 342), (4, .int s2.1)] [] false (mz_k S R s2.2.1 s2.2.2.1 s2.2.2.2)) (hx1 : ∀ z, C1 (.inr z) → C0 z) (hp : cp_622_2918 L xs v4 N b t) (hC : C1 (cf_622_2918 L xs v4 N b t)) : mz_G (d, mz_X0 L xs, some .boolean, [], mk_622, 8, Q) 2918 mt_622_2918 [(0, .ref 1002), (1, .ref 0), (2, .ref 232), (3, .ref 342), (4, .int v4)] [] false (mz_k S R N b t) := by
  unfold cf_622_2918 at hC
  unfold cp_622_2918 at hp
  refine g_goto (tg := 4500) rfl ms_622_4500 ?_
  refine g_weak ?_ (g_cl (cg_622_4500 hd hS hR L xs v4 N b t hr hc1 hx1 hp hC))
  exact ⟨rfl, rfl, rfl, rfl, rfl, trivial⟩
theorem cg_622_2872 (hd : 12 ≤ d) (hS : mz_extR S 343) (hR : mz_rok R 343) (L : Nat) (xs : Nat → Int32) (v4 : Int32) (v5 : Int32) (N : mz_N) (b : Bool) (t : Nat) {C0 : (Bool × mz_N × Bool × Nat) → Prop} (hr : ∀ (w : Bool) (N2 : mz_N) (b2 : Bool) (t2 : Nat), C0 (w, N2, b2, t2) → Q (.inl (some (.int (mz_b01 w)))) (mz_k S R N2 b2 t2)) {C1 : ((Int32 × mz_N × Bool × Nat) ⊕ (Bool × mz_N × Bool × Nat)) → Prop} (hc1 : ∀ s2, C1 (.inl s2) → mz_G (d, mz_X0 L xs, some .boolean, [], mk_622, 8, Q) 35 mt_622_35 [(0, .ref 1002), (1, .ref 0), (2, .ref 232), (3, .ref 342), (4, .int s2.1)] [] false (mz_k S R s2.2.1 s2.2.2.1 s2.2.2.2)) (hx1 : ∀ z, C1 (.inr z) → C0 z) (hp : cp_622_2872 L xs v4 v5 N b t) (hC : C1 (cf_622_2872 L xs v4 v5 N b t)) : mz_G (d, mz_X0 L xs, some .boolean, [], mk_622, 8, Q) 2872 mt_622_2872 [(0, .ref 1002), (1, .ref 0), (2, .ref 232), (3, .ref 342), (4, .int v4), (5, .int v5)] [] false (mz_k S R N b t) := by
  unfold cf_622_2872 at hC
  unfold cp_622_2872 at hp
  refine g_aload_n rfl (g_aload_n rfl (g_iload rfl (g_iconst mzi_1 (g_iadd ?_))))
  obtain ⟨h1, hp⟩ := hp
  refine g_iald1002 h1 (g_aload_n rfl (g_iload rfl (g_iconst mzi_2 (g_iadd ?_))))
  obtain ⟨h2, hp⟩ := hp
  refine g_iald1002 h2 ?_
  obtain ⟨h3, hp⟩ := hp
  refine g_v3v (Nat.le_of_ble_eq_true rfl) (mz_at hS (Nat.le_of_ble_eq_true rfl) mzcS_232) (fun _ hq => cs_578 (Nat.le_trans (Nat.le_of_ble_eq_true rfl) hd) (hS.le (Nat.le_of_ble_eq_true rfl)) (hR.le (Nat.le_of_ble_eq_true rfl))  (xs (v4 + 1).toNatClampNeg) (xs (v4 + 2).toNatClampNeg) N h3 hq) (g_istore (Nat.le_of_ble_eq_true rfl) rfl (g_aload_n rfl ?_))
  refine g_v1v (Nat.le_of_ble_eq_true rfl) (mz_at hS (Nat.le_of_ble_eq_true rfl) mzcS_232) (fun _ hq => cs_459 (Nat.le_trans (Nat.le_of_ble_eq_true rfl) hd) (hS.le (Nat.le_of_ble_eq_true rfl)) (hR.le (Nat.le_of_ble_eq_true rfl))  ((cf_578_0 (xs (v4 + 1).toNatClampNeg) (xs (v4 + 2).toNatClampNeg) N).2) trivial hq) (g_iload rfl ?_)
  refine g_iceq (tg := 2901) rfl ms_622_2901 hC (fun h5 hC => ?_) (fun h5 hC => ?_)
  · have hp := hp.1 h5
    refine g_iload rfl ?_
    refine g_ifne (tg := 2918) rfl ms_622_2918 hC (fun h6 hC => ?_) (fun h6 hC => ?_)
    · have hp := hp.1 h6
      refine g_aload_n rfl (g_iconst mzi_0 (g_lald (mz_at hS (Nat.le_of_ble_eq_true rfl) mzcS_342) (mz_ibd (by decide)) (g_iload rfl (g_i2l (g_lcmp ?_)))))
      refine g_leq (tg := 2918) rfl ms_622_2918 hC (fun h7 hC => ?_) (fun h7 hC => ?_)
      · have hp := hp.1 h7
        refine g_weak ?_ (g_cl (cg_622_2918 hd hS hR L xs v4 ((cf_578_0 (xs (v4 + 1).toNatClampNeg) (xs (v4 + 2).toNatClampNeg) N).2) b t hr hc1 hx1 hp hC))
        exact ⟨rfl, rfl, rfl, rfl, rfl, trivial⟩
      · have hp := hp.2 h7
        refine g_iconst mzi_0 ?_
        exact g_zret (z := false) rfl (hr _ _ _ _ (hx1 _ hC))
    · have hp := hp.2 h6
      refine g_weak ?_ (g_cl (cg_622_2918 hd hS hR L xs v4 ((cf_578_0 (xs (v4 + 1).toNatClampNeg) (xs (v4 + 2).toNatClampNeg) N).2) b t hr hc1 hx1 hp hC))
      exact ⟨rfl, rfl, rfl, rfl, rfl, trivial⟩
  · have hp := hp.2 h5
    refine g_iconst mzi_0 ?_
    exact g_zret (z := false) rfl (hr _ _ _ _ (hx1 _ hC))
theorem cg_622_3943 (hd : 12 ≤ d) (hS : mz_extR S 343) (hR : mz_rok R 343) (L : Nat) (xs : Nat → Int32) (v4 : Int32) (N : mz_N) (b : Bool) (t : Nat) {C0 : (Bool × mz_N × Bool × Nat) → Prop} (hr : ∀ (w : Bool) (N2 : mz_N) (b2 : Bool) (t2 : Nat), C0 (w, N2, b2, t2) → Q (.inl (some (.int (mz_b01 w)))) (mz_k S R N2 b2 t2)) {C1 : ((Int32 × mz_N × Bool × Nat) ⊕ (Bool × mz_N × Bool × Nat)) → Prop} (hc1 : ∀ s2, C1 (.inl s2) → mz_G (d, mz_X0 L xs, some .boolean, [], mk_622, 8, Q) 35 mt_622_35 [(0, .ref 1002), (1, .ref 0), (2, .ref 232), (3, .ref 342), (4, .int s2.1)] [] false (mz_k S R s2.2.1 s2.2.2.1 s2.2.2.2)) (hx1 : ∀ z, C1 (.inr z) → C0 z) (hp : cp_622_3943 L xs v4 N b t) (hC : C1 (cf_622_3943 L xs v4 N b t)) : mz_G (d, mz_X0 L xs, some .boolean, [], mk_622, 8, Q) 3943 mt_622_3943 [(0, .ref 1002), (1, .ref 0), (2, .ref 232), (3, .ref 342), (4, .int v4)] [] false (mz_k S R N b t) := by
  unfold cf_622_3943 at hC
  unfold cp_622_3943 at hp
  refine g_goto (tg := 4500) rfl ms_622_4500 ?_
  refine g_weak ?_ (g_cl (cg_622_4500 hd hS hR L xs v4 N b t hr hc1 hx1 hp hC))
  exact ⟨rfl, rfl, rfl, rfl, rfl, trivial⟩
theorem cg_622_3897 (hd : 12 ≤ d) (hS : mz_extR S 343) (hR : mz_rok R 343) (L : Nat) (xs : Nat → Int32) (v4 : Int32) (v5 : Int32) (N : mz_N) (b : Bool) (t : Nat) {C0 : (Bool × mz_N × Bool × Nat) → Prop} (hr : ∀ (w : Bool) (N2 : mz_N) (b2 : Bool) (t2 : Nat), C0 (w, N2, b2, t2) → Q (.inl (some (.int (mz_b01 w)))) (mz_k S R N2 b2 t2)) {C1 : ((Int32 × mz_N × Bool × Nat) ⊕ (Bool × mz_N × Bool × Nat)) → Prop} (hc1 : ∀ s2, C1 (.inl s2) → mz_G (d, mz_X0 L xs, some .boolean, [], mk_622, 8, Q) 35 mt_622_35 [(0, .ref 1002), (1, .ref 0), (2, .ref 232), (3, .ref 342), (4, .int s2.1)] [] false (mz_k S R s2.2.1 s2.2.2.1 s2.2.2.2)) (hx1 : ∀ z, C1 (.inr z) → C0 z) (hp : cp_622_3897 L xs v4 v5 N b t) (hC : C1 (cf_622_3897 L xs v4 v5 N b t)) : mz_G (d, mz_X0 L xs, some .boolean, [], mk_622, 8, Q) 3897 mt_622_3897 [(0, .ref 1002), (1, .ref 0), (2, .ref 232), (3, .ref 342), (4, .int v4), (5, .int v5)] [] false (mz_k S R N b t) := by
  unfold cf_622_3897 at hC
  unfold cp_622_3897 at hp
  refine g_aload_n rfl (g_aload_n rfl (g_iload rfl (g_iconst mzi_1 (g_iadd ?_))))
  obtain ⟨h1, hp⟩ := hp
  refine g_iald1002 h1 (g_aload_n rfl (g_iload rfl (g_iconst mzi_2 (g_iadd ?_))))
  obtain ⟨h2, hp⟩ := hp
  refine g_iald1002 h2 ?_
  obtain ⟨h3, hp⟩ := hp
  refine g_v3v (Nat.le_of_ble_eq_true rfl) (mz_at hS (Nat.le_of_ble_eq_true rfl) mzcS_232) (fun _ hq => cs_589 (Nat.le_trans (Nat.le_of_ble_eq_true rfl) hd) (hS.le (Nat.le_of_ble_eq_true rfl)) (hR.le (Nat.le_of_ble_eq_true rfl))  (xs (v4 + 1).toNatClampNeg) (xs (v4 + 2).toNatClampNeg) N h3 hq) (g_istore (Nat.le_of_ble_eq_true rfl) rfl (g_aload_n rfl ?_))
  refine g_v1v (Nat.le_of_ble_eq_true rfl) (mz_at hS (Nat.le_of_ble_eq_true rfl) mzcS_232) (fun _ hq => cs_459 (Nat.le_trans (Nat.le_of_ble_eq_true rfl) hd) (hS.le (Nat.le_of_ble_eq_true rfl)) (hR.le (Nat.le_of_ble_eq_true rfl))  ((cf_589_0 (xs (v4 + 1).toNatClampNeg) (xs (v4 + 2).toNatClampNeg) N).2) trivial hq) (g_iload rfl ?_)
  refine g_iceq (tg := 3926) rfl ms_622_3926 hC (fun h5 hC => ?_) (fun h5 hC => ?_)
  · have hp := hp.1 h5
    refine g_iload rfl ?_
    refine g_ifne (tg := 3943) rfl ms_622_3943 hC (fun h6 hC => ?_) (fun h6 hC => ?_)
    · have hp := hp.1 h6
      refine g_aload_n rfl (g_iconst mzi_0 (g_lald (mz_at hS (Nat.le_of_ble_eq_true rfl) mzcS_342) (mz_ibd (by decide)) (g_iload rfl (g_i2l (g_lcmp ?_)))))
      refine g_leq (tg := 3943) rfl ms_622_3943 hC (fun h7 hC => ?_) (fun h7 hC => ?_)
      · have hp := hp.1 h7
        refine g_weak ?_ (g_cl (cg_622_3943 hd hS hR L xs v4 ((cf_589_0 (xs (v4 + 1).toNatClampNeg) (xs (v4 + 2).toNatClampNeg) N).2) b t hr hc1 hx1 hp hC))
        exact ⟨rfl, rfl, rfl, rfl, rfl, trivial⟩
      · have hp := hp.2 h7
        refine g_iconst mzi_0 ?_
        exact g_zret (z := false) rfl (hr _ _ _ _ (hx1 _ hC))
    · have hp := hp.2 h6
      refine g_weak ?_ (g_cl (cg_622_3943 hd hS hR L xs v4 ((cf_589_0 (xs (v4 + 1).toNatClampNeg) (xs (v4 + 2).toNatClampNeg) N).2) b t hr hc1 hx1 hp hC))
      exact ⟨rfl, rfl, rfl, rfl, rfl, trivial⟩
  · have hp := hp.2 h5
    refine g_iconst mzi_0 ?_
    exact g_zret (z := false) rfl (hr _ _ _ _ (hx1 _ hC))
theorem cg_622_627 (hd : 12 ≤ d) (hS : mz_extR S 343) (hR : mz_rok R 343) (L : Nat) (xs : Nat → Int32) (v4 : Int32) (N : mz_N) (b : Bool) (t : Nat) {C0 : (Bool × mz_N × Bool × Nat) → Prop} (hr : ∀ (w : Bool) (N2 : mz_N) (b2 : Bool) (t2 : Nat), C0 (w, N2, b2, t2) → Q (.inl (some (.int (mz_b01 w)))) (mz_k S R N2 b2 t2)) {C1 : ((Int32 × mz_N × Bool × Nat) ⊕ (Bool × mz_N × Bool × Nat)) → Prop} (hc1 : ∀ s2, C1 (.inl s2) → mz_G (d, mz_X0 L xs, some .boolean, [], mk_622, 8, Q) 35 mt_622_35 [(0, .ref 1002), (1, .ref 0), (2, .ref 232), (3, .ref 342), (4, .int s2.1)] [] false (mz_k S R s2.2.1 s2.2.2.1 s2.2.2.2)) (hx1 : ∀ z, C1 (.inr z) → C0 z) (hp : cp_622_627 L xs v4 N b t) (hC : C1 (cf_622_627 L xs v4 N b t)) : mz_G (d, mz_X0 L xs, some .boolean, [], mk_622, 8, Q) 627 mt_622_627 [(0, .ref 1002), (1, .ref 0), (2, .ref 232), (3, .ref 342), (4, .int v4)] [] false (mz_k S R N b t) := by
  unfold cf_622_627 at hC
  unfold cp_622_627 at hp
  refine g_goto (tg := 4500) rfl ms_622_4500 ?_
  refine g_weak ?_ (g_cl (cg_622_4500 hd hS hR L xs v4 N b t hr hc1 hx1 hp hC))
  exact ⟨rfl, rfl, rfl, rfl, rfl, trivial⟩
theorem cg_622_581 (hd : 12 ≤ d) (hS : mz_extR S 343) (hR : mz_rok R 343) (L : Nat) (xs : Nat → Int32) (v4 : Int32) (v5 : Int32) (N : mz_N) (b : Bool) (t : Nat) {C0 : (Bool × mz_N × Bool × Nat) → Prop} (hr : ∀ (w : Bool) (N2 : mz_N) (b2 : Bool) (t2 : Nat), C0 (w, N2, b2, t2) → Q (.inl (some (.int (mz_b01 w)))) (mz_k S R N2 b2 t2)) {C1 : ((Int32 × mz_N × Bool × Nat) ⊕ (Bool × mz_N × Bool × Nat)) → Prop} (hc1 : ∀ s2, C1 (.inl s2) → mz_G (d, mz_X0 L xs, some .boolean, [], mk_622, 8, Q) 35 mt_622_35 [(0, .ref 1002), (1, .ref 0), (2, .ref 232), (3, .ref 342), (4, .int s2.1)] [] false (mz_k S R s2.2.1 s2.2.2.1 s2.2.2.2)) (hx1 : ∀ z, C1 (.inr z) → C0 z) (hp : cp_622_581 L xs v4 v5 N b t) (hC : C1 (cf_622_581 L xs v4 v5 N b t)) : mz_G (d, mz_X0 L xs, some .boolean, [], mk_622, 8, Q) 581 mt_622_581 [(0, .ref 1002), (1, .ref 0), (2, .ref 232), (3, .ref 342), (4, .int v4), (5, .int v5)] [] false (mz_k S R N b t) := by
  unfold cf_622_581 at hC
  unfold cp_622_581 at hp
  refine g_aload_n rfl (g_aload_n rfl (g_iload rfl (g_iconst mzi_1 (g_iadd ?_))))
  obtain ⟨h1, hp⟩ := hp
  refine g_iald1002 h1 (g_aload_n rfl (g_iload rfl (g_iconst mzi_2 (g_iadd ?_))))
  obtain ⟨h2, hp⟩ := hp
  refine g_iald1002 h2 ?_
  obtain ⟨h3, hp⟩ := hp
  refine g_v3v (Nat.le_of_ble_eq_true rfl) (mz_at hS (Nat.le_of_ble_eq_true rfl) mzcS_232) (fun _ hq => cs_478 (Nat.le_trans (Nat.le_of_ble_eq_true rfl) hd) (hS.le (Nat.le_of_ble_eq_true rfl)) (hR.le (Nat.le_of_ble_eq_true rfl))  (xs (v4 + 1).toNatClampNeg) (xs (v4 + 2).toNatClampNeg) N h3 hq) (g_istore (Nat.le_of_ble_eq_true rfl) rfl (g_aload_n rfl ?_))
  refine g_v1v (Nat.le_of_ble_eq_true rfl) (mz_at hS (Nat.le_of_ble_eq_true rfl) mzcS_232) (fun _ hq => cs_459 (Nat.le_trans (Nat.le_of_ble_eq_true rfl) hd) (hS.le (Nat.le_of_ble_eq_true rfl)) (hR.le (Nat.le_of_ble_eq_true rfl))  ((cf_478_0 (xs (v4 + 1).toNatClampNeg) (xs (v4 + 2).toNatClampNeg) N).2) trivial hq) (g_iload rfl ?_)
  refine g_iceq (tg := 610) rfl ms_622_610 hC (fun h5 hC => ?_) (fun h5 hC => ?_)
  · have hp := hp.1 h5
    refine g_iload rfl ?_
    refine g_ifne (tg := 627) rfl ms_622_627 hC (fun h6 hC => ?_) (fun h6 hC => ?_)
    · have hp := hp.1 h6
      refine g_aload_n rfl (g_iconst mzi_0 (g_lald (mz_at hS (Nat.le_of_ble_eq_true rfl) mzcS_342) (mz_ibd (by decide)) (g_iload rfl (g_i2l (g_lcmp ?_)))))
      refine g_leq (tg := 627) rfl ms_622_627 hC (fun h7 hC => ?_) (fun h7 hC => ?_)
      · have hp := hp.1 h7
        refine g_weak ?_ (g_cl (cg_622_627 hd hS hR L xs v4 ((cf_478_0 (xs (v4 + 1).toNatClampNeg) (xs (v4 + 2).toNatClampNeg) N).2) b t hr hc1 hx1 hp hC))
        exact ⟨rfl, rfl, rfl, rfl, rfl, trivial⟩
      · have hp := hp.2 h7
        refine g_iconst mzi_0 ?_
        exact g_zret (z := false) rfl (hr _ _ _ _ (hx1 _ hC))
    · have hp := hp.2 h6
      refine g_weak ?_ (g_cl (cg_622_627 hd hS hR L xs v4 ((cf_478_0 (xs (v4 + 1).toNatClampNeg) (xs (v4 + 2).toNatClampNeg) N).2) b t hr hc1 hx1 hp hC))
      exact ⟨rfl, rfl, rfl, rfl, rfl, trivial⟩
  · have hp := hp.2 h5
    refine g_iconst mzi_0 ?_
    exact g_zret (z := false) rfl (hr _ _ _ _ (hx1 _ hC))
theorem cg_622_2146 (hd : 12 ≤ d) (hS : mz_extR S 343) (hR : mz_rok R 343) (L : Nat) (xs : Nat → Int32) (v4 : Int32) (N : mz_N) (b : Bool) (t : Nat) {C0 : (Bool × mz_N × Bool × Nat) → Prop} (hr : ∀ (w : Bool) (N2 : mz_N) (b2 : Bool) (t2 : Nat), C0 (w, N2, b2, t2) → Q (.inl (some (.int (mz_b01 w)))) (mz_k S R N2 b2 t2)) {C1 : ((Int32 × mz_N × Bool × Nat) ⊕ (Bool × mz_N × Bool × Nat)) → Prop} (hc1 : ∀ s2, C1 (.inl s2) → mz_G (d, mz_X0 L xs, some .boolean, [], mk_622, 8, Q) 35 mt_622_35 [(0, .ref 1002), (1, .ref 0), (2, .ref 232), (3, .ref 342), (4, .int s2.1)] [] false (mz_k S R s2.2.1 s2.2.2.1 s2.2.2.2)) (hx1 : ∀ z, C1 (.inr z) → C0 z) (hp : cp_622_2146 L xs v4 N b t) (hC : C1 (cf_622_2146 L xs v4 N b t)) : mz_G (d, mz_X0 L xs, some .boolean, [], mk_622, 8, Q) 2146 mt_622_2146 [(0, .ref 1002), (1, .ref 0), (2, .ref 232), (3, .ref 342), (4, .int v4)] [] false (mz_k S R N b t) := by
  unfold cf_622_2146 at hC
  unfold cp_622_2146 at hp
  refine g_goto (tg := 4500) rfl ms_622_4500 ?_
  refine g_weak ?_ (g_cl (cg_622_4500 hd hS hR L xs v4 N b t hr hc1 hx1 hp hC))
  exact ⟨rfl, rfl, rfl, rfl, rfl, trivial⟩
theorem cg_622_2118 (hd : 12 ≤ d) (hS : mz_extR S 343) (hR : mz_rok R 343) (L : Nat) (xs : Nat → Int32) (v4 : Int32) (v5 : Int32) (v6 : Int32) (N : mz_N) (b : Bool) (t : Nat) {C0 : (Bool × mz_N × Bool × Nat) → Prop} (hr : ∀ (w : Bool) (N2 : mz_N) (b2 : Bool) (t2 : Nat), C0 (w, N2, b2, t2) → Q (.inl (some (.int (mz_b01 w)))) (mz_k S R N2 b2 t2)) {C1 : ((Int32 × mz_N × Bool × Nat) ⊕ (Bool × mz_N × Bool × Nat)) → Prop} (hc1 : ∀ s2, C1 (.inl s2) → mz_G (d, mz_X0 L xs, some .boolean, [], mk_622, 8, Q) 35 mt_622_35 [(0, .ref 1002), (1, .ref 0), (2, .ref 232), (3, .ref 342), (4, .int s2.1)] [] false (mz_k S R s2.2.1 s2.2.2.1 s2.2.2.2)) (hx1 : ∀ z, C1 (.inr z) → C0 z) (hp : cp_622_2118 L xs v4 v5 v6 N b t) (hC : C1 (cf_622_2118 L xs v4 v5 v6 N b t)) : mz_G (d, mz_X0 L xs, some .boolean, [], mk_622, 8, Q) 2118 mt_622_2118 [(0, .ref 1002), (1, .ref 0), (2, .ref 232), (3, .ref 342), (4, .int v4), (5, .int v5), (6, .int v6)] [] false (mz_k S R N b t) := by
  unfold cf_622_2118 at hC
  unfold cp_622_2118 at hp
  refine g_aload_n rfl ?_
  refine g_v1v (Nat.le_of_ble_eq_true rfl) (mz_at hS (Nat.le_of_ble_eq_true rfl) mzcS_232) (fun _ hq => cs_459 (Nat.le_trans (Nat.le_of_ble_eq_true rfl) hd) (hS.le (Nat.le_of_ble_eq_true rfl)) (hR.le (Nat.le_of_ble_eq_true rfl))  N trivial hq) (g_iload rfl ?_)
  refine g_iceq (tg := 2129) rfl ms_622_2129 hC (fun h2 hC => ?_) (fun h2 hC => ?_)
  · have hp := hp.1 h2
    refine g_iload rfl ?_
    refine g_ifne (tg := 2146) rfl ms_622_2146 hC (fun h3 hC => ?_) (fun h3 hC => ?_)
    · have hp := hp.1 h3
      refine g_aload_n rfl (g_iconst mzi_0 (g_lald (mz_at hS (Nat.le_of_ble_eq_true rfl) mzcS_342) (mz_ibd (by decide)) (g_iload rfl (g_i2l (g_lcmp ?_)))))
      refine g_leq (tg := 2146) rfl ms_622_2146 hC (fun h4 hC => ?_) (fun h4 hC => ?_)
      · have hp := hp.1 h4
        refine g_weak ?_ (g_cl (cg_622_2146 hd hS hR L xs v4 N b t hr hc1 hx1 hp hC))
        exact ⟨rfl, rfl, rfl, rfl, rfl, trivial⟩
      · have hp := hp.2 h4
        refine g_iconst mzi_0 ?_
        exact g_zret (z := false) rfl (hr _ _ _ _ (hx1 _ hC))
    · have hp := hp.2 h3
      refine g_weak ?_ (g_cl (cg_622_2146 hd hS hR L xs v4 N b t hr hc1 hx1 hp hC))
      exact ⟨rfl, rfl, rfl, rfl, rfl, trivial⟩
  · have hp := hp.2 h2
    refine g_iconst mzi_0 ?_
    exact g_zret (z := false) rfl (hr _ _ _ _ (hx1 _ hC))
theorem cg_622_1403 (hd : 12 ≤ d) (hS : mz_extR S 343) (hR : mz_rok R 343) (L : Nat) (xs : Nat → Int32) (v4 : Int32) (N : mz_N) (b : Bool) (t : Nat) {C0 : (Bool × mz_N × Bool × Nat) → Prop} (hr : ∀ (w : Bool) (N2 : mz_N) (b2 : Bool) (t2 : Nat), C0 (w, N2, b2, t2) → Q (.inl (some (.int (mz_b01 w)))) (mz_k S R N2 b2 t2)) {C1 : ((Int32 × mz_N × Bool × Nat) ⊕ (Bool × mz_N × Bool × Nat)) → Prop} (hc1 : ∀ s2, C1 (.inl s2) → mz_G (d, mz_X0 L xs, some .boolean, [], mk_622, 8, Q) 35 mt_622_35 [(0, .ref 1002), (1, .ref 0), (2, .ref 232), (3, .ref 342), (4, .int s2.1)] [] false (mz_k S R s2.2.1 s2.2.2.1 s2.2.2.2)) (hx1 : ∀ z, C1 (.inr z) → C0 z) (hp : cp_622_1403 L xs v4 N b t) (hC : C1 (cf_622_1403 L xs v4 N b t)) : mz_G (d, mz_X0 L xs, some .boolean, [], mk_622, 8, Q) 1403 mt_622_1403 [(0, .ref 1002), (1, .ref 0), (2, .ref 232), (3, .ref 342), (4, .int v4)] [] false (mz_k S R N b t) := by
  unfold cf_622_1403 at hC
  unfold cp_622_1403 at hp
  refine g_goto (tg := 4500) rfl ms_622_4500 ?_
  refine g_weak ?_ (g_cl (cg_622_4500 hd hS hR L xs v4 N b t hr hc1 hx1 hp hC))
  exact ⟨rfl, rfl, rfl, rfl, rfl, trivial⟩
theorem cg_622_1357 (hd : 12 ≤ d) (hS : mz_extR S 343) (hR : mz_rok R 343) (L : Nat) (xs : Nat → Int32) (v4 : Int32) (v5 : Int32) (N : mz_N) (b : Bool) (t : Nat) {C0 : (Bool × mz_N × Bool × Nat) → Prop} (hr : ∀ (w : Bool) (N2 : mz_N) (b2 : Bool) (t2 : Nat), C0 (w, N2, b2, t2) → Q (.inl (some (.int (mz_b01 w)))) (mz_k S R N2 b2 t2)) {C1 : ((Int32 × mz_N × Bool × Nat) ⊕ (Bool × mz_N × Bool × Nat)) → Prop} (hc1 : ∀ s2, C1 (.inl s2) → mz_G (d, mz_X0 L xs, some .boolean, [], mk_622, 8, Q) 35 mt_622_35 [(0, .ref 1002), (1, .ref 0), (2, .ref 232), (3, .ref 342), (4, .int s2.1)] [] false (mz_k S R s2.2.1 s2.2.2.1 s2.2.2.2)) (hx1 : ∀ z, C1 (.inr z) → C0 z) (hp : cp_622_1357 L xs v4 v5 N b t) (hC : C1 (cf_622_1357 L xs v4 v5 N b t)) : mz_G (d, mz_X0 L xs, some .boolean, [], mk_622, 8, Q) 1357 mt_622_1357 [(0, .ref 1002), (1, .ref 0), (2, .ref 232), (3, .ref 342), (4, .int v4), (5, .int v5)] [] false (mz_k S R N b t) := by
  unfold cf_622_1357 at hC
  unfold cp_622_1357 at hp
  refine g_aload_n rfl (g_aload_n rfl (g_iload rfl (g_iconst mzi_1 (g_iadd ?_))))
  obtain ⟨h1, hp⟩ := hp
  refine g_iald1002 h1 (g_aload_n rfl (g_iload rfl (g_iconst mzi_2 (g_iadd ?_))))
  obtain ⟨h2, hp⟩ := hp
  refine g_iald1002 h2 ?_
  obtain ⟨h3, hp⟩ := hp
  refine g_v3v (Nat.le_of_ble_eq_true rfl) (mz_at hS (Nat.le_of_ble_eq_true rfl) mzcS_232) (fun _ hq => cs_496 (Nat.le_trans (Nat.le_of_ble_eq_true rfl) hd) (hS.le (Nat.le_of_ble_eq_true rfl)) (hR.le (Nat.le_of_ble_eq_true rfl))  (xs (v4 + 1).toNatClampNeg) (xs (v4 + 2).toNatClampNeg) N h3 hq) (g_istore (Nat.le_of_ble_eq_true rfl) rfl (g_aload_n rfl ?_))
  refine g_v1v (Nat.le_of_ble_eq_true rfl) (mz_at hS (Nat.le_of_ble_eq_true rfl) mzcS_232) (fun _ hq => cs_459 (Nat.le_trans (Nat.le_of_ble_eq_true rfl) hd) (hS.le (Nat.le_of_ble_eq_true rfl)) (hR.le (Nat.le_of_ble_eq_true rfl))  ((cf_496_0 (xs (v4 + 1).toNatClampNeg) (xs (v4 + 2).toNatClampNeg) N).2) trivial hq) (g_iload rfl ?_)
  refine g_iceq (tg := 1386) rfl ms_622_1386 hC (fun h5 hC => ?_) (fun h5 hC => ?_)
  · have hp := hp.1 h5
    refine g_iload rfl ?_
    refine g_ifne (tg := 1403) rfl ms_622_1403 hC (fun h6 hC => ?_) (fun h6 hC => ?_)
    · have hp := hp.1 h6
      refine g_aload_n rfl (g_iconst mzi_0 (g_lald (mz_at hS (Nat.le_of_ble_eq_true rfl) mzcS_342) (mz_ibd (by decide)) (g_iload rfl (g_i2l (g_lcmp ?_)))))
      refine g_leq (tg := 1403) rfl ms_622_1403 hC (fun h7 hC => ?_) (fun h7 hC => ?_)
      · have hp := hp.1 h7
        refine g_weak ?_ (g_cl (cg_622_1403 hd hS hR L xs v4 ((cf_496_0 (xs (v4 + 1).toNatClampNeg) (xs (v4 + 2).toNatClampNeg) N).2) b t hr hc1 hx1 hp hC))
        exact ⟨rfl, rfl, rfl, rfl, rfl, trivial⟩
      · have hp := hp.2 h7
        refine g_iconst mzi_0 ?_
        exact g_zret (z := false) rfl (hr _ _ _ _ (hx1 _ hC))
    · have hp := hp.2 h6
      refine g_weak ?_ (g_cl (cg_622_1403 hd hS hR L xs v4 ((cf_496_0 (xs (v4 + 1).toNatClampNeg) (xs (v4 + 2).toNatClampNeg) N).2) b t hr hc1 hx1 hp hC))
      exact ⟨rfl, rfl, rfl, rfl, rfl, trivial⟩
  · have hp := hp.2 h5
    refine g_iconst mzi_0 ?_
    exact g_zret (z := false) rfl (hr _ _ _ _ (hx1 _ hC))
theorem cg_622_1899 (hd : 12 ≤ d) (hS : mz_extR S 343) (hR : mz_rok R 343) (L : Nat) (xs : Nat → Int32) (v4 : Int32) (N : mz_N) (b : Bool) (t : Nat) {C0 : (Bool × mz_N × Bool × Nat) → Prop} (hr : ∀ (w : Bool) (N2 : mz_N) (b2 : Bool) (t2 : Nat), C0 (w, N2, b2, t2) → Q (.inl (some (.int (mz_b01 w)))) (mz_k S R N2 b2 t2)) {C1 : ((Int32 × mz_N × Bool × Nat) ⊕ (Bool × mz_N × Bool × Nat)) → Prop} (hc1 : ∀ s2, C1 (.inl s2) → mz_G (d, mz_X0 L xs, some .boolean, [], mk_622, 8, Q) 35 mt_622_35 [(0, .ref 1002), (1, .ref 0), (2, .ref 232), (3, .ref 342), (4, .int s2.1)] [] false (mz_k S R s2.2.1 s2.2.2.1 s2.2.2.2)) (hx1 : ∀ z, C1 (.inr z) → C0 z) (hp : cp_622_1899 L xs v4 N b t) (hC : C1 (cf_622_1899 L xs v4 N b t)) : mz_G (d, mz_X0 L xs, some .boolean, [], mk_622, 8, Q) 1899 mt_622_1899 [(0, .ref 1002), (1, .ref 0), (2, .ref 232), (3, .ref 342), (4, .int v4)] [] false (mz_k S R N b t) := by
  unfold cf_622_1899 at hC
  unfold cp_622_1899 at hp
  refine g_goto (tg := 4500) rfl ms_622_4500 ?_
  refine g_weak ?_ (g_cl (cg_622_4500 hd hS hR L xs v4 N b t hr hc1 hx1 hp hC))
  exact ⟨rfl, rfl, rfl, rfl, rfl, trivial⟩
theorem cg_622_1871 (hd : 12 ≤ d) (hS : mz_extR S 343) (hR : mz_rok R 343) (L : Nat) (xs : Nat → Int32) (v4 : Int32) (v5 : Int32) (v6 : Int32) (N : mz_N) (b : Bool) (t : Nat) {C0 : (Bool × mz_N × Bool × Nat) → Prop} (hr : ∀ (w : Bool) (N2 : mz_N) (b2 : Bool) (t2 : Nat), C0 (w, N2, b2, t2) → Q (.inl (some (.int (mz_b01 w)))) (mz_k S R N2 b2 t2)) {C1 : ((Int32 × mz_N × Bool × Nat) ⊕ (Bool × mz_N × Bool × Nat)) → Prop} (hc1 : ∀ s2, C1 (.inl s2) → mz_G (d, mz_X0 L xs, some .boolean, [], mk_622, 8, Q) 35 mt_622_35 [(0, .ref 1002), (1, .ref 0), (2, .ref 232), (3, .ref 342), (4, .int s2.1)] [] false (mz_k S R s2.2.1 s2.2.2.1 s2.2.2.2)) (hx1 : ∀ z, C1 (.inr z) → C0 z) (hp : cp_622_1871 L xs v4 v5 v6 N b t) (hC : C1 (cf_622_1871 L xs v4 v5 v6 N b t)) : mz_G (d, mz_X0 L xs, some .boolean, [], mk_622, 8, Q) 1871 mt_622_1871 [(0, .ref 1002), (1, .ref 0), (2, .ref 232), (3, .ref 342), (4, .int v4), (5, .int v5), (6, .int v6)] [] false (mz_k S R N b t) := by
  unfold cf_622_1871 at hC
  unfold cp_622_1871 at hp
  refine g_aload_n rfl ?_
  refine g_v1v (Nat.le_of_ble_eq_true rfl) (mz_at hS (Nat.le_of_ble_eq_true rfl) mzcS_232) (fun _ hq => cs_459 (Nat.le_trans (Nat.le_of_ble_eq_true rfl) hd) (hS.le (Nat.le_of_ble_eq_true rfl)) (hR.le (Nat.le_of_ble_eq_true rfl))  N trivial hq) (g_iload rfl ?_)
  refine g_iceq (tg := 1882) rfl ms_622_1882 hC (fun h2 hC => ?_) (fun h2 hC => ?_)
  · have hp := hp.1 h2
    refine g_iload rfl ?_
    refine g_ifne (tg := 1899) rfl ms_622_1899 hC (fun h3 hC => ?_) (fun h3 hC => ?_)
    · have hp := hp.1 h3
      refine g_aload_n rfl (g_iconst mzi_0 (g_lald (mz_at hS (Nat.le_of_ble_eq_true rfl) mzcS_342) (mz_ibd (by decide)) (g_iload rfl (g_i2l (g_lcmp ?_)))))
      refine g_leq (tg := 1899) rfl ms_622_1899 hC (fun h4 hC => ?_) (fun h4 hC => ?_)
      · have hp := hp.1 h4
        refine g_weak ?_ (g_cl (cg_622_1899 hd hS hR L xs v4 N b t hr hc1 hx1 hp hC))
        exact ⟨rfl, rfl, rfl, rfl, rfl, trivial⟩
      · have hp := hp.2 h4
        refine g_iconst mzi_0 ?_
        exact g_zret (z := false) rfl (hr _ _ _ _ (hx1 _ hC))
    · have hp := hp.2 h3
      refine g_weak ?_ (g_cl (cg_622_1899 hd hS hR L xs v4 N b t hr hc1 hx1 hp hC))
      exact ⟨rfl, rfl, rfl, rfl, rfl, trivial⟩
  · have hp := hp.2 h2
    refine g_iconst mzi_0 ?_
    exact g_zret (z := false) rfl (hr _ _ _ _ (hx1 _ hC))
theorem cg_622_4185 (hd : 12 ≤ d) (hS : mz_extR S 343) (hR : mz_rok R 343) (L : Nat) (xs : Nat → Int32) (v4 : Int32) (N : mz_N) (b : Bool) (t : Nat) {C0 : (Bool × mz_N × Bool × Nat) → Prop} (hr : ∀ (w : Bool) (N2 : mz_N) (b2 : Bool) (t2 : Nat), C0 (w, N2, b2, t2) → Q (.inl (some (.int (mz_b01 w)))) (mz_k S R N2 b2 t2)) {C1 : ((Int32 × mz_N × Bool × Nat) ⊕ (Bool × mz_N × Bool × Nat)) → Prop} (hc1 : ∀ s2, C1 (.inl s2) → mz_G (d, mz_X0 L xs, some .boolean, [], mk_622, 8, Q) 35 mt_622_35 [(0, .ref 1002), (1, .ref 0), (2, .ref 232), (3, .ref 342), (4, .int s2.1)] [] false (mz_k S R s2.2.1 s2.2.2.1 s2.2.2.2)) (hx1 : ∀ z, C1 (.inr z) → C0 z) (hp : cp_622_4185 L xs v4 N b t) (hC : C1 (cf_622_4185 L xs v4 N b t)) : mz_G (d, mz_X0 L xs, some .boolean, [], mk_622, 8, Q) 4185 mt_622_4185 [(0, .ref 1002), (1, .ref 0), (2, .ref 232), (3, .ref 342), (4, .int v4)] [] false (mz_k S R N b t) := by
  unfold cf_622_4185 at hC
  unfold cp_622_4185 at hp
  refine g_goto (tg := 4500) rfl ms_622_4500 ?_
  refine g_weak ?_ (g_cl (cg_622_4500 hd hS hR L xs v4 N b t hr hc1 hx1 hp hC))
  exact ⟨rfl, rfl, rfl, rfl, rfl, trivial⟩
theorem cg_622_1175 (hd : 12 ≤ d) (hS : mz_extR S 343) (hR : mz_rok R 343) (L : Nat) (xs : Nat → Int32) (v4 : Int32) (N : mz_N) (b : Bool) (t : Nat) {C0 : (Bool × mz_N × Bool × Nat) → Prop} (hr : ∀ (w : Bool) (N2 : mz_N) (b2 : Bool) (t2 : Nat), C0 (w, N2, b2, t2) → Q (.inl (some (.int (mz_b01 w)))) (mz_k S R N2 b2 t2)) {C1 : ((Int32 × mz_N × Bool × Nat) ⊕ (Bool × mz_N × Bool × Nat)) → Prop} (hc1 : ∀ s2, C1 (.inl s2) → mz_G (d, mz_X0 L xs, some .boolean, [], mk_622, 8, Q) 35 mt_622_35 [(0, .ref 1002), (1, .ref 0), (2, .ref 232), (3, .ref 342), (4, .int s2.1)] [] false (mz_k S R s2.2.1 s2.2.2.1 s2.2.2.2)) (hx1 : ∀ z, C1 (.inr z) → C0 z) (hp : cp_622_1175 L xs v4 N b t) (hC : C1 (cf_622_1175 L xs v4 N b t)) : mz_G (d, mz_X0 L xs, some .boolean, [], mk_622, 8, Q) 1175 mt_622_1175 [(0, .ref 1002), (1, .ref 0), (2, .ref 232), (3, .ref 342), (4, .int v4)] [] false (mz_k S R N b t) := by
  unfold cf_622_1175 at hC
  unfold cp_622_1175 at hp
  refine g_goto (tg := 4500) rfl ms_622_4500 ?_
  refine g_weak ?_ (g_cl (cg_622_4500 hd hS hR L xs v4 N b t hr hc1 hx1 hp hC))
  exact ⟨rfl, rfl, rfl, rfl, rfl, trivial⟩
theorem cg_622_1147 (hd : 12 ≤ d) (hS : mz_extR S 343) (hR : mz_rok R 343) (L : Nat) (xs : Nat → Int32) (v4 : Int32) (v5 : Int32) (v6 : Int32) (N : mz_N) (b : Bool) (t : Nat) {C0 : (Bool × mz_N × Bool × Nat) → Prop} (hr : ∀ (w : Bool) (N2 : mz_N) (b2 : Bool) (t2 : Nat), C0 (w, N2, b2, t2) → Q (.inl (some (.int (mz_b01 w)))) (mz_k S R N2 b2 t2)) {C1 : ((Int32 × mz_N × Bool × Nat) ⊕ (Bool × mz_N × Bool × Nat)) → Prop} (hc1 : ∀ s2, C1 (.inl s2) → mz_G (d, mz_X0 L xs, some .boolean, [], mk_622, 8, Q) 35 mt_622_35 [(0, .ref 1002), (1, .ref 0), (2, .ref 232), (3, .ref 342), (4, .int s2.1)] [] false (mz_k S R s2.2.1 s2.2.2.1 s2.2.2.2)) (hx1 : ∀ z, C1 (.inr z) → C0 z) (hp : cp_622_1147 L xs v4 v5 v6 N b t) (hC : C1 (cf_622_1147 L xs v4 v5 v6 N b t)) : mz_G (d, mz_X0 L xs, some .boolean, [], mk_622, 8, Q) 1147 mt_622_1147 [(0, .ref 1002), (1, .ref 0), (2, .ref 232), (3, .ref 342), (4, .int v4), (5, .int v5), (6, .int v6)] [] false (mz_k S R N b t) := by
  unfold cf_622_1147 at hC
  unfold cp_622_1147 at hp
  refine g_aload_n rfl ?_
  refine g_v1v (Nat.le_of_ble_eq_true rfl) (mz_at hS (Nat.le_of_ble_eq_true rfl) mzcS_232) (fun _ hq => cs_459 (Nat.le_trans (Nat.le_of_ble_eq_true rfl) hd) (hS.le (Nat.le_of_ble_eq_true rfl)) (hR.le (Nat.le_of_ble_eq_true rfl))  N trivial hq) (g_iload rfl ?_)
  refine g_iceq (tg := 1158) rfl ms_622_1158 hC (fun h2 hC => ?_) (fun h2 hC => ?_)
  · have hp := hp.1 h2
    refine g_iload rfl ?_
    refine g_ifne (tg := 1175) rfl ms_622_1175 hC (fun h3 hC => ?_) (fun h3 hC => ?_)
    · have hp := hp.1 h3
      refine g_aload_n rfl (g_iconst mzi_0 (g_lald (mz_at hS (Nat.le_of_ble_eq_true rfl) mzcS_342) (mz_ibd (by decide)) (g_iload rfl (g_i2l (g_lcmp ?_)))))
      refine g_leq (tg := 1175) rfl ms_622_1175 hC (fun h4 hC => ?_) (fun h4 hC => ?_)
      · have hp := hp.1 h4
        refine g_weak ?_ (g_cl (cg_622_1175 hd hS hR L xs v4 N b t hr hc1 hx1 hp hC))
        exact ⟨rfl, rfl, rfl, rfl, rfl, trivial⟩
      · have hp := hp.2 h4
        refine g_iconst mzi_0 ?_
        exact g_zret (z := false) rfl (hr _ _ _ _ (hx1 _ hC))
    · have hp := hp.2 h3
      refine g_weak ?_ (g_cl (cg_622_1175 hd hS hR L xs v4 N b t hr hc1 hx1 hp hC))
      exact ⟨rfl, rfl, rfl, rfl, rfl, trivial⟩
  · have hp := hp.2 h2
    refine g_iconst mzi_0 ?_
    exact g_zret (z := false) rfl (hr _ _ _ _ (hx1 _ hC))
theorem cg_622_1123 (hd : 12 ≤ d) (hS : mz_extR S 343) (hR : mz_rok R 343) (L : Nat) (xs : Nat → Int32) (v4 : Int32) (v5 : Int32) (N : mz_N) (b : Bool) (t : Nat) {C0 : (Bool × mz_N × Bool × Nat) → Prop} (hr : ∀ (w : Bool) (N2 : mz_N) (b2 : Bool) (t2 : Nat), C0 (w, N2, b2, t2) → Q (.inl (some (.int (mz_b01 w)))) (mz_k S R N2 b2 t2)) {C1 : ((Int32 × mz_N × Bool × Nat) ⊕ (Bool × mz_N × Bool × Nat)) → Prop} (hc1 : ∀ s2, C1 (.inl s2) → mz_G (d, mz_X0 L xs, some .boolean, [], mk_622, 8, Q) 35 mt_622_35 [(0, .ref 1002), (1, .ref 0), (2, .ref 232), (3, .ref 342), (4, .int s2.1)] [] false (mz_k S R s2.2.1 s2.2.2.1 s2.2.2.2)) (hx1 : ∀ z, C1 (.inr z) → C0 z) (hp : cp_622_1123 L xs v4 v5 N b t) (hC : C1 (cf_622_1123 L xs v4 v5 N b t)) : mz_G (d, mz_X0 L xs, some .boolean, [], mk_622, 8, Q) 1123 mt_622_1123 [(0, .ref 1002), (1, .ref 0), (2, .ref 232), (3, .ref 342), (4, .int v4), (5, .int v5)] [] false (mz_k S R N b t) := by
  unfold cf_622_1123 at hC
  unfold cp_622_1123 at hp
  refine g_aload_n rfl (g_aload_n rfl (g_iload rfl (g_iconst mzi_1 (g_iadd ?_))))
  obtain ⟨h1, hp⟩ := hp
  refine g_iald1002 h1 (g_aload_n rfl (g_iload rfl (g_iconst mzi_2 (g_iadd ?_))))
  obtain ⟨h2, hp⟩ := hp
  refine g_iald1002 h2 (g_aload_n rfl (g_iload rfl (g_iconst mzi_3 (g_iadd ?_))))
  obtain ⟨h3, hp⟩ := hp
  refine g_iald1002 h3 ?_
  obtain ⟨h4, hp⟩ := hp
  refine g_v4v (Nat.le_of_ble_eq_true rfl) (mz_at hS (Nat.le_of_ble_eq_true rfl) mzcS_232) (fun _ hq => cs_492 (Nat.le_trans (Nat.le_of_ble_eq_true rfl) hd) (hS.le (Nat.le_of_ble_eq_true rfl)) (hR.le (Nat.le_of_ble_eq_true rfl))  (xs (v4 + 1).toNatClampNeg) (xs (v4 + 2).toNatClampNeg) (xs (v4 + 3).toNatClampNeg) N h4 hq) (g_istore (Nat.le_of_ble_eq_true rfl) rfl ?_)
  refine g_weak ?_ (g_cl (cg_622_1147 hd hS hR L xs v4 v5 ((cf_492_0 (xs (v4 + 1).toNatClampNeg) (xs (v4 + 2).toNatClampNeg) (xs (v4 + 3).toNatClampNeg) N).1) ((cf_492_0 (xs (v4 + 1).toNatClampNeg) (xs (v4 + 2).toNatClampNeg) (xs (v4 + 3).toNatClampNeg) N).2) b t hr hc1 hx1 hp hC))
  exact ⟨rfl, rfl, rfl, rfl, rfl, rfl, rfl, trivial⟩
theorem cg_622_385 (hd : 12 ≤ d) (hS : mz_extR S 343) (hR : mz_rok R 343) (L : Nat) (xs : Nat → Int32) (v4 : Int32) (N : mz_N) (b : Bool) (t : Nat) {C0 : (Bool × mz_N × Bool × Nat) → Prop} (hr : ∀ (w : Bool) (N2 : mz_N) (b2 : Bool) (t2 : Nat), C0 (w, N2, b2, t2) → Q (.inl (some (.int (mz_b01 w)))) (mz_k S R N2 b2 t2)) {C1 : ((Int32 × mz_N × Bool × Nat) ⊕ (Bool × mz_N × Bool × Nat)) → Prop} (hc1 : ∀ s2, C1 (.inl s2) → mz_G (d, mz_X0 L xs, some .boolean, [], mk_622, 8, Q) 35 mt_622_35 [(0, .ref 1002), (1, .ref 0), (2, .ref 232), (3, .ref 342), (4, .int s2.1)] [] false (mz_k S R s2.2.1 s2.2.2.1 s2.2.2.2)) (hx1 : ∀ z, C1 (.inr z) → C0 z) (hp : cp_622_385 L xs v4 N b t) (hC : C1 (cf_622_385 L xs v4 N b t)) : mz_G (d, mz_X0 L xs, some .boolean, [], mk_622, 8, Q) 385 mt_622_385 [(0, .ref 1002), (1, .ref 0), (2, .ref 232), (3, .ref 342), (4, .int v4)] [] false (mz_k S R N b t) := by
  unfold cf_622_385 at hC
  unfold cp_622_385 at hp
  refine g_goto (tg := 4500) rfl ms_622_4500 ?_
  refine g_weak ?_ (g_cl (cg_622_4500 hd hS hR L xs v4 N b t hr hc1 hx1 hp hC))
  exact ⟨rfl, rfl, rfl, rfl, rfl, trivial⟩
theorem cg_622_357 (hd : 12 ≤ d) (hS : mz_extR S 343) (hR : mz_rok R 343) (L : Nat) (xs : Nat → Int32) (v4 : Int32) (v5 : Int32) (v6 : Int32) (N : mz_N) (b : Bool) (t : Nat) {C0 : (Bool × mz_N × Bool × Nat) → Prop} (hr : ∀ (w : Bool) (N2 : mz_N) (b2 : Bool) (t2 : Nat), C0 (w, N2, b2, t2) → Q (.inl (some (.int (mz_b01 w)))) (mz_k S R N2 b2 t2)) {C1 : ((Int32 × mz_N × Bool × Nat) ⊕ (Bool × mz_N × Bool × Nat)) → Prop} (hc1 : ∀ s2, C1 (.inl s2) → mz_G (d, mz_X0 L xs, some .boolean, [], mk_622, 8, Q) 35 mt_622_35 [(0, .ref 1002), (1, .ref 0), (2, .ref 232), (3, .ref 342), (4, .int s2.1)] [] false (mz_k S R s2.2.1 s2.2.2.1 s2.2.2.2)) (hx1 : ∀ z, C1 (.inr z) → C0 z) (hp : cp_622_357 L xs v4 v5 v6 N b t) (hC : C1 (cf_622_357 L xs v4 v5 v6 N b t)) : mz_G (d, mz_X0 L xs, some .boolean, [], mk_622, 8, Q) 357 mt_622_357 [(0, .ref 1002), (1, .ref 0), (2, .ref 232), (3, .ref 342), (4, .int v4), (5, .int v5), (6, .int v6)] [] false (mz_k S R N b t) := by
  unfold cf_622_357 at hC
  unfold cp_622_357 at hp
  refine g_aload_n rfl ?_
  refine g_v1v (Nat.le_of_ble_eq_true rfl) (mz_at hS (Nat.le_of_ble_eq_true rfl) mzcS_232) (fun _ hq => cs_459 (Nat.le_trans (Nat.le_of_ble_eq_true rfl) hd) (hS.le (Nat.le_of_ble_eq_true rfl)) (hR.le (Nat.le_of_ble_eq_true rfl))  N trivial hq) (g_iload rfl ?_)
  refine g_iceq (tg := 368) rfl ms_622_368 hC (fun h2 hC => ?_) (fun h2 hC => ?_)
  · have hp := hp.1 h2
    refine g_iload rfl ?_
    refine g_ifne (tg := 385) rfl ms_622_385 hC (fun h3 hC => ?_) (fun h3 hC => ?_)
    · have hp := hp.1 h3
      refine g_aload_n rfl (g_iconst mzi_0 (g_lald (mz_at hS (Nat.le_of_ble_eq_true rfl) mzcS_342) (mz_ibd (by decide)) (g_iload rfl (g_i2l (g_lcmp ?_)))))
      refine g_leq (tg := 385) rfl ms_622_385 hC (fun h4 hC => ?_) (fun h4 hC => ?_)
      · have hp := hp.1 h4
        refine g_weak ?_ (g_cl (cg_622_385 hd hS hR L xs v4 N b t hr hc1 hx1 hp hC))
        exact ⟨rfl, rfl, rfl, rfl, rfl, trivial⟩
      · have hp := hp.2 h4
        refine g_iconst mzi_0 ?_
        exact g_zret (z := false) rfl (hr _ _ _ _ (hx1 _ hC))
    · have hp := hp.2 h3
      refine g_weak ?_ (g_cl (cg_622_385 hd hS hR L xs v4 N b t hr hc1 hx1 hp hC))
      exact ⟨rfl, rfl, rfl, rfl, rfl, trivial⟩
  · have hp := hp.2 h2
    refine g_iconst mzi_0 ?_
    exact g_zret (z := false) rfl (hr _ _ _ _ (hx1 _ hC))
theorem cg_622_4453 (hd : 12 ≤ d) (hS : mz_extR S 343) (hR : mz_rok R 343) (L : Nat) (xs : Nat → Int32) (v4 : Int32) (N : mz_N) (b : Bool) (t : Nat) {C0 : (Bool × mz_N × Bool × Nat) → Prop} (hr : ∀ (w : Bool) (N2 : mz_N) (b2 : Bool) (t2 : Nat), C0 (w, N2, b2, t2) → Q (.inl (some (.int (mz_b01 w)))) (mz_k S R N2 b2 t2)) {C1 : ((Int32 × mz_N × Bool × Nat) ⊕ (Bool × mz_N × Bool × Nat)) → Prop} (hc1 : ∀ s2, C1 (.inl s2) → mz_G (d, mz_X0 L xs, some .boolean, [], mk_622, 8, Q) 35 mt_622_35 [(0, .ref 1002), (1, .ref 0), (2, .ref 232), (3, .ref 342), (4, .int s2.1)] [] false (mz_k S R s2.2.1 s2.2.2.1 s2.2.2.2)) (hx1 : ∀ z, C1 (.inr z) → C0 z) (hp : cp_622_4453 L xs v4 N b t) (hC : C1 (cf_622_4453 L xs v4 N b t)) : mz_G (d, mz_X0 L xs, some .boolean, [], mk_622, 8, Q) 4453 mt_622_4453 [(0, .ref 1002), (1, .ref 0), (2, .ref 232), (3, .ref 342), (4, .int v4)] [] false (mz_k S R N b t) := by
  unfold cf_622_4453 at hC
  unfold cp_622_4453 at hp
  refine g_goto (tg := 4500) rfl ms_622_4500 ?_
  refine g_weak ?_ (g_cl (cg_622_4500 hd hS hR L xs v4 N b t hr hc1 hx1 hp hC))
  exact ⟨rfl, rfl, rfl, rfl, rfl, trivial⟩
theorem cg_622_1699 (hd : 12 ≤ d) (hS : mz_extR S 343) (hR : mz_rok R 343) (L : Nat) (xs : Nat → Int32) (v4 : Int32) (N : mz_N) (b : Bool) (t : Nat) {C0 : (Bool × mz_N × Bool × Nat) → Prop} (hr : ∀ (w : Bool) (N2 : mz_N) (b2 : Bool) (t2 : Nat), C0 (w, N2, b2, t2) → Q (.inl (some (.int (mz_b01 w)))) (mz_k S R N2 b2 t2)) {C1 : ((Int32 × mz_N × Bool × Nat) ⊕ (Bool × mz_N × Bool × Nat)) → Prop} (hc1 : ∀ s2, C1 (.inl s2) → mz_G (d, mz_X0 L xs, some .boolean, [], mk_622, 8, Q) 35 mt_622_35 [(0, .ref 1002), (1, .ref 0), (2, .ref 232), (3, .ref 342), (4, .int s2.1)] [] false (mz_k S R s2.2.1 s2.2.2.1 s2.2.2.2)) (hx1 : ∀ z, C1 (.inr z) → C0 z) (hp : cp_622_1699 L xs v4 N b t) (hC : C1 (cf_622_1699 L xs v4 N b t)) : mz_G (d, mz_X0 L xs, some .boolean, [], mk_622, 8, Q) 1699 mt_622_1699 [(0, .ref 1002), (1, .ref 0), (2, .ref 232), (3, .ref 342), (4, .int v4)] [] false (mz_k S R N b t) := by
  unfold cf_622_1699 at hC
  unfold cp_622_1699 at hp
  refine g_goto (tg := 4500) rfl ms_622_4500 ?_
  refine g_weak ?_ (g_cl (cg_622_4500 hd hS hR L xs v4 N b t hr hc1 hx1 hp hC))
  exact ⟨rfl, rfl, rfl, rfl, rfl, trivial⟩
theorem cg_622_1653 (hd : 12 ≤ d) (hS : mz_extR S 343) (hR : mz_rok R 343) (L : Nat) (xs : Nat → Int32) (v4 : Int32) (v5 : Int32) (N : mz_N) (b : Bool) (t : Nat) {C0 : (Bool × mz_N × Bool × Nat) → Prop} (hr : ∀ (w : Bool) (N2 : mz_N) (b2 : Bool) (t2 : Nat), C0 (w, N2, b2, t2) → Q (.inl (some (.int (mz_b01 w)))) (mz_k S R N2 b2 t2)) {C1 : ((Int32 × mz_N × Bool × Nat) ⊕ (Bool × mz_N × Bool × Nat)) → Prop} (hc1 : ∀ s2, C1 (.inl s2) → mz_G (d, mz_X0 L xs, some .boolean, [], mk_622, 8, Q) 35 mt_622_35 [(0, .ref 1002), (1, .ref 0), (2, .ref 232), (3, .ref 342), (4, .int s2.1)] [] false (mz_k S R s2.2.1 s2.2.2.1 s2.2.2.2)) (hx1 : ∀ z, C1 (.inr z) → C0 z) (hp : cp_622_1653 L xs v4 v5 N b t) (hC : C1 (cf_622_1653 L xs v4 v5 N b t)) : mz_G (d, mz_X0 L xs, some .boolean, [], mk_622, 8, Q) 1653 mt_622_1653 [(0, .ref 1002), (1, .ref 0), (2, .ref 232), (3, .ref 342), (4, .int v4), (5, .int v5)] [] false (mz_k S R N b t) := by
  unfold cf_622_1653 at hC
  unfold cp_622_1653 at hp
  refine g_aload_n rfl (g_aload_n rfl (g_iload rfl (g_iconst mzi_1 (g_iadd ?_))))
  obtain ⟨h1, hp⟩ := hp
  refine g_iald1002 h1 (g_aload_n rfl (g_iload rfl (g_iconst mzi_2 (g_iadd ?_))))
  obtain ⟨h2, hp⟩ := hp
  refine g_iald1002 h2 ?_
  obtain ⟨h3, hp⟩ := hp
  refine g_v3v (Nat.le_of_ble_eq_true rfl) (mz_at hS (Nat.le_of_ble_eq_true rfl) mzcS_232) (fun _ hq => cs_500 (Nat.le_trans (Nat.le_of_ble_eq_true rfl) hd) (hS.le (Nat.le_of_ble_eq_true rfl)) (hR.le (Nat.le_of_ble_eq_true rfl))  (xs (v4 + 1).toNatClampNeg) (xs (v4 + 2).toNatClampNeg) N h3 hq) (g_istore (Nat.le_of_ble_eq_true rfl) rfl (g_aload_n rfl ?_))
  refine g_v1v (Nat.le_of_ble_eq_true rfl) (mz_at hS (Nat.le_of_ble_eq_true rfl) mzcS_232) (fun _ hq => cs_459 (Nat.le_trans (Nat.le_of_ble_eq_true rfl) hd) (hS.le (Nat.le_of_ble_eq_true rfl)) (hR.le (Nat.le_of_ble_eq_true rfl))  ((cf_500_0 (xs (v4 + 1).toNatClampNeg) (xs (v4 + 2).toNatClampNeg) N).2) trivial hq) (g_iload rfl ?_)
  refine g_iceq (tg := 1682) rfl ms_622_1682 hC (fun h5 hC => ?_) (fun h5 hC => ?_)
  · have hp := hp.1 h5
    refine g_iload rfl ?_
    refine g_ifne (tg := 1699) rfl ms_622_1699 hC (fun h6 hC => ?_) (fun h6 hC => ?_)
    · have hp := hp.1 h6
      refine g_aload_n rfl (g_iconst mzi_0 (g_lald (mz_at hS (Nat.le_of_ble_eq_true rfl) mzcS_342) (mz_ibd (by decide)) (g_iload rfl (g_i2l (g_lcmp ?_)))))
      refine g_leq (tg := 1699) rfl ms_622_1699 hC (fun h7 hC => ?_) (fun h7 hC => ?_)
      · have hp := hp.1 h7
        refine g_weak ?_ (g_cl (cg_622_1699 hd hS hR L xs v4 ((cf_500_0 (xs (v4 + 1).toNatClampNeg) (xs (v4 + 2).toNatClampNeg) N).2) b t hr hc1 hx1 hp hC))
        exact ⟨rfl, rfl, rfl, rfl, rfl, trivial⟩
      · have hp := hp.2 h7
        refine g_iconst mzi_0 ?_
        exact g_zret (z := false) rfl (hr _ _ _ _ (hx1 _ hC))
    · have hp := hp.2 h6
      refine g_weak ?_ (g_cl (cg_622_1699 hd hS hR L xs v4 ((cf_500_0 (xs (v4 + 1).toNatClampNeg) (xs (v4 + 2).toNatClampNeg) N).2) b t hr hc1 hx1 hp hC))
      exact ⟨rfl, rfl, rfl, rfl, rfl, trivial⟩
  · have hp := hp.2 h5
    refine g_iconst mzi_0 ?_
    exact g_zret (z := false) rfl (hr _ _ _ _ (hx1 _ hC))
theorem cg_622_4241 (hd : 12 ≤ d) (hS : mz_extR S 343) (hR : mz_rok R 343) (L : Nat) (xs : Nat → Int32) (v4 : Int32) (N : mz_N) (b : Bool) (t : Nat) {C0 : (Bool × mz_N × Bool × Nat) → Prop} (hr : ∀ (w : Bool) (N2 : mz_N) (b2 : Bool) (t2 : Nat), C0 (w, N2, b2, t2) → Q (.inl (some (.int (mz_b01 w)))) (mz_k S R N2 b2 t2)) {C1 : ((Int32 × mz_N × Bool × Nat) ⊕ (Bool × mz_N × Bool × Nat)) → Prop} (hc1 : ∀ s2, C1 (.inl s2) → mz_G (d, mz_X0 L xs, some .boolean, [], mk_622, 8, Q) 35 mt_622_35 [(0, .ref 1002), (1, .ref 0), (2, .ref 232), (3, .ref 342), (4, .int s2.1)] [] false (mz_k S R s2.2.1 s2.2.2.1 s2.2.2.2)) (hx1 : ∀ z, C1 (.inr z) → C0 z) (hp : cp_622_4241 L xs v4 N b t) (hC : C1 (cf_622_4241 L xs v4 N b t)) : mz_G (d, mz_X0 L xs, some .boolean, [], mk_622, 8, Q) 4241 mt_622_4241 [(0, .ref 1002), (1, .ref 0), (2, .ref 232), (3, .ref 342), (4, .int v4)] [] false (mz_k S R N b t) := by
  unfold cf_622_4241 at hC
  unfold cp_622_4241 at hp
  refine g_goto (tg := 4500) rfl ms_622_4500 ?_
  refine g_weak ?_ (g_cl (cg_622_4500 hd hS hR L xs v4 N b t hr hc1 hx1 hp hC))
  exact ⟨rfl, rfl, rfl, rfl, rfl, trivial⟩
theorem cg_622_4213 (hd : 12 ≤ d) (hS : mz_extR S 343) (hR : mz_rok R 343) (L : Nat) (xs : Nat → Int32) (v4 : Int32) (v5 : Int32) (v6 : Int32) (N : mz_N) (b : Bool) (t : Nat) {C0 : (Bool × mz_N × Bool × Nat) → Prop} (hr : ∀ (w : Bool) (N2 : mz_N) (b2 : Bool) (t2 : Nat), C0 (w, N2, b2, t2) → Q (.inl (some (.int (mz_b01 w)))) (mz_k S R N2 b2 t2)) {C1 : ((Int32 × mz_N × Bool × Nat) ⊕ (Bool × mz_N × Bool × Nat)) → Prop} (hc1 : ∀ s2, C1 (.inl s2) → mz_G (d, mz_X0 L xs, some .boolean, [], mk_622, 8, Q) 35 mt_622_35 [(0, .ref 1002), (1, .ref 0), (2, .ref 232), (3, .ref 342), (4, .int s2.1)] [] false (mz_k S R s2.2.1 s2.2.2.1 s2.2.2.2)) (hx1 : ∀ z, C1 (.inr z) → C0 z) (hp : cp_622_4213 L xs v4 v5 v6 N b t) (hC : C1 (cf_622_4213 L xs v4 v5 v6 N b t)) : mz_G (d, mz_X0 L xs, some .boolean, [], mk_622, 8, Q) 4213 mt_622_4213 [(0, .ref 1002), (1, .ref 0), (2, .ref 232), (3, .ref 342), (4, .int v4), (5, .int v5), (6, .int v6)] [] false (mz_k S R N b t) := by
  unfold cf_622_4213 at hC
  unfold cp_622_4213 at hp
  refine g_aload_n rfl ?_
  refine g_v1v (Nat.le_of_ble_eq_true rfl) (mz_at hS (Nat.le_of_ble_eq_true rfl) mzcS_232) (fun _ hq => cs_459 (Nat.le_trans (Nat.le_of_ble_eq_true rfl) hd) (hS.le (Nat.le_of_ble_eq_true rfl)) (hR.le (Nat.le_of_ble_eq_true rfl))  N trivial hq) (g_iload rfl ?_)
  refine g_iceq (tg := 4224) rfl ms_622_4224 hC (fun h2 hC => ?_) (fun h2 hC => ?_)
  · have hp := hp.1 h2
    refine g_iload rfl ?_
    refine g_ifne (tg := 4241) rfl ms_622_4241 hC (fun h3 hC => ?_) (fun h3 hC => ?_)
    · have hp := hp.1 h3
      refine g_aload_n rfl (g_iconst mzi_0 (g_lald (mz_at hS (Nat.le_of_ble_eq_true rfl) mzcS_342) (mz_ibd (by decide)) (g_iload rfl (g_i2l (g_lcmp ?_)))))
      refine g_leq (tg := 4241) rfl ms_622_4241 hC (fun h4 hC => ?_) (fun h4 hC => ?_)
      · have hp := hp.1 h4
        refine g_weak ?_ (g_cl (cg_622_4241 hd hS hR L xs v4 N b t hr hc1 hx1 hp hC))
        exact ⟨rfl, rfl, rfl, rfl, rfl, trivial⟩
      · have hp := hp.2 h4
        refine g_iconst mzi_0 ?_
        exact g_zret (z := false) rfl (hr _ _ _ _ (hx1 _ hC))
    · have hp := hp.2 h3
      refine g_weak ?_ (g_cl (cg_622_4241 hd hS hR L xs v4 N b t hr hc1 hx1 hp hC))
      exact ⟨rfl, rfl, rfl, rfl, rfl, trivial⟩
  · have hp := hp.2 h2
    refine g_iconst mzi_0 ?_
    exact g_zret (z := false) rfl (hr _ _ _ _ (hx1 _ hC))
theorem cg_622_3753 (hd : 12 ≤ d) (hS : mz_extR S 343) (hR : mz_rok R 343) (L : Nat) (xs : Nat → Int32) (v4 : Int32) (N : mz_N) (b : Bool) (t : Nat) {C0 : (Bool × mz_N × Bool × Nat) → Prop} (hr : ∀ (w : Bool) (N2 : mz_N) (b2 : Bool) (t2 : Nat), C0 (w, N2, b2, t2) → Q (.inl (some (.int (mz_b01 w)))) (mz_k S R N2 b2 t2)) {C1 : ((Int32 × mz_N × Bool × Nat) ⊕ (Bool × mz_N × Bool × Nat)) → Prop} (hc1 : ∀ s2, C1 (.inl s2) → mz_G (d, mz_X0 L xs, some .boolean, [], mk_622, 8, Q) 35 mt_622_35 [(0, .ref 1002), (1, .ref 0), (2, .ref 232), (3, .ref 342), (4, .int s2.1)] [] false (mz_k S R s2.2.1 s2.2.2.1 s2.2.2.2)) (hx1 : ∀ z, C1 (.inr z) → C0 z) (hp : cp_622_3753 L xs v4 N b t) (hC : C1 (cf_622_3753 L xs v4 N b t)) : mz_G (d, mz_X0 L xs, some .boolean, [], mk_622, 8, Q) 3753 mt_622_3753 [(0, .ref 1002), (1, .ref 0), (2, .ref 232), (3, .ref 342), (4, .int v4)] [] false (mz_k S R N b t) := by
  unfold cf_622_3753 at hC
  unfold cp_622_3753 at hp
  refine g_goto (tg := 4500) rfl ms_622_4500 ?_
  refine g_weak ?_ (g_cl (cg_622_4500 hd hS hR L xs v4 N b t hr hc1 hx1 hp hC))
  exact ⟨rfl, rfl, rfl, rfl, rfl, trivial⟩
theorem cg_622_3707 (hd : 12 ≤ d) (hS : mz_extR S 343) (hR : mz_rok R 343) (L : Nat) (xs : Nat → Int32) (v4 : Int32) (v5 : Int32) (N : mz_N) (b : Bool) (t : Nat) {C0 : (Bool × mz_N × Bool × Nat) → Prop} (hr : ∀ (w : Bool) (N2 : mz_N) (b2 : Bool) (t2 : Nat), C0 (w, N2, b2, t2) → Q (.inl (some (.int (mz_b01 w)))) (mz_k S R N2 b2 t2)) {C1 : ((Int32 × mz_N × Bool × Nat) ⊕ (Bool × mz_N × Bool × Nat)) → Prop} (hc1 : ∀ s2, C1 (.inl s2) → mz_G (d, mz_X0 L xs, some .boolean, [], mk_622, 8, Q) 35 mt_622_35 [(0, .ref 1002), (1, .ref 0), (2, .ref 232), (3, .ref 342), (4, .int s2.1)] [] false (mz_k S R s2.2.1 s2.2.2.1 s2.2.2.2)) (hx1 : ∀ z, C1 (.inr z) → C0 z) (hp : cp_622_3707 L xs v4 v5 N b t) (hC : C1 (cf_622_3707 L xs v4 v5 N b t)) : mz_G (d, mz_X0 L xs, some .boolean, [], mk_622, 8, Q) 3707 mt_622_3707 [(0, .ref 1002), (1, .ref 0), (2, .ref 232), (3, .ref 342), (4, .int v4), (5, .int v5)] [] false (mz_k S R N b t) := by
  unfold cf_622_3707 at hC
  unfold cp_622_3707 at hp
  refine g_aload_n rfl (g_aload_n rfl (g_iload rfl (g_iconst mzi_1 (g_iadd ?_))))
  obtain ⟨h1, hp⟩ := hp
  refine g_iald1002 h1 (g_aload_n rfl (g_iload rfl (g_iconst mzi_2 (g_iadd ?_))))
  obtain ⟨h2, hp⟩ := hp
  refine g_iald1002 h2 ?_
  obtain ⟨h3, hp⟩ := hp
  refine g_v3v (Nat.le_of_ble_eq_true rfl) (mz_at hS (Nat.le_of_ble_eq_true rfl) mzcS_232) (fun _ hq => cs_586 (Nat.le_trans (Nat.le_of_ble_eq_true rfl) hd) (hS.le (Nat.le_of_ble_eq_true rfl)) (hR.le (Nat.le_of_ble_eq_true rfl))  (xs (v4 + 1).toNatClampNeg) (xs (v4 + 2).toNatClampNeg) N h3 hq) (g_istore (Nat.le_of_ble_eq_true rfl) rfl (g_aload_n rfl ?_))
  refine g_v1v (Nat.le_of_ble_eq_true rfl) (mz_at hS (Nat.le_of_ble_eq_true rfl) mzcS_232) (fun _ hq => cs_459 (Nat.le_trans (Nat.le_of_ble_eq_true rfl) hd) (hS.le (Nat.le_of_ble_eq_true rfl)) (hR.le (Nat.le_of_ble_eq_true rfl))  ((cf_586_0 (xs (v4 + 1).toNatClampNeg) (xs (v4 + 2).toNatClampNeg) N).2) trivial hq) (g_iload rfl ?_)
  refine g_iceq (tg := 3736) rfl ms_622_3736 hC (fun h5 hC => ?_) (fun h5 hC => ?_)
  · have hp := hp.1 h5
    refine g_iload rfl ?_
    refine g_ifne (tg := 3753) rfl ms_622_3753 hC (fun h6 hC => ?_) (fun h6 hC => ?_)
    · have hp := hp.1 h6
      refine g_aload_n rfl (g_iconst mzi_0 (g_lald (mz_at hS (Nat.le_of_ble_eq_true rfl) mzcS_342) (mz_ibd (by decide)) (g_iload rfl (g_i2l (g_lcmp ?_)))))
      refine g_leq (tg := 3753) rfl ms_622_3753 hC (fun h7 hC => ?_) (fun h7 hC => ?_)
      · have hp := hp.1 h7
        refine g_weak ?_ (g_cl (cg_622_3753 hd hS hR L xs v4 ((cf_586_0 (xs (v4 + 1).toNatClampNeg) (xs (v4 + 2).toNatClampNeg) N).2) b t hr hc1 hx1 hp hC))
        exact ⟨rfl, rfl, rfl, rfl, rfl, trivial⟩
      · have hp := hp.2 h7
        refine g_iconst mzi_0 ?_
        exact g_zret (z := false) rfl (hr _ _ _ _ (hx1 _ hC))
    · have hp := hp.2 h6
      refine g_weak ?_ (g_cl (cg_622_3753 hd hS hR L xs v4 ((cf_586_0 (xs (v4 + 1).toNatClampNeg) (xs (v4 + 2).toNatClampNeg) N).2) b t hr hc1 hx1 hp hC))
      exact ⟨rfl, rfl, rfl, rfl, rfl, trivial⟩
  · have hp := hp.2 h5
    refine g_iconst mzi_0 ?_
    exact g_zret (z := false) rfl (hr _ _ _ _ (hx1 _ hC))
theorem cg_622_2730 (hd : 12 ≤ d) (hS : mz_extR S 343) (hR : mz_rok R 343) (L : Nat) (xs : Nat → Int32) (v4 : Int32) (N : mz_N) (b : Bool) (t : Nat) {C0 : (Bool × mz_N × Bool × Nat) → Prop} (hr : ∀ (w : Bool) (N2 : mz_N) (b2 : Bool) (t2 : Nat), C0 (w, N2, b2, t2) → Q (.inl (some (.int (mz_b01 w)))) (mz_k S R N2 b2 t2)) {C1 : ((Int32 × mz_N × Bool × Nat) ⊕ (Bool × mz_N × Bool × Nat)) → Prop} (hc1 : ∀ s2, C1 (.inl s2) → mz_G (d, mz_X0 L xs, some .boolean, [], mk_622, 8, Q) 35 mt_622_35 [(0, .ref 1002), (1, .ref 0), (2, .ref 232), (3, .ref 342), (4, .int s2.1)] [] false (mz_k S R s2.2.1 s2.2.2.1 s2.2.2.2)) (hx1 : ∀ z, C1 (.inr z) → C0 z) (hp : cp_622_2730 L xs v4 N b t) (hC : C1 (cf_622_2730 L xs v4 N b t)) : mz_G (d, mz_X0 L xs, some .boolean, [], mk_622, 8, Q) 2730 mt_622_2730 [(0, .ref 1002), (1, .ref 0), (2, .ref 232), (3, .ref 342), (4, .int v4)] [] false (mz_k S R N b t) := by
  unfold cf_622_2730 at hC
  unfold cp_622_2730 at hp
  refine g_goto (tg := 4500) rfl ms_622_4500 ?_
  refine g_weak ?_ (g_cl (cg_622_4500 hd hS hR L xs v4 N b t hr hc1 hx1 hp hC))
  exact ⟨rfl, rfl, rfl, rfl, rfl, trivial⟩
theorem cg_622_2684 (hd : 12 ≤ d) (hS : mz_extR S 343) (hR : mz_rok R 343) (L : Nat) (xs : Nat → Int32) (v4 : Int32) (v5 : Int32) (N : mz_N) (b : Bool) (t : Nat) {C0 : (Bool × mz_N × Bool × Nat) → Prop} (hr : ∀ (w : Bool) (N2 : mz_N) (b2 : Bool) (t2 : Nat), C0 (w, N2, b2, t2) → Q (.inl (some (.int (mz_b01 w)))) (mz_k S R N2 b2 t2)) {C1 : ((Int32 × mz_N × Bool × Nat) ⊕ (Bool × mz_N × Bool × Nat)) → Prop} (hc1 : ∀ s2, C1 (.inl s2) → mz_G (d, mz_X0 L xs, some .boolean, [], mk_622, 8, Q) 35 mt_622_35 [(0, .ref 1002), (1, .ref 0), (2, .ref 232), (3, .ref 342), (4, .int s2.1)] [] false (mz_k S R s2.2.1 s2.2.2.1 s2.2.2.2)) (hx1 : ∀ z, C1 (.inr z) → C0 z) (hp : cp_622_2684 L xs v4 v5 N b t) (hC : C1 (cf_622_2684 L xs v4 v5 N b t)) : mz_G (d, mz_X0 L xs, some .boolean, [], mk_622, 8, Q) 2684 mt_622_2684 [(0, .ref 1002), (1, .ref 0), (2, .ref 232), (3, .ref 342), (4, .int v4), (5, .int v5)] [] false (mz_k S R N b t) := by
  unfold cf_622_2684 at hC
  unfold cp_622_2684 at hp
  refine g_aload_n rfl (g_aload_n rfl (g_iload rfl (g_iconst mzi_1 (g_iadd ?_))))
  obtain ⟨h1, hp⟩ := hp
  refine g_iald1002 h1 (g_aload_n rfl (g_iload rfl (g_iconst mzi_2 (g_iadd ?_))))
  obtain ⟨h2, hp⟩ := hp
  refine g_iald1002 h2 ?_
  obtain ⟨h3, hp⟩ := hp
  refine g_v3v (Nat.le_of_ble_eq_true rfl) (mz_at hS (Nat.le_of_ble_eq_true rfl) mzcS_232) (fun _ hq => cs_574 (Nat.le_trans (Nat.le_of_ble_eq_true rfl) hd) (hS.le (Nat.le_of_ble_eq_true rfl)) (hR.le (Nat.le_of_ble_eq_true rfl))  (xs (v4 + 1).toNatClampNeg) (xs (v4 + 2).toNatClampNeg) N h3 hq) (g_istore (Nat.le_of_ble_eq_true rfl) rfl (g_aload_n rfl ?_))
  refine g_v1v (Nat.le_of_ble_eq_true rfl) (mz_at hS (Nat.le_of_ble_eq_true rfl) mzcS_232) (fun _ hq => cs_459 (Nat.le_trans (Nat.le_of_ble_eq_true rfl) hd) (hS.le (Nat.le_of_ble_eq_true rfl)) (hR.le (Nat.le_of_ble_eq_true rfl))  ((cf_574_0 (xs (v4 + 1).toNatClampNeg) (xs (v4 + 2).toNatClampNeg) N).2) trivial hq) (g_iload rfl ?_)
  refine g_iceq (tg := 2713) rfl ms_622_2713 hC (fun h5 hC => ?_) (fun h5 hC => ?_)
  · have hp := hp.1 h5
    refine g_iload rfl ?_
    refine g_ifne (tg := 2730) rfl ms_622_2730 hC (fun h6 hC => ?_) (fun h6 hC => ?_)
    · have hp := hp.1 h6
      refine g_aload_n rfl (g_iconst mzi_0 (g_lald (mz_at hS (Nat.le_of_ble_eq_true rfl) mzcS_342) (mz_ibd (by decide)) (g_iload rfl (g_i2l (g_lcmp ?_)))))
      refine g_leq (tg := 2730) rfl ms_622_2730 hC (fun h7 hC => ?_) (fun h7 hC => ?_)
      · have hp := hp.1 h7
        refine g_weak ?_ (g_cl (cg_622_2730 hd hS hR L xs v4 ((cf_574_0 (xs (v4 + 1).toNatClampNeg) (xs (v4 + 2).toNatClampNeg) N).2) b t hr hc1 hx1 hp hC))
        exact ⟨rfl, rfl, rfl, rfl, rfl, trivial⟩
      · have hp := hp.2 h7
        refine g_iconst mzi_0 ?_
        exact g_zret (z := false) rfl (hr _ _ _ _ (hx1 _ hC))
    · have hp := hp.2 h6
      refine g_weak ?_ (g_cl (cg_622_2730 hd hS hR L xs v4 ((cf_574_0 (xs (v4 + 1).toNatClampNeg) (xs (v4 + 2).toNatClampNeg) N).2) b t hr hc1 hx1 hp hC))
      exact ⟨rfl, rfl, rfl, rfl, rfl, trivial⟩
  · have hp := hp.2 h5
    refine g_iconst mzi_0 ?_
    exact g_zret (z := false) rfl (hr _ _ _ _ (hx1 _ hC))
theorem cg_622_3481 (hd : 12 ≤ d) (hS : mz_extR S 343) (hR : mz_rok R 343) (L : Nat) (xs : Nat → Int32) (v4 : Int32) (N : mz_N) (b : Bool) (t : Nat) {C0 : (Bool × mz_N × Bool × Nat) → Prop} (hr : ∀ (w : Bool) (N2 : mz_N) (b2 : Bool) (t2 : Nat), C0 (w, N2, b2, t2) → Q (.inl (some (.int (mz_b01 w)))) (mz_k S R N2 b2 t2)) {C1 : ((Int32 × mz_N × Bool × Nat) ⊕ (Bool × mz_N × Bool × Nat)) → Prop} (hc1 : ∀ s2, C1 (.inl s2) → mz_G (d, mz_X0 L xs, some .boolean, [], mk_622, 8, Q) 35 mt_622_35 [(0, .ref 1002), (1, .ref 0), (2, .ref 232), (3, .ref 342), (4, .int s2.1)] [] false (mz_k S R s2.2.1 s2.2.2.1 s2.2.2.2)) (hx1 : ∀ z, C1 (.inr z) → C0 z) (hp : cp_622_3481 L xs v4 N b t) (hC : C1 (cf_622_3481 L xs v4 N b t)) : mz_G (d, mz_X0 L xs, some .boolean, [], mk_622, 8, Q) 3481 mt_622_3481 [(0, .ref 1002), (1, .ref 0), (2, .ref 232), (3, .ref 342), (4, .int v4)] [] false (mz_k S R N b t) := by
  unfold cf_622_3481 at hC
  unfold cp_622_3481 at hp
  refine g_goto (tg := 4500) rfl ms_622_4500 ?_
  refine g_weak ?_ (g_cl (cg_622_4500 hd hS hR L xs v4 N b t hr hc1 hx1 hp hC))
  exact ⟨rfl, rfl, rfl, rfl, rfl, trivial⟩
theorem cg_622_3453 (hd : 12 ≤ d) (hS : mz_extR S 343) (hR : mz_rok R 343) (L : Nat) (xs : Nat → Int32) (v4 : Int32) (v5 : Int32) (v6 : Int32) (N : mz_N) (b : Bool) (t : Nat) {C0 : (Bool × mz_N × Bool × Nat) → Prop} (hr : ∀ (w : Bool) (N2 : mz_N) (b2 : Bool) (t2 : Nat), C0 (w, N2, b2, t2) → Q (.inl (some (.int (mz_b01 w)))) (mz_k S R N2 b2 t2)) {C1 : ((Int32 × mz_N × Bool × Nat) ⊕ (Bool × mz_N × Bool × Nat)) → Prop} (hc1 : ∀ s2, C1 (.inl s2) → mz_G (d, mz_X0 L xs, some .boolean, [], mk_622, 8, Q) 35 mt_622_35 [(0, .ref 1002), (1, .ref 0), (2, .ref 232), (3, .ref 342), (4, .int s2.1)] [] false (mz_k S R s2.2.1 s2.2.2.1 s2.2.2.2)) (hx1 : ∀ z, C1 (.inr z) → C0 z) (hp : cp_622_3453 L xs v4 v5 v6 N b t) (hC : C1 (cf_622_3453 L xs v4 v5 v6 N b t)) : mz_G (d, mz_X0 L xs, some .boolean, [], mk_622, 8, Q) 3453 mt_622_3453 [(0, .ref 1002), (1, .ref 0), (2, .ref 232), (3, .ref 342), (4, .int v4), (5, .int v5), (6, .int v6)] [] false (mz_k S R N b t) := by
  unfold cf_622_3453 at hC
  unfold cp_622_3453 at hp
  refine g_aload_n rfl ?_
  refine g_v1v (Nat.le_of_ble_eq_true rfl) (mz_at hS (Nat.le_of_ble_eq_true rfl) mzcS_232) (fun _ hq => cs_459 (Nat.le_trans (Nat.le_of_ble_eq_true rfl) hd) (hS.le (Nat.le_of_ble_eq_true rfl)) (hR.le (Nat.le_of_ble_eq_true rfl))  N trivial hq) (g_iload rfl ?_)
  refine g_iceq (tg := 3464) rfl ms_622_3464 hC (fun h2 hC => ?_) (fun h2 hC => ?_)
  · have hp := hp.1 h2
    refine g_iload rfl ?_
    refine g_ifne (tg := 3481) rfl ms_622_3481 hC (fun h3 hC => ?_) (fun h3 hC => ?_)
    · have hp := hp.1 h3
      refine g_aload_n rfl (g_iconst mzi_0 (g_lald (mz_at hS (Nat.le_of_ble_eq_true rfl) mzcS_342) (mz_ibd (by decide)) (g_iload rfl (g_i2l (g_lcmp ?_)))))
      refine g_leq (tg := 3481) rfl ms_622_3481 hC (fun h4 hC => ?_) (fun h4 hC => ?_)
      · have hp := hp.1 h4
        refine g_weak ?_ (g_cl (cg_622_3481 hd hS hR L xs v4 N b t hr hc1 hx1 hp hC))
        exact ⟨rfl, rfl, rfl, rfl, rfl, trivial⟩
      · have hp := hp.2 h4
        refine g_iconst mzi_0 ?_
        exact g_zret (z := false) rfl (hr _ _ _ _ (hx1 _ hC))
    · have hp := hp.2 h3
      refine g_weak ?_ (g_cl (cg_622_3481 hd hS hR L xs v4 N b t hr hc1 hx1 hp hC))
      exact ⟨rfl, rfl, rfl, rfl, rfl, trivial⟩
  · have hp := hp.2 h2
    refine g_iconst mzi_0 ?_
    exact g_zret (z := false) rfl (hr _ _ _ _ (hx1 _ hC))
theorem cg_622_2209 (hd : 12 ≤ d) (hS : mz_extR S 343) (hR : mz_rok R 343) (L : Nat) (xs : Nat → Int32) (v4 : Int32) (N : mz_N) (b : Bool) (t : Nat) {C0 : (Bool × mz_N × Bool × Nat) → Prop} (hr : ∀ (w : Bool) (N2 : mz_N) (b2 : Bool) (t2 : Nat), C0 (w, N2, b2, t2) → Q (.inl (some (.int (mz_b01 w)))) (mz_k S R N2 b2 t2)) {C1 : ((Int32 × mz_N × Bool × Nat) ⊕ (Bool × mz_N × Bool × Nat)) → Prop} (hc1 : ∀ s2, C1 (.inl s2) → mz_G (d, mz_X0 L xs, some .boolean, [], mk_622, 8, Q) 35 mt_622_35 [(0, .ref 1002), (1, .ref 0), (2, .ref 232), (3, .ref 342), (4, .int s2.1)] [] false (mz_k S R s2.2.1 s2.2.2.1 s2.2.2.2)) (hx1 : ∀ z, C1 (.inr z) → C0 z) (hp : cp_622_2209 L xs v4 N b t) (hC : C1 (cf_622_2209 L xs v4 N b t)) : mz_G (d, mz_X0 L xs, some .boolean, [], mk_622, 8, Q) 2209 mt_622_2209 [(0, .ref 1002), (1, .ref 0), (2, .ref 232), (3, .ref 342), (4, .int v4)] [] false (mz_k S R N b t) := by
  unfold cf_622_2209 at hC
  unfold cp_622_2209 at hp
  refine g_goto (tg := 4500) rfl ms_622_4500 ?_
  refine g_weak ?_ (g_cl (cg_622_4500 hd hS hR L xs v4 N b t hr hc1 hx1 hp hC))
  exact ⟨rfl, rfl, rfl, rfl, rfl, trivial⟩
theorem cg_622_2203 (hd : 12 ≤ d) (hS : mz_extR S 343) (hR : mz_rok R 343) (L : Nat) (xs : Nat → Int32) (s0 : Int64) (s1 : Int64) (v4 : Int32) (N : mz_N) (b : Bool) (t : Nat) {C0 : (Bool × mz_N × Bool × Nat) → Prop} (hr : ∀ (w : Bool) (N2 : mz_N) (b2 : Bool) (t2 : Nat), C0 (w, N2, b2, t2) → Q (.inl (some (.int (mz_b01 w)))) (mz_k S R N2 b2 t2)) {C1 : ((Int32 × mz_N × Bool × Nat) ⊕ (Bool × mz_N × Bool × Nat)) → Prop} (hc1 : ∀ s2, C1 (.inl s2) → mz_G (d, mz_X0 L xs, some .boolean, [], mk_622, 8, Q) 35 mt_622_35 [(0, .ref 1002), (1, .ref 0), (2, .ref 232), (3, .ref 342), (4, .int s2.1)] [] false (mz_k S R s2.2.1 s2.2.2.1 s2.2.2.2)) (hx1 : ∀ z, C1 (.inr z) → C0 z) (hp : cp_622_2203 L xs s0 s1 v4 N b t) (hC : C1 (cf_622_2203 L xs s0 s1 v4 N b t)) : mz_G (d, mz_X0 L xs, some .boolean, [], mk_622, 8, Q) 2203 mt_622_2203 [(0, .ref 1002), (1, .ref 0), (2, .ref 232), (3, .ref 342), (4, .int v4)] [.long s1, .long s0] false (mz_k S R N b t) := by
  unfold cf_622_2203 at hC
  unfold cp_622_2203 at hp
  refine g_lcmp ?_
  refine g_leq (tg := 2209) rfl ms_622_2209 hC (fun h1 hC => ?_) (fun h1 hC => ?_)
  · have hp := hp.1 h1
    refine g_weak ?_ (g_cl (cg_622_2209 hd hS hR L xs v4 N b t hr hc1 hx1 hp hC))
    exact ⟨rfl, rfl, rfl, rfl, rfl, trivial⟩
  · have hp := hp.2 h1
    refine g_iconst mzi_0 ?_
    exact g_zret (z := false) rfl (hr _ _ _ _ (hx1 _ hC))
theorem cg_622_2174 (hd : 12 ≤ d) (hS : mz_extR S 343) (hR : mz_rok R 343) (L : Nat) (xs : Nat → Int32) (v4 : Int32) (v5 : Int32) (v6 : Bool) (N : mz_N) (b : Bool) (t : Nat) {C0 : (Bool × mz_N × Bool × Nat) → Prop} (hr : ∀ (w : Bool) (N2 : mz_N) (b2 : Bool) (t2 : Nat), C0 (w, N2, b2, t2) → Q (.inl (some (.int (mz_b01 w)))) (mz_k S R N2 b2 t2)) {C1 : ((Int32 × mz_N × Bool × Nat) ⊕ (Bool × mz_N × Bool × Nat)) → Prop} (hc1 : ∀ s2, C1 (.inl s2) → mz_G (d, mz_X0 L xs, some .boolean, [], mk_622, 8, Q) 35 mt_622_35 [(0, .ref 1002), (1, .ref 0), (2, .ref 232), (3, .ref 342), (4, .int s2.1)] [] false (mz_k S R s2.2.1 s2.2.2.1 s2.2.2.2)) (hx1 : ∀ z, C1 (.inr z) → C0 z) (hp : cp_622_2174 L xs v4 v5 v6 N b t) (hC : C1 (cf_622_2174 L xs v4 v5 v6 N b t)) : mz_G (d, mz_X0 L xs, some .boolean, [], mk_622, 8, Q) 2174 mt_622_2174 [(0, .ref 1002), (1, .ref 0), (2, .ref 232), (3, .ref 342), (4, .int v4), (5, .int v5), (6, .int (mz_b01 v6))] [] false (mz_k S R N b t) := by
  unfold cf_622_2174 at hC
  unfold cp_622_2174 at hp
  refine g_aload_n rfl ?_
  refine g_v1v (Nat.le_of_ble_eq_true rfl) (mz_at hS (Nat.le_of_ble_eq_true rfl) mzcS_232) (fun _ hq => cs_459 (Nat.le_trans (Nat.le_of_ble_eq_true rfl) hd) (hS.le (Nat.le_of_ble_eq_true rfl)) (hR.le (Nat.le_of_ble_eq_true rfl))  N trivial hq) (g_iload rfl ?_)
  refine g_iceq (tg := 2185) rfl ms_622_2185 hC (fun h2 hC => ?_) (fun h2 hC => ?_)
  · have hp := hp.1 h2
    refine g_iload rfl ?_
    refine g_ifne (tg := 2209) rfl ms_622_2209 hC (fun h3 hC => ?_) (fun h3 hC => ?_)
    · have hp := hp.1 h3
      refine g_aload_n rfl (g_iconst mzi_0 (g_lald (mz_at hS (Nat.le_of_ble_eq_true rfl) mzcS_342) (mz_ibd (by decide)) (g_iload rfl ?_)))
      refine g_zeq (tg := 2202) rfl ms_622_2202 hC (fun h4 hC => ?_) (fun h4 hC => ?_)
      · have hp := hp.1 h4
        refine g_lconst mzl_1 (g_goto (tg := 2203) rfl ms_622_2203 ?_)
        refine g_weak ?_ (g_cl (cg_622_2203 hd hS hR L xs (mz_gL N 342 0) 1 v4 N b t hr hc1 hx1 hp hC))
        exact ⟨rfl, rfl, rfl, rfl, rfl, trivial⟩
      · have hp := hp.2 h4
        refine g_lconst mzl_0 ?_
        refine g_weak ?_ (g_cl (cg_622_2203 hd hS hR L xs (mz_gL N 342 0) 0 v4 N b t hr hc1 hx1 hp hC))
        exact ⟨rfl, rfl, rfl, rfl, rfl, trivial⟩
    · have hp := hp.2 h3
      refine g_weak ?_ (g_cl (cg_622_2209 hd hS hR L xs v4 N b t hr hc1 hx1 hp hC))
      exact ⟨rfl, rfl, rfl, rfl, rfl, trivial⟩
  · have hp := hp.2 h2
    refine g_iconst mzi_0 ?_
    exact g_zret (z := false) rfl (hr _ _ _ _ (hx1 _ hC))
theorem cg_622_3245 (hd : 12 ≤ d) (hS : mz_extR S 343) (hR : mz_rok R 343) (L : Nat) (xs : Nat → Int32) (v4 : Int32) (N : mz_N) (b : Bool) (t : Nat) {C0 : (Bool × mz_N × Bool × Nat) → Prop} (hr : ∀ (w : Bool) (N2 : mz_N) (b2 : Bool) (t2 : Nat), C0 (w, N2, b2, t2) → Q (.inl (some (.int (mz_b01 w)))) (mz_k S R N2 b2 t2)) {C1 : ((Int32 × mz_N × Bool × Nat) ⊕ (Bool × mz_N × Bool × Nat)) → Prop} (hc1 : ∀ s2, C1 (.inl s2) → mz_G (d, mz_X0 L xs, some .boolean, [], mk_622, 8, Q) 35 mt_622_35 [(0, .ref 1002), (1, .ref 0), (2, .ref 232), (3, .ref 342), (4, .int s2.1)] [] false (mz_k S R s2.2.1 s2.2.2.1 s2.2.2.2)) (hx1 : ∀ z, C1 (.inr z) → C0 z) (hp : cp_622_3245 L xs v4 N b t) (hC : C1 (cf_622_3245 L xs v4 N b t)) : mz_G (d, mz_X0 L xs, some .boolean, [], mk_622, 8, Q) 3245 mt_622_3245 [(0, .ref 1002), (1, .ref 0), (2, .ref 232), (3, .ref 342), (4, .int v4)] [] false (mz_k S R N b t) := by
  unfold cf_622_3245 at hC
  unfold cp_622_3245 at hp
  refine g_goto (tg := 4500) rfl ms_622_4500 ?_
  refine g_weak ?_ (g_cl (cg_622_4500 hd hS hR L xs v4 N b t hr hc1 hx1 hp hC))
  exact ⟨rfl, rfl, rfl, rfl, rfl, trivial⟩
theorem cg_622_3200 (hd : 12 ≤ d) (hS : mz_extR S 343) (hR : mz_rok R 343) (L : Nat) (xs : Nat → Int32) (v4 : Int32) (v5 : Int32) (N : mz_N) (b : Bool) (t : Nat) {C0 : (Bool × mz_N × Bool × Nat) → Prop} (hr : ∀ (w : Bool) (N2 : mz_N) (b2 : Bool) (t2 : Nat), C0 (w, N2, b2, t2) → Q (.inl (some (.int (mz_b01 w)))) (mz_k S R N2 b2 t2)) {C1 : ((Int32 × mz_N × Bool × Nat) ⊕ (Bool × mz_N × Bool × Nat)) → Prop} (hc1 : ∀ s2, C1 (.inl s2) → mz_G (d, mz_X0 L xs, some .boolean, [], mk_622, 8, Q) 35 mt_622_35 [(0, .ref 1002), (1, .ref 0), (2, .ref 232), (3, .ref 342), (4, .int s2.1)] [] false (mz_k S R s2.2.1 s2.2.2.1 s2.2.2.2)) (hx1 : ∀ z, C1 (.inr z) → C0 z) (hp : cp_622_3200 L xs v4 v5 N b t) (hC : C1 (cf_622_3200 L xs v4 v5 N b t)) : mz_G (d, mz_X0 L xs, some .boolean, [], mk_622, 8, Q) 3200 mt_622_3200 [(0, .ref 1002), (1, .ref 0), (2, .ref 232), (3, .ref 342), (4, .int v4), (5, .int v5)] [] false (mz_k S R N b t) := by
  unfold cf_622_3200 at hC
  unfold cp_622_3200 at hp
  refine g_aload_n rfl (g_aload_n rfl (g_iload rfl (g_iconst mzi_1 (g_iadd ?_))))
  obtain ⟨h1, hp⟩ := hp
  refine g_iald1002 h1 (g_aload_n rfl (g_iload rfl (g_iconst mzi_2 (g_iadd ?_))))
  obtain ⟨h2, hp⟩ := hp
  refine g_iald1002 h2 ?_
  obtain ⟨h3, hp⟩ := hp
  refine g_v3v (Nat.le_of_ble_eq_true rfl) (mz_at hS (Nat.le_of_ble_eq_true rfl) mzcS_232) (fun _ hq => cs_559 (Nat.le_trans (Nat.le_of_ble_eq_true rfl) hd) (hS.le (Nat.le_of_ble_eq_true rfl)) (hR.le (Nat.le_of_ble_eq_true rfl))  (xs (v4 + 1).toNatClampNeg) (xs (v4 + 2).toNatClampNeg) N h3 hq) (g_lstore (Nat.le_of_ble_eq_true rfl) rfl rfl (g_aload_n rfl ?_))
  refine g_v1v (Nat.le_of_ble_eq_true rfl) (mz_at hS (Nat.le_of_ble_eq_true rfl) mzcS_232) (fun _ hq => cs_459 (Nat.le_trans (Nat.le_of_ble_eq_true rfl) hd) (hS.le (Nat.le_of_ble_eq_true rfl)) (hR.le (Nat.le_of_ble_eq_true rfl))  ((cf_559_0 (xs (v4 + 1).toNatClampNeg) (xs (v4 + 2).toNatClampNeg) N).2) trivial hq) (g_iload rfl ?_)
  refine g_iceq (tg := 3229) rfl ms_622_3229 hC (fun h5 hC => ?_) (fun h5 hC => ?_)
  · have hp := hp.1 h5
    refine g_iload rfl ?_
    refine g_ifne (tg := 3245) rfl ms_622_3245 hC (fun h6 hC => ?_) (fun h6 hC => ?_)
    · have hp := hp.1 h6
      refine g_aload_n rfl (g_iconst mzi_0 (g_lald (mz_at hS (Nat.le_of_ble_eq_true rfl) mzcS_342) (mz_ibd (by decide)) (g_lload rfl (g_lcmp ?_))))
      refine g_leq (tg := 3245) rfl ms_622_3245 hC (fun h7 hC => ?_) (fun h7 hC => ?_)
      · have hp := hp.1 h7
        refine g_weak ?_ (g_cl (cg_622_3245 hd hS hR L xs v4 ((cf_559_0 (xs (v4 + 1).toNatClampNeg) (xs (v4 + 2).toNatClampNeg) N).2) b t hr hc1 hx1 hp hC))
        exact ⟨rfl, rfl, rfl, rfl, rfl, trivial⟩
      · have hp := hp.2 h7
        refine g_iconst mzi_0 ?_
        exact g_zret (z := false) rfl (hr _ _ _ _ (hx1 _ hC))
    · have hp := hp.2 h6
      refine g_weak ?_ (g_cl (cg_622_3245 hd hS hR L xs v4 ((cf_559_0 (xs (v4 + 1).toNatClampNeg) (xs (v4 + 2).toNatClampNeg) N).2) b t hr hc1 hx1 hp hC))
      exact ⟨rfl, rfl, rfl, rfl, rfl, trivial⟩
  · have hp := hp.2 h5
    refine g_iconst mzi_0 ?_
    exact g_zret (z := false) rfl (hr _ _ _ _ (hx1 _ hC))
theorem cg_622_3968 (hd : 12 ≤ d) (hS : mz_extR S 343) (hR : mz_rok R 343) (L : Nat) (xs : Nat → Int32) (v4 : Int32) (v5 : Int32) (N : mz_N) (b : Bool) (t : Nat) {C0 : (Bool × mz_N × Bool × Nat) → Prop} (hr : ∀ (w : Bool) (N2 : mz_N) (b2 : Bool) (t2 : Nat), C0 (w, N2, b2, t2) → Q (.inl (some (.int (mz_b01 w)))) (mz_k S R N2 b2 t2)) {C1 : ((Int32 × mz_N × Bool × Nat) ⊕ (Bool × mz_N × Bool × Nat)) → Prop} (hc1 : ∀ s2, C1 (.inl s2) → mz_G (d, mz_X0 L xs, some .boolean, [], mk_622, 8, Q) 35 mt_622_35 [(0, .ref 1002), (1, .ref 0), (2, .ref 232), (3, .ref 342), (4, .int s2.1)] [] false (mz_k S R s2.2.1 s2.2.2.1 s2.2.2.2)) (hx1 : ∀ z, C1 (.inr z) → C0 z) (hp : cp_622_3968 L xs v4 v5 N b t) (hC : C1 (cf_622_3968 L xs v4 v5 N b t)) : mz_G (d, mz_X0 L xs, some .boolean, [], mk_622, 8, Q) 3968 mt_622_3968 [(0, .ref 1002), (1, .ref 0), (2, .ref 232), (3, .ref 342), (4, .int v4), (5, .int v5)] [] false (mz_k S R N b t) := by
  unfold cf_622_3968 at hC
  unfold cp_622_3968 at hp
  refine g_aload_n rfl ?_
  refine g_v1v (Nat.le_of_ble_eq_true rfl) (mz_at hS (Nat.le_of_ble_eq_true rfl) mzcS_232) (fun _ hq => cs_459 (Nat.le_trans (Nat.le_of_ble_eq_true rfl) hd) (hS.le (Nat.le_of_ble_eq_true rfl)) (hR.le (Nat.le_of_ble_eq_true rfl))  N trivial hq) (g_iload rfl ?_)
  refine g_iceq (tg := 3979) rfl ms_622_3979 hC (fun h2 hC => ?_) (fun h2 hC => ?_)
  · have hp := hp.1 h2
    refine g_goto (tg := 4500) rfl ms_622_4500 ?_
    refine g_weak ?_ (g_cl (cg_622_4500 hd hS hR L xs v4 N b t hr hc1 hx1 hp hC))
    exact ⟨rfl, rfl, rfl, rfl, rfl, trivial⟩
  · have hp := hp.2 h2
    refine g_iconst mzi_0 ?_
    exact g_zret (z := false) rfl (hr _ _ _ _ (hx1 _ hC))
theorem cg_622_2487 (hd : 12 ≤ d) (hS : mz_extR S 343) (hR : mz_rok R 343) (L : Nat) (xs : Nat → Int32) (v4 : Int32) (N : mz_N) (b : Bool) (t : Nat) {C0 : (Bool × mz_N × Bool × Nat) → Prop} (hr : ∀ (w : Bool) (N2 : mz_N) (b2 : Bool) (t2 : Nat), C0 (w, N2, b2, t2) → Q (.inl (some (.int (mz_b01 w)))) (mz_k S R N2 b2 t2)) {C1 : ((Int32 × mz_N × Bool × Nat) ⊕ (Bool × mz_N × Bool × Nat)) → Prop} (hc1 : ∀ s2, C1 (.inl s2) → mz_G (d, mz_X0 L xs, some .boolean, [], mk_622, 8, Q) 35 mt_622_35 [(0, .ref 1002), (1, .ref 0), (2, .ref 232), (3, .ref 342), (4, .int s2.1)] [] false (mz_k S R s2.2.1 s2.2.2.1 s2.2.2.2)) (hx1 : ∀ z, C1 (.inr z) → C0 z) (hp : cp_622_2487 L xs v4 N b t) (hC : C1 (cf_622_2487 L xs v4 N b t)) : mz_G (d, mz_X0 L xs, some .boolean, [], mk_622, 8, Q) 2487 mt_622_2487 [(0, .ref 1002), (1, .ref 0), (2, .ref 232), (3, .ref 342), (4, .int v4)] [] false (mz_k S R N b t) := by
  unfold cf_622_2487 at hC
  unfold cp_622_2487 at hp
  refine g_goto (tg := 4500) rfl ms_622_4500 ?_
  refine g_weak ?_ (g_cl (cg_622_4500 hd hS hR L xs v4 N b t hr hc1 hx1 hp hC))
  exact ⟨rfl, rfl, rfl, rfl, rfl, trivial⟩
theorem cg_622_2481 (hd : 12 ≤ d) (hS : mz_extR S 343) (hR : mz_rok R 343) (L : Nat) (xs : Nat → Int32) (s0 : Int64) (s1 : Int64) (v4 : Int32) (N : mz_N) (b : Bool) (t : Nat) {C0 : (Bool × mz_N × Bool × Nat) → Prop} (hr : ∀ (w : Bool) (N2 : mz_N) (b2 : Bool) (t2 : Nat), C0 (w, N2, b2, t2) → Q (.inl (some (.int (mz_b01 w)))) (mz_k S R N2 b2 t2)) {C1 : ((Int32 × mz_N × Bool × Nat) ⊕ (Bool × mz_N × Bool × Nat)) → Prop} (hc1 : ∀ s2, C1 (.inl s2) → mz_G (d, mz_X0 L xs, some .boolean, [], mk_622, 8, Q) 35 mt_622_35 [(0, .ref 1002), (1, .ref 0), (2, .ref 232), (3, .ref 342), (4, .int s2.1)] [] false (mz_k S R s2.2.1 s2.2.2.1 s2.2.2.2)) (hx1 : ∀ z, C1 (.inr z) → C0 z) (hp : cp_622_2481 L xs s0 s1 v4 N b t) (hC : C1 (cf_622_2481 L xs s0 s1 v4 N b t)) : mz_G (d, mz_X0 L xs, some .boolean, [], mk_622, 8, Q) 2481 mt_622_2481 [(0, .ref 1002), (1, .ref 0), (2, .ref 232), (3, .ref 342), (4, .int v4)] [.long s1, .long s0] false (mz_k S R N b t) := by
  unfold cf_622_2481 at hC
  unfold cp_622_2481 at hp
  refine g_lcmp ?_
  refine g_leq (tg := 2487) rfl ms_622_2487 hC (fun h1 hC => ?_) (fun h1 hC => ?_)
  · have hp := hp.1 h1
    refine g_weak ?_ (g_cl (cg_622_2487 hd hS hR L xs v4 N b t hr hc1 hx1 hp hC))
    exact ⟨rfl, rfl, rfl, rfl, rfl, trivial⟩
  · have hp := hp.2 h1
    refine g_iconst mzi_0 ?_
    exact g_zret (z := false) rfl (hr _ _ _ _ (hx1 _ hC))
theorem cg_622_2434 (hd : 12 ≤ d) (hS : mz_extR S 343) (hR : mz_rok R 343) (L : Nat) (xs : Nat → Int32) (v4 : Int32) (v5 : Int32) (N : mz_N) (b : Bool) (t : Nat) {C0 : (Bool × mz_N × Bool × Nat) → Prop} (hr : ∀ (w : Bool) (N2 : mz_N) (b2 : Bool) (t2 : Nat), C0 (w, N2, b2, t2) → Q (.inl (some (.int (mz_b01 w)))) (mz_k S R N2 b2 t2)) {C1 : ((Int32 × mz_N × Bool × Nat) ⊕ (Bool × mz_N × Bool × Nat)) → Prop} (hc1 : ∀ s2, C1 (.inl s2) → mz_G (d, mz_X0 L xs, some .boolean, [], mk_622, 8, Q) 35 mt_622_35 [(0, .ref 1002), (1, .ref 0), (2, .ref 232), (3, .ref 342), (4, .int s2.1)] [] false (mz_k S R s2.2.1 s2.2.2.1 s2.2.2.2)) (hx1 : ∀ z, C1 (.inr z) → C0 z) (hp : cp_622_2434 L xs v4 v5 N b t) (hC : C1 (cf_622_2434 L xs v4 v5 N b t)) : mz_G (d, mz_X0 L xs, some .boolean, [], mk_622, 8, Q) 2434 mt_622_2434 [(0, .ref 1002), (1, .ref 0), (2, .ref 232), (3, .ref 342), (4, .int v4), (5, .int v5)] [] false (mz_k S R N b t) := by
  unfold cf_622_2434 at hC
  unfold cp_622_2434 at hp
  refine g_aload_n rfl (g_aload_n rfl (g_iload rfl (g_iconst mzi_1 (g_iadd ?_))))
  obtain ⟨h1, hp⟩ := hp
  refine g_iald1002 h1 (g_aload_n rfl (g_iload rfl (g_iconst mzi_2 (g_iadd ?_))))
  obtain ⟨h2, hp⟩ := hp
  refine g_iald1002 h2 ?_
  obtain ⟨h3, hp⟩ := hp
  refine g_v3v (Nat.le_of_ble_eq_true rfl) (mz_at hS (Nat.le_of_ble_eq_true rfl) mzcS_232) (fun _ hq => cs_554 (Nat.le_trans (Nat.le_of_ble_eq_true rfl) hd) (hS.le (Nat.le_of_ble_eq_true rfl)) (hR.le (Nat.le_of_ble_eq_true rfl))  (xs (v4 + 1).toNatClampNeg) (xs (v4 + 2).toNatClampNeg) N h3 hq) (g_istore (Nat.le_of_ble_eq_true rfl) rfl (g_aload_n rfl ?_))
  refine g_v1v (Nat.le_of_ble_eq_true rfl) (mz_at hS (Nat.le_of_ble_eq_true rfl) mzcS_232) (fun _ hq => cs_459 (Nat.le_trans (Nat.le_of_ble_eq_true rfl) hd) (hS.le (Nat.le_of_ble_eq_true rfl)) (hR.le (Nat.le_of_ble_eq_true rfl))  ((cf_554_0 (xs (v4 + 1).toNatClampNeg) (xs (v4 + 2).toNatClampNeg) N).2) trivial hq) (g_iload rfl ?_)
  refine g_iceq (tg := 2463) rfl ms_622_2463 hC (fun h5 hC => ?_) (fun h5 hC => ?_)
  · have hp := hp.1 h5
    refine g_iload rfl ?_
    refine g_ifne (tg := 2487) rfl ms_622_2487 hC (fun h6 hC => ?_) (fun h6 hC => ?_)
    · have hp := hp.1 h6
      refine g_aload_n rfl (g_iconst mzi_0 (g_lald (mz_at hS (Nat.le_of_ble_eq_true rfl) mzcS_342) (mz_ibd (by decide)) (g_iload rfl ?_)))
      refine g_zeq (tg := 2480) rfl ms_622_2480 hC (fun h7 hC => ?_) (fun h7 hC => ?_)
      · have hp := hp.1 h7
        refine g_lconst mzl_1 (g_goto (tg := 2481) rfl ms_622_2481 ?_)
        refine g_weak ?_ (g_cl (cg_622_2481 hd hS hR L xs (mz_gL ((cf_554_0 (xs (v4 + 1).toNatClampNeg) (xs (v4 + 2).toNatClampNeg) N).2) 342 0) 1 v4 ((cf_554_0 (xs (v4 + 1).toNatClampNeg) (xs (v4 + 2).toNatClampNeg) N).2) b t hr hc1 hx1 hp hC))
        exact ⟨rfl, rfl, rfl, rfl, rfl, trivial⟩
      · have hp := hp.2 h7
        refine g_lconst mzl_0 ?_
        refine g_weak ?_ (g_cl (cg_622_2481 hd hS hR L xs (mz_gL ((cf_554_0 (xs (v4 + 1).toNatClampNeg) (xs (v4 + 2).toNatClampNeg) N).2) 342 0) 0 v4 ((cf_554_0 (xs (v4 + 1).toNatClampNeg) (xs (v4 + 2).toNatClampNeg) N).2) b t hr hc1 hx1 hp hC))
        exact ⟨rfl, rfl, rfl, rfl, rfl, trivial⟩
    · have hp := hp.2 h6
      refine g_weak ?_ (g_cl (cg_622_2487 hd hS hR L xs v4 ((cf_554_0 (xs (v4 + 1).toNatClampNeg) (xs (v4 + 2).toNatClampNeg) N).2) b t hr hc1 hx1 hp hC))
      exact ⟨rfl, rfl, rfl, rfl, rfl, trivial⟩
  · have hp := hp.2 h5
    refine g_iconst mzi_0 ?_
    exact g_zret (z := false) rfl (hr _ _ _ _ (hx1 _ hC))
theorem cg_622_2974 (hd : 12 ≤ d) (hS : mz_extR S 343) (hR : mz_rok R 343) (L : Nat) (xs : Nat → Int32) (v4 : Int32) (N : mz_N) (b : Bool) (t : Nat) {C0 : (Bool × mz_N × Bool × Nat) → Prop} (hr : ∀ (w : Bool) (N2 : mz_N) (b2 : Bool) (t2 : Nat), C0 (w, N2, b2, t2) → Q (.inl (some (.int (mz_b01 w)))) (mz_k S R N2 b2 t2)) {C1 : ((Int32 × mz_N × Bool × Nat) ⊕ (Bool × mz_N × Bool × Nat)) → Prop} (hc1 : ∀ s2, C1 (.inl s2) → mz_G (d, mz_X0 L xs, some .boolean, [], mk_622, 8, Q) 35 mt_622_35 [(0, .ref 1002), (1, .ref 0), (2, .ref 232), (3, .ref 342), (4, .int s2.1)] [] false (mz_k S R s2.2.1 s2.2.2.1 s2.2.2.2)) (hx1 : ∀ z, C1 (.inr z) → C0 z) (hp : cp_622_2974 L xs v4 N b t) (hC : C1 (cf_622_2974 L xs v4 N b t)) : mz_G (d, mz_X0 L xs, some .boolean, [], mk_622, 8, Q) 2974 mt_622_2974 [(0, .ref 1002), (1, .ref 0), (2, .ref 232), (3, .ref 342), (4, .int v4)] [] false (mz_k S R N b t) := by
  unfold cf_622_2974 at hC
  unfold cp_622_2974 at hp
  refine g_goto (tg := 4500) rfl ms_622_4500 ?_
  refine g_weak ?_ (g_cl (cg_622_4500 hd hS hR L xs v4 N b t hr hc1 hx1 hp hC))
  exact ⟨rfl, rfl, rfl, rfl, rfl, trivial⟩
theorem cg_622_2946 (hd : 12 ≤ d) (hS : mz_extR S 343) (hR : mz_rok R 343) (L : Nat) (xs : Nat → Int32) (v4 : Int32) (v5 : Int32) (v6 : Int32) (N : mz_N) (b : Bool) (t : Nat) {C0 : (Bool × mz_N × Bool × Nat) → Prop} (hr : ∀ (w : Bool) (N2 : mz_N) (b2 : Bool) (t2 : Nat), C0 (w, N2, b2, t2) → Q (.inl (some (.int (mz_b01 w)))) (mz_k S R N2 b2 t2)) {C1 : ((Int32 × mz_N × Bool × Nat) ⊕ (Bool × mz_N × Bool × Nat)) → Prop} (hc1 : ∀ s2, C1 (.inl s2) → mz_G (d, mz_X0 L xs, some .boolean, [], mk_622, 8, Q) 35 mt_622_35 [(0, .ref 1002), (1, .ref 0), (2, .ref 232), (3, .ref 342), (4, .int s2.1)] [] false (mz_k S R s2.2.1 s2.2.2.1 s2.2.2.2)) (hx1 : ∀ z, C1 (.inr z) → C0 z) (hp : cp_622_2946 L xs v4 v5 v6 N b t) (hC : C1 (cf_622_2946 L xs v4 v5 v6 N b t)) : mz_G (d, mz_X0 L xs, some .boolean, [], mk_622, 8, Q) 2946 mt_622_2946 [(0, .ref 1002), (1, .ref 0), (2, .ref 232), (3, .ref 342), (4, .int v4), (5, .int v5), (6, .int v6)] [] false (mz_k S R N b t) := by
  unfold cf_622_2946 at hC
  unfold cp_622_2946 at hp
  refine g_aload_n rfl ?_
  refine g_v1v (Nat.le_of_ble_eq_true rfl) (mz_at hS (Nat.le_of_ble_eq_true rfl) mzcS_232) (fun _ hq => cs_459 (Nat.le_trans (Nat.le_of_ble_eq_true rfl) hd) (hS.le (Nat.le_of_ble_eq_true rfl)) (hR.le (Nat.le_of_ble_eq_true rfl))  N trivial hq) (g_iload rfl ?_)
  refine g_iceq (tg := 2957) rfl ms_622_2957 hC (fun h2 hC => ?_) (fun h2 hC => ?_)
  · have hp := hp.1 h2
    refine g_iload rfl ?_
    refine g_ifne (tg := 2974) rfl ms_622_2974 hC (fun h3 hC => ?_) (fun h3 hC => ?_)
    · have hp := hp.1 h3
      refine g_aload_n rfl (g_iconst mzi_0 (g_lald (mz_at hS (Nat.le_of_ble_eq_true rfl) mzcS_342) (mz_ibd (by decide)) (g_iload rfl (g_i2l (g_lcmp ?_)))))
      refine g_leq (tg := 2974) rfl ms_622_2974 hC (fun h4 hC => ?_) (fun h4 hC => ?_)
      · have hp := hp.1 h4
        refine g_weak ?_ (g_cl (cg_622_2974 hd hS hR L xs v4 N b t hr hc1 hx1 hp hC))
        exact ⟨rfl, rfl, rfl, rfl, rfl, trivial⟩
      · have hp := hp.2 h4
        refine g_iconst mzi_0 ?_
        exact g_zret (z := false) rfl (hr _ _ _ _ (hx1 _ hC))
    · have hp := hp.2 h3
      refine g_weak ?_ (g_cl (cg_622_2974 hd hS hR L xs v4 N b t hr hc1 hx1 hp hC))
      exact ⟨rfl, rfl, rfl, rfl, rfl, trivial⟩
  · have hp := hp.2 h2
    refine g_iconst mzi_0 ?_
    exact g_zret (z := false) rfl (hr _ _ _ _ (hx1 _ hC))
theorem cg_622_1955 (hd : 12 ≤ d) (hS : mz_extR S 343) (hR : mz_rok R 343) (L : Nat) (xs : Nat → Int32) (v4 : Int32) (N : mz_N) (b : Bool) (t : Nat) {C0 : (Bool × mz_N × Bool × Nat) → Prop} (hr : ∀ (w : Bool) (N2 : mz_N) (b2 : Bool) (t2 : Nat), C0 (w, N2, b2, t2) → Q (.inl (some (.int (mz_b01 w)))) (mz_k S R N2 b2 t2)) {C1 : ((Int32 × mz_N × Bool × Nat) ⊕ (Bool × mz_N × Bool × Nat)) → Prop} (hc1 : ∀ s2, C1 (.inl s2) → mz_G (d, mz_X0 L xs, some .boolean, [], mk_622, 8, Q) 35 mt_622_35 [(0, .ref 1002), (1, .ref 0), (2, .ref 232), (3, .ref 342), (4, .int s2.1)] [] false (mz_k S R s2.2.1 s2.2.2.1 s2.2.2.2)) (hx1 : ∀ z, C1 (.inr z) → C0 z) (hp : cp_622_1955 L xs v4 N b t) (hC : C1 (cf_622_1955 L xs v4 N b t)) : mz_G (d, mz_X0 L xs, some .boolean, [], mk_622, 8, Q) 1955 mt_622_1955 [(0, .ref 1002), (1, .ref 0), (2, .ref 232), (3, .ref 342), (4, .int v4)] [] false (mz_k S R N b t) := by
  unfold cf_622_1955 at hC
  unfold cp_622_1955 at hp
  refine g_goto (tg := 4500) rfl ms_622_4500 ?_
  refine g_weak ?_ (g_cl (cg_622_4500 hd hS hR L xs v4 N b t hr hc1 hx1 hp hC))
  exact ⟨rfl, rfl, rfl, rfl, rfl, trivial⟩
theorem cg_622_1927 (hd : 12 ≤ d) (hS : mz_extR S 343) (hR : mz_rok R 343) (L : Nat) (xs : Nat → Int32) (v4 : Int32) (v5 : Int32) (v6 : Int32) (N : mz_N) (b : Bool) (t : Nat) {C0 : (Bool × mz_N × Bool × Nat) → Prop} (hr : ∀ (w : Bool) (N2 : mz_N) (b2 : Bool) (t2 : Nat), C0 (w, N2, b2, t2) → Q (.inl (some (.int (mz_b01 w)))) (mz_k S R N2 b2 t2)) {C1 : ((Int32 × mz_N × Bool × Nat) ⊕ (Bool × mz_N × Bool × Nat)) → Prop} (hc1 : ∀ s2, C1 (.inl s2) → mz_G (d, mz_X0 L xs, some .boolean, [], mk_622, 8, Q) 35 mt_622_35 [(0, .ref 1002), (1, .ref 0), (2, .ref 232), (3, .ref 342), (4, .int s2.1)] [] false (mz_k S R s2.2.1 s2.2.2.1 s2.2.2.2)) (hx1 : ∀ z, C1 (.inr z) → C0 z) (hp : cp_622_1927 L xs v4 v5 v6 N b t) (hC : C1 (cf_622_1927 L xs v4 v5 v6 N b t)) : mz_G (d, mz_X0 L xs, some .boolean, [], mk_622, 8, Q) 1927 mt_622_1927 [(0, .ref 1002), (1, .ref 0), (2, .ref 232), (3, .ref 342), (4, .int v4), (5, .int v5), (6, .int v6)] [] false (mz_k S R N b t) := by
  unfold cf_622_1927 at hC
  unfold cp_622_1927 at hp
  refine g_aload_n rfl ?_
  refine g_v1v (Nat.le_of_ble_eq_true rfl) (mz_at hS (Nat.le_of_ble_eq_true rfl) mzcS_232) (fun _ hq => cs_459 (Nat.le_trans (Nat.le_of_ble_eq_true rfl) hd) (hS.le (Nat.le_of_ble_eq_true rfl)) (hR.le (Nat.le_of_ble_eq_true rfl))  N trivial hq) (g_iload rfl ?_)
  refine g_iceq (tg := 1938) rfl ms_622_1938 hC (fun h2 hC => ?_) (fun h2 hC => ?_)
  · have hp := hp.1 h2
    refine g_iload rfl ?_
    refine g_ifne (tg := 1955) rfl ms_622_1955 hC (fun h3 hC => ?_) (fun h3 hC => ?_)
    · have hp := hp.1 h3
      refine g_aload_n rfl (g_iconst mzi_0 (g_lald (mz_at hS (Nat.le_of_ble_eq_true rfl) mzcS_342) (mz_ibd (by decide)) (g_iload rfl (g_i2l (g_lcmp ?_)))))
      refine g_leq (tg := 1955) rfl ms_622_1955 hC (fun h4 hC => ?_) (fun h4 hC => ?_)
      · have hp := hp.1 h4
        refine g_weak ?_ (g_cl (cg_622_1955 hd hS hR L xs v4 N b t hr hc1 hx1 hp hC))
        exact ⟨rfl, rfl, rfl, rfl, rfl, trivial⟩
      · have hp := hp.2 h4
        refine g_iconst mzi_0 ?_
        exact g_zret (z := false) rfl (hr _ _ _ _ (hx1 _ hC))
    · have hp := hp.2 h3
      refine g_weak ?_ (g_cl (cg_622_1955 hd hS hR L xs v4 N b t hr hc1 hx1 hp hC))
      exact ⟨rfl, rfl, rfl, rfl, rfl, trivial⟩
  · have hp := hp.2 h2
    refine g_iconst mzi_0 ?_
    exact g_zret (z := false) rfl (hr _ _ _ _ (hx1 _ hC))
theorem cg_622_723 (hd : 12 ≤ d) (hS : mz_extR S 343) (hR : mz_rok R 343) (L : Nat) (xs : Nat → Int32) (v4 : Int32) (N : mz_N) (b : Bool) (t : Nat) {C0 : (Bool × mz_N × Bool × Nat) → Prop} (hr : ∀ (w : Bool) (N2 : mz_N) (b2 : Bool) (t2 : Nat), C0 (w, N2, b2, t2) → Q (.inl (some (.int (mz_b01 w)))) (mz_k S R N2 b2 t2)) {C1 : ((Int32 × mz_N × Bool × Nat) ⊕ (Bool × mz_N × Bool × Nat)) → Prop} (hc1 : ∀ s2, C1 (.inl s2) → mz_G (d, mz_X0 L xs, some .boolean, [], mk_622, 8, Q) 35 mt_622_35 [(0, .ref 1002), (1, .ref 0), (2, .ref 232), (3, .ref 342), (4, .int s2.1)] [] false (mz_k S R s2.2.1 s2.2.2.1 s2.2.2.2)) (hx1 : ∀ z, C1 (.inr z) → C0 z) (hp : cp_622_723 L xs v4 N b t) (hC : C1 (cf_622_723 L xs v4 N b t)) : mz_G (d, mz_X0 L xs, some .boolean, [], mk_622, 8, Q) 723 mt_622_723 [(0, .ref 1002), (1, .ref 0), (2, .ref 232), (3, .ref 342), (4, .int v4)] [] false (mz_k S R N b t) := by
  unfold cf_622_723 at hC
  unfold cp_622_723 at hp
  refine g_goto (tg := 4500) rfl ms_622_4500 ?_
  refine g_weak ?_ (g_cl (cg_622_4500 hd hS hR L xs v4 N b t hr hc1 hx1 hp hC))
  exact ⟨rfl, rfl, rfl, rfl, rfl, trivial⟩
theorem cg_622_690 (hd : 12 ≤ d) (hS : mz_extR S 343) (hR : mz_rok R 343) (L : Nat) (xs : Nat → Int32) (s1 : Int32) (s2 : Int32) (s3 : Bool) (v4 : Int32) (v5 : Int32) (N : mz_N) (b : Bool) (t : Nat) {C0 : (Bool × mz_N × Bool × Nat) → Prop} (hr : ∀ (w : Bool) (N2 : mz_N) (b2 : Bool) (t2 : Nat), C0 (w, N2, b2, t2) → Q (.inl (some (.int (mz_b01 w)))) (mz_k S R N2 b2 t2)) {C1 : ((Int32 × mz_N × Bool × Nat) ⊕ (Bool × mz_N × Bool × Nat)) → Prop} (hc1 : ∀ s2, C1 (.inl s2) → mz_G (d, mz_X0 L xs, some .boolean, [], mk_622, 8, Q) 35 mt_622_35 [(0, .ref 1002), (1, .ref 0), (2, .ref 232), (3, .ref 342), (4, .int s2.1)] [] false (mz_k S R s2.2.1 s2.2.2.1 s2.2.2.2)) (hx1 : ∀ z, C1 (.inr z) → C0 z) (hp : cp_622_690 L xs s1 s2 s3 v4 v5 N b t) (hC : C1 (cf_622_690 L xs s1 s2 s3 v4 v5 N b t)) : mz_G (d, mz_X0 L xs, some .boolean, [], mk_622, 8, Q) 690 mt_622_690 [(0, .ref 1002), (1, .ref 0), (2, .ref 232), (3, .ref 342), (4, .int v4), (5, .int v5)] [.int (mz_b01 s3), .int s2, .int s1, .ref 232] false (mz_k S R N b t) := by
  unfold cf_622_690 at hC
  unfold cp_622_690 at hp
  obtain ⟨h1, hp⟩ := hp
  refine g_v4v (Nat.le_of_ble_eq_true rfl) (mz_at hS (Nat.le_of_ble_eq_true rfl) mzcS_232) (fun _ hq => cs_480 (Nat.le_trans (Nat.le_of_ble_eq_true rfl) hd) (hS.le (Nat.le_of_ble_eq_true rfl)) (hR.le (Nat.le_of_ble_eq_true rfl))  s1 s2 s3 N h1 hq) (g_istore (Nat.le_of_ble_eq_true rfl) rfl (g_aload_n rfl ?_))
  refine g_v1v (Nat.le_of_ble_eq_true rfl) (mz_at hS (Nat.le_of_ble_eq_true rfl) mzcS_232) (fun _ hq => cs_459 (Nat.le_trans (Nat.le_of_ble_eq_true rfl) hd) (hS.le (Nat.le_of_ble_eq_true rfl)) (hR.le (Nat.le_of_ble_eq_true rfl))  ((cf_480_0 s1 s2 s3 N).2) trivial hq) (g_iload rfl ?_)
  refine g_iceq (tg := 706) rfl ms_622_706 hC (fun h3 hC => ?_) (fun h3 hC => ?_)
  · have hp := hp.1 h3
    refine g_iload rfl ?_
    refine g_ifne (tg := 723) rfl ms_622_723 hC (fun h4 hC => ?_) (fun h4 hC => ?_)
    · have hp := hp.1 h4
      refine g_aload_n rfl (g_iconst mzi_0 (g_lald (mz_at hS (Nat.le_of_ble_eq_true rfl) mzcS_342) (mz_ibd (by decide)) (g_iload rfl (g_i2l (g_lcmp ?_)))))
      refine g_leq (tg := 723) rfl ms_622_723 hC (fun h5 hC => ?_) (fun h5 hC => ?_)
      · have hp := hp.1 h5
        refine g_weak ?_ (g_cl (cg_622_723 hd hS hR L xs v4 ((cf_480_0 s1 s2 s3 N).2) b t hr hc1 hx1 hp hC))
        exact ⟨rfl, rfl, rfl, rfl, rfl, trivial⟩
      · have hp := hp.2 h5
        refine g_iconst mzi_0 ?_
        exact g_zret (z := false) rfl (hr _ _ _ _ (hx1 _ hC))
    · have hp := hp.2 h4
      refine g_weak ?_ (g_cl (cg_622_723 hd hS hR L xs v4 ((cf_480_0 s1 s2 s3 N).2) b t hr hc1 hx1 hp hC))
      exact ⟨rfl, rfl, rfl, rfl, rfl, trivial⟩
  · have hp := hp.2 h3
    refine g_iconst mzi_0 ?_
    exact g_zret (z := false) rfl (hr _ _ _ _ (hx1 _ hC))
theorem cg_622_657 (hd : 12 ≤ d) (hS : mz_extR S 343) (hR : mz_rok R 343) (L : Nat) (xs : Nat → Int32) (s1 : Int32) (s2 : Int32) (s3 : Bool) (v4 : Int32) (N : mz_N) (b : Bool) (t : Nat) {C0 : (Bool × mz_N × Bool × Nat) → Prop} (hr : ∀ (w : Bool) (N2 : mz_N) (b2 : Bool) (t2 : Nat), C0 (w, N2, b2, t2) → Q (.inl (some (.int (mz_b01 w)))) (mz_k S R N2 b2 t2)) {C1 : ((Int32 × mz_N × Bool × Nat) ⊕ (Bool × mz_N × Bool × Nat)) → Prop} (hc1 : ∀ s2, C1 (.inl s2) → mz_G (d, mz_X0 L xs, some .boolean, [], mk_622, 8, Q) 35 mt_622_35 [(0, .ref 1002), (1, .ref 0), (2, .ref 232), (3, .ref 342), (4, .int s2.1)] [] false (mz_k S R s2.2.1 s2.2.2.1 s2.2.2.2)) (hx1 : ∀ z, C1 (.inr z) → C0 z) (hp : cp_622_657 L xs s1 s2 s3 v4 N b t) (hC : C1 (cf_622_657 L xs s1 s2 s3 v4 N b t)) : mz_G (d, mz_X0 L xs, some .boolean, [], mk_622, 8, Q) 657 mt_622_657 [(0, .ref 1002), (1, .ref 0), (2, .ref 232), (3, .ref 342), (4, .int v4)] [.int (mz_b01 s3), .int s2, .int s1, .ref 0] false (mz_k S R N b t) := by
  unfold cf_622_657 at hC
  unfold cp_622_657 at hp
  refine g_aload_n rfl ?_
  obtain ⟨h1, hp⟩ := hp
  refine g_s5v (Nat.le_of_ble_eq_true rfl) (fun _ hq => cs_144 (Nat.le_trans (Nat.le_of_ble_eq_true rfl) hd) (hS.le (Nat.le_of_ble_eq_true rfl)) (hR.le (Nat.le_of_ble_eq_true rfl))  s1 s2 s3 N t h1 hq) (g_istore (Nat.le_of_ble_eq_true rfl) rfl (g_aload_n rfl (g_aload_n rfl (g_iload rfl (g_iconst mzi_1 (g_iadd ?_))))))
  obtain ⟨h2, hp⟩ := hp
  refine g_iald1002 h2 (g_aload_n rfl (g_iload rfl (g_iconst mzi_2 (g_iadd ?_))))
  obtain ⟨h3, hp⟩ := hp
  refine g_iald1002 h3 (g_aload_n rfl (g_iload rfl (g_iconst mzi_3 (g_iadd ?_))))
  obtain ⟨h4, hp⟩ := hp
  refine g_iald1002 h4 ?_
  refine g_ifeq (tg := 689) rfl ms_622_689 hC (fun h5 hC => ?_) (fun h5 hC => ?_)
  · have hp := hp.1 h5
    refine g_iconst mzi_0 ?_
    refine g_weak ?_ (g_cl (cg_622_690 hd hS hR L xs (xs (v4 + 1).toNatClampNeg) (xs (v4 + 2).toNatClampNeg) false v4 ((cf_144_0 s1 s2 s3 N t).1) ((cf_144_0 s1 s2 s3 N t).2.1) b ((cf_144_0 s1 s2 s3 N t).2.2) hr hc1 hx1 hp hC))
    exact ⟨rfl, rfl, rfl, rfl, rfl, rfl, trivial⟩
  · have hp := hp.2 h5
    refine g_iconst mzi_1 (g_goto (tg := 690) rfl ms_622_690 ?_)
    refine g_weak ?_ (g_cl (cg_622_690 hd hS hR L xs (xs (v4 + 1).toNatClampNeg) (xs (v4 + 2).toNatClampNeg) true v4 ((cf_144_0 s1 s2 s3 N t).1) ((cf_144_0 s1 s2 s3 N t).2.1) b ((cf_144_0 s1 s2 s3 N t).2.2) hr hc1 hx1 hp hC))
    exact ⟨rfl, rfl, rfl, rfl, rfl, rfl, trivial⟩
theorem cg_622_4497 (hd : 12 ≤ d) (hS : mz_extR S 343) (hR : mz_rok R 343) (L : Nat) (xs : Nat → Int32) (v4 : Int32) (N : mz_N) (b : Bool) (t : Nat) {C0 : (Bool × mz_N × Bool × Nat) → Prop} (hr : ∀ (w : Bool) (N2 : mz_N) (b2 : Bool) (t2 : Nat), C0 (w, N2, b2, t2) → Q (.inl (some (.int (mz_b01 w)))) (mz_k S R N2 b2 t2)) {C1 : ((Int32 × mz_N × Bool × Nat) ⊕ (Bool × mz_N × Bool × Nat)) → Prop} (hc1 : ∀ s2, C1 (.inl s2) → mz_G (d, mz_X0 L xs, some .boolean, [], mk_622, 8, Q) 35 mt_622_35 [(0, .ref 1002), (1, .ref 0), (2, .ref 232), (3, .ref 342), (4, .int s2.1)] [] false (mz_k S R s2.2.1 s2.2.2.1 s2.2.2.2)) (hx1 : ∀ z, C1 (.inr z) → C0 z) (hp : cp_622_4497 L xs v4 N b t) (hC : C1 (cf_622_4497 L xs v4 N b t)) : mz_G (d, mz_X0 L xs, some .boolean, [], mk_622, 8, Q) 4497 mt_622_4497 [(0, .ref 1002), (1, .ref 0), (2, .ref 232), (3, .ref 342), (4, .int v4)] [] false (mz_k S R N b t) := by
  unfold cf_622_4497 at hC
  unfold cp_622_4497 at hp
  refine g_goto (tg := 4500) rfl ms_622_4500 ?_
  refine g_weak ?_ (g_cl (cg_622_4500 hd hS hR L xs v4 N b t hr hc1 hx1 hp hC))
  exact ⟨rfl, rfl, rfl, rfl, rfl, trivial⟩
theorem cg_622_915 (hd : 12 ≤ d) (hS : mz_extR S 343) (hR : mz_rok R 343) (L : Nat) (xs : Nat → Int32) (v4 : Int32) (N : mz_N) (b : Bool) (t : Nat) {C0 : (Bool × mz_N × Bool × Nat) → Prop} (hr : ∀ (w : Bool) (N2 : mz_N) (b2 : Bool) (t2 : Nat), C0 (w, N2, b2, t2) → Q (.inl (some (.int (mz_b01 w)))) (mz_k S R N2 b2 t2)) {C1 : ((Int32 × mz_N × Bool × Nat) ⊕ (Bool × mz_N × Bool × Nat)) → Prop} (hc1 : ∀ s2, C1 (.inl s2) → mz_G (d, mz_X0 L xs, some .boolean, [], mk_622, 8, Q) 35 mt_622_35 [(0, .ref 1002), (1, .ref 0), (2, .ref 232), (3, .ref 342), (4, .int s2.1)] [] false (mz_k S R s2.2.1 s2.2.2.1 s2.2.2.2)) (hx1 : ∀ z, C1 (.inr z) → C0 z) (hp : cp_622_915 L xs v4 N b t) (hC : C1 (cf_622_915 L xs v4 N b t)) : mz_G (d, mz_X0 L xs, some .boolean, [], mk_622, 8, Q) 915 mt_622_915 [(0, .ref 1002), (1, .ref 0), (2, .ref 232), (3, .ref 342), (4, .int v4)] [] false (mz_k S R N b t) := by
  unfold cf_622_915 at hC
  unfold cp_622_915 at hp
  refine g_goto (tg := 4500) rfl ms_622_4500 ?_
  refine g_weak ?_ (g_cl (cg_622_4500 hd hS hR L xs v4 N b t hr hc1 hx1 hp hC))
  exact ⟨rfl, rfl, rfl, rfl, rfl, trivial⟩
theorem cg_622_1483 (hd : 12 ≤ d) (hS : mz_extR S 343) (hR : mz_rok R 343) (L : Nat) (xs : Nat → Int32) (v4 : Int32) (N : mz_N) (b : Bool) (t : Nat) {C0 : (Bool × mz_N × Bool × Nat) → Prop} (hr : ∀ (w : Bool) (N2 : mz_N) (b2 : Bool) (t2 : Nat), C0 (w, N2, b2, t2) → Q (.inl (some (.int (mz_b01 w)))) (mz_k S R N2 b2 t2)) {C1 : ((Int32 × mz_N × Bool × Nat) ⊕ (Bool × mz_N × Bool × Nat)) → Prop} (hc1 : ∀ s2, C1 (.inl s2) → mz_G (d, mz_X0 L xs, some .boolean, [], mk_622, 8, Q) 35 mt_622_35 [(0, .ref 1002), (1, .ref 0), (2, .ref 232), (3, .ref 342), (4, .int s2.1)] [] false (mz_k S R s2.2.1 s2.2.2.1 s2.2.2.2)) (hx1 : ∀ z, C1 (.inr z) → C0 z) (hp : cp_622_1483 L xs v4 N b t) (hC : C1 (cf_622_1483 L xs v4 N b t)) : mz_G (d, mz_X0 L xs, some .boolean, [], mk_622, 8, Q) 1483 mt_622_1483 [(0, .ref 1002), (1, .ref 0), (2, .ref 232), (3, .ref 342), (4, .int v4)] [] false (mz_k S R N b t) := by
  unfold cf_622_1483 at hC
  unfold cp_622_1483 at hp
  refine g_goto (tg := 4500) rfl ms_622_4500 ?_
  refine g_weak ?_ (g_cl (cg_622_4500 hd hS hR L xs v4 N b t hr hc1 hx1 hp hC))
  exact ⟨rfl, rfl, rfl, rfl, rfl, trivial⟩
theorem cg_622_1455 (hd : 12 ≤ d) (hS : mz_extR S 343) (hR : mz_rok R 343) (L : Nat) (xs : Nat → Int32) (v4 : Int32) (v5 : Int32) (v6 : Int32) (N : mz_N) (b : Bool) (t : Nat) {C0 : (Bool × mz_N × Bool × Nat) → Prop} (hr : ∀ (w : Bool) (N2 : mz_N) (b2 : Bool) (t2 : Nat), C0 (w, N2, b2, t2) → Q (.inl (some (.int (mz_b01 w)))) (mz_k S R N2 b2 t2)) {C1 : ((Int32 × mz_N × Bool × Nat) ⊕ (Bool × mz_N × Bool × Nat)) → Prop} (hc1 : ∀ s2, C1 (.inl s2) → mz_G (d, mz_X0 L xs, some .boolean, [], mk_622, 8, Q) 35 mt_622_35 [(0, .ref 1002), (1, .ref 0), (2, .ref 232), (3, .ref 342), (4, .int s2.1)] [] false (mz_k S R s2.2.1 s2.2.2.1 s2.2.2.2)) (hx1 : ∀ z, C1 (.inr z) → C0 z) (hp : cp_622_1455 L xs v4 v5 v6 N b t) (hC : C1 (cf_622_1455 L xs v4 v5 v6 N b t)) : mz_G (d, mz_X0 L xs, some .boolean, [], mk_622, 8, Q) 1455 mt_622_1455 [(0, .ref 1002), (1, .ref 0), (2, .ref 232), (3, .ref 342), (4, .int v4), (5, .int v5), (6, .int v6)] [] false (mz_k S R N b t) := by
  unfold cf_622_1455 at hC
  unfold cp_622_1455 at hp
  refine g_aload_n rfl ?_
  refine g_v1v (Nat.le_of_ble_eq_true rfl) (mz_at hS (Nat.le_of_ble_eq_true rfl) mzcS_232) (fun _ hq => cs_459 (Nat.le_trans (Nat.le_of_ble_eq_true rfl) hd) (hS.le (Nat.le_of_ble_eq_true rfl)) (hR.le (Nat.le_of_ble_eq_true rfl))  N trivial hq) (g_iload rfl ?_)
  refine g_iceq (tg := 1466) rfl ms_622_1466 hC (fun h2 hC => ?_) (fun h2 hC => ?_)
  · have hp := hp.1 h2
    refine g_iload rfl ?_
    refine g_ifne (tg := 1483) rfl ms_622_1483 hC (fun h3 hC => ?_) (fun h3 hC => ?_)
    · have hp := hp.1 h3
      refine g_aload_n rfl (g_iconst mzi_0 (g_lald (mz_at hS (Nat.le_of_ble_eq_true rfl) mzcS_342) (mz_ibd (by decide)) (g_iload rfl (g_i2l (g_lcmp ?_)))))
      refine g_leq (tg := 1483) rfl ms_622_1483 hC (fun h4 hC => ?_) (fun h4 hC => ?_)
      · have hp := hp.1 h4
        refine g_weak ?_ (g_cl (cg_622_1483 hd hS hR L xs v4 N b t hr hc1 hx1 hp hC))
        exact ⟨rfl, rfl, rfl, rfl, rfl, trivial⟩
      · have hp := hp.2 h4
        refine g_iconst mzi_0 ?_
        exact g_zret (z := false) rfl (hr _ _ _ _ (hx1 _ hC))
    · have hp := hp.2 h3
      refine g_weak ?_ (g_cl (cg_622_1483 hd hS hR L xs v4 N b t hr hc1 hx1 hp hC))
      exact ⟨rfl, rfl, rfl, rfl, rfl, trivial⟩
  · have hp := hp.2 h2
    refine g_iconst mzi_0 ?_
    exact g_zret (z := false) rfl (hr _ _ _ _ (hx1 _ hC))
theorem cg_622_1431 (hd : 12 ≤ d) (hS : mz_extR S 343) (hR : mz_rok R 343) (L : Nat) (xs : Nat → Int32) (v4 : Int32) (v5 : Int32) (N : mz_N) (b : Bool) (t : Nat) {C0 : (Bool × mz_N × Bool × Nat) → Prop} (hr : ∀ (w : Bool) (N2 : mz_N) (b2 : Bool) (t2 : Nat), C0 (w, N2, b2, t2) → Q (.inl (some (.int (mz_b01 w)))) (mz_k S R N2 b2 t2)) {C1 : ((Int32 × mz_N × Bool × Nat) ⊕ (Bool × mz_N × Bool × Nat)) → Prop} (hc1 : ∀ s2, C1 (.inl s2) → mz_G (d, mz_X0 L xs, some .boolean, [], mk_622, 8, Q) 35 mt_622_35 [(0, .ref 1002), (1, .ref 0), (2, .ref 232), (3, .ref 342), (4, .int s2.1)] [] false (mz_k S R s2.2.1 s2.2.2.1 s2.2.2.2)) (hx1 : ∀ z, C1 (.inr z) → C0 z) (hp : cp_622_1431 L xs v4 v5 N b t) (hC : C1 (cf_622_1431 L xs v4 v5 N b t)) : mz_G (d, mz_X0 L xs, some .boolean, [], mk_622, 8, Q) 1431 mt_622_1431 [(0, .ref 1002), (1, .ref 0), (2, .ref 232), (3, .ref 342), (4, .int v4), (5, .int v5)] [] false (mz_k S R N b t) := by
  unfold cf_622_1431 at hC
  unfold cp_622_1431 at hp
  refine g_aload_n rfl (g_aload_n rfl (g_iload rfl (g_iconst mzi_1 (g_iadd ?_))))
  obtain ⟨h1, hp⟩ := hp
  refine g_iald1002 h1 (g_aload_n rfl (g_iload rfl (g_iconst mzi_2 (g_iadd ?_))))
  obtain ⟨h2, hp⟩ := hp
  refine g_iald1002 h2 (g_aload_n rfl (g_iload rfl (g_iconst mzi_3 (g_iadd ?_))))
  obtain ⟨h3, hp⟩ := hp
  refine g_iald1002 h3 ?_
  obtain ⟨h4, hp⟩ := hp
  refine g_v4v (Nat.le_of_ble_eq_true rfl) (mz_at hS (Nat.le_of_ble_eq_true rfl) mzcS_232) (fun _ hq => cs_497 (Nat.le_trans (Nat.le_of_ble_eq_true rfl) hd) (hS.le (Nat.le_of_ble_eq_true rfl)) (hR.le (Nat.le_of_ble_eq_true rfl))  (xs (v4 + 1).toNatClampNeg) (xs (v4 + 2).toNatClampNeg) (xs (v4 + 3).toNatClampNeg) N h4 hq) (g_istore (Nat.le_of_ble_eq_true rfl) rfl ?_)
  refine g_weak ?_ (g_cl (cg_622_1455 hd hS hR L xs v4 v5 ((cf_497_0 (xs (v4 + 1).toNatClampNeg) (xs (v4 + 2).toNatClampNeg) (xs (v4 + 3).toNatClampNeg) N).1) ((cf_497_0 (xs (v4 + 1).toNatClampNeg) (xs (v4 + 2).toNatClampNeg) (xs (v4 + 3).toNatClampNeg) N).2) b t hr hc1 hx1 hp hC))
  exact ⟨rfl, rfl, rfl, rfl, rfl, rfl, rfl, trivial⟩
theorem cg_622_4297 (hd : 12 ≤ d) (hS : mz_extR S 343) (hR : mz_rok R 343) (L : Nat) (xs : Nat → Int32) (v4 : Int32) (N : mz_N) (b : Bool) (t : Nat) {C0 : (Bool × mz_N × Bool × Nat) → Prop} (hr : ∀ (w : Bool) (N2 : mz_N) (b2 : Bool) (t2 : Nat), C0 (w, N2, b2, t2) → Q (.inl (some (.int (mz_b01 w)))) (mz_k S R N2 b2 t2)) {C1 : ((Int32 × mz_N × Bool × Nat) ⊕ (Bool × mz_N × Bool × Nat)) → Prop} (hc1 : ∀ s2, C1 (.inl s2) → mz_G (d, mz_X0 L xs, some .boolean, [], mk_622, 8, Q) 35 mt_622_35 [(0, .ref 1002), (1, .ref 0), (2, .ref 232), (3, .ref 342), (4, .int s2.1)] [] false (mz_k S R s2.2.1 s2.2.2.1 s2.2.2.2)) (hx1 : ∀ z, C1 (.inr z) → C0 z) (hp : cp_622_4297 L xs v4 N b t) (hC : C1 (cf_622_4297 L xs v4 N b t)) : mz_G (d, mz_X0 L xs, some .boolean, [], mk_622, 8, Q) 4297 mt_622_4297 [(0, .ref 1002), (1, .ref 0), (2, .ref 232), (3, .ref 342), (4, .int v4)] [] false (mz_k S R N b t) := by
  unfold cf_622_4297 at hC
  unfold cp_622_4297 at hp
  refine g_goto (tg := 4500) rfl ms_622_4500 ?_
  refine g_weak ?_ (g_cl (cg_622_4500 hd hS hR L xs v4 N b t hr hc1 hx1 hp hC))
  exact ⟨rfl, rfl, rfl, rfl, rfl, trivial⟩
theorem cg_622_4269 (hd : 12 ≤ d) (hS : mz_extR S 343) (hR : mz_rok R 343) (L : Nat) (xs : Nat → Int32) (v4 : Int32) (v5 : Int32) (v6 : Int32) (N : mz_N) (b : Bool) (t : Nat) {C0 : (Bool × mz_N × Bool × Nat) → Prop} (hr : ∀ (w : Bool) (N2 : mz_N) (b2 : Bool) (t2 : Nat), C0 (w, N2, b2, t2) → Q (.inl (some (.int (mz_b01 w)))) (mz_k S R N2 b2 t2)) {C1 : ((Int32 × mz_N × Bool × Nat) ⊕ (Bool × mz_N × Bool × Nat)) → Prop} (hc1 : ∀ s2, C1 (.inl s2) → mz_G (d, mz_X0 L xs, some .boolean, [], mk_622, 8, Q) 35 mt_622_35 [(0, .ref 1002), (1, .ref 0), (2, .ref 232), (3, .ref 342), (4, .int s2.1)] [] false (mz_k S R s2.2.1 s2.2.2.1 s2.2.2.2)) (hx1 : ∀ z, C1 (.inr z) → C0 z) (hp : cp_622_4269 L xs v4 v5 v6 N b t) (hC : C1 (cf_622_4269 L xs v4 v5 v6 N b t)) : mz_G (d, mz_X0 L xs, some .boolean, [], mk_622, 8, Q) 4269 mt_622_4269 [(0, .ref 1002), (1, .ref 0), (2, .ref 232), (3, .ref 342), (4, .int v4), (5, .int v5), (6, .int v6)] [] false (mz_k S R N b t) := by
  unfold cf_622_4269 at hC
  unfold cp_622_4269 at hp
  refine g_aload_n rfl ?_
  refine g_v1v (Nat.le_of_ble_eq_true rfl) (mz_at hS (Nat.le_of_ble_eq_true rfl) mzcS_232) (fun _ hq => cs_459 (Nat.le_trans (Nat.le_of_ble_eq_true rfl) hd) (hS.le (Nat.le_of_ble_eq_true rfl)) (hR.le (Nat.le_of_ble_eq_true rfl))  N trivial hq) (g_iload rfl ?_)
  refine g_iceq (tg := 4280) rfl ms_622_4280 hC (fun h2 hC => ?_) (fun h2 hC => ?_)
  · have hp := hp.1 h2
    refine g_iload rfl ?_
    refine g_ifne (tg := 4297) rfl ms_622_4297 hC (fun h3 hC => ?_) (fun h3 hC => ?_)
    · have hp := hp.1 h3
      refine g_aload_n rfl (g_iconst mzi_0 (g_lald (mz_at hS (Nat.le_of_ble_eq_true rfl) mzcS_342) (mz_ibd (by decide)) (g_iload rfl (g_i2l (g_lcmp ?_)))))
      refine g_leq (tg := 4297) rfl ms_622_4297 hC (fun h4 hC => ?_) (fun h4 hC => ?_)
      · have hp := hp.1 h4
        refine g_weak ?_ (g_cl (cg_622_4297 hd hS hR L xs v4 N b t hr hc1 hx1 hp hC))
        exact ⟨rfl, rfl, rfl, rfl, rfl, trivial⟩
      · have hp := hp.2 h4
        refine g_iconst mzi_0 ?_
        exact g_zret (z := false) rfl (hr _ _ _ _ (hx1 _ hC))
    · have hp := hp.2 h3
      refine g_weak ?_ (g_cl (cg_622_4297 hd hS hR L xs v4 N b t hr hc1 hx1 hp hC))
      exact ⟨rfl, rfl, rfl, rfl, rfl, trivial⟩
  · have hp := hp.2 h2
    refine g_iconst mzi_0 ?_
    exact g_zret (z := false) rfl (hr _ _ _ _ (hx1 _ hC))
theorem cg_622_3549 (hd : 12 ≤ d) (hS : mz_extR S 343) (hR : mz_rok R 343) (L : Nat) (xs : Nat → Int32) (v4 : Int32) (N : mz_N) (b : Bool) (t : Nat) {C0 : (Bool × mz_N × Bool × Nat) → Prop} (hr : ∀ (w : Bool) (N2 : mz_N) (b2 : Bool) (t2 : Nat), C0 (w, N2, b2, t2) → Q (.inl (some (.int (mz_b01 w)))) (mz_k S R N2 b2 t2)) {C1 : ((Int32 × mz_N × Bool × Nat) ⊕ (Bool × mz_N × Bool × Nat)) → Prop} (hc1 : ∀ s2, C1 (.inl s2) → mz_G (d, mz_X0 L xs, some .boolean, [], mk_622, 8, Q) 35 mt_622_35 [(0, .ref 1002), (1, .ref 0), (2, .ref 232), (3, .ref 342), (4, .int s2.1)] [] false (mz_k S R s2.2.1 s2.2.2.1 s2.2.2.2)) (hx1 : ∀ z, C1 (.inr z) → C0 z) (hp : cp_622_3549 L xs v4 N b t) (hC : C1 (cf_622_3549 L xs v4 N b t)) : mz_G (d, mz_X0 L xs, some .boolean, [], mk_622, 8, Q) 3549 mt_622_3549 [(0, .ref 1002), (1, .ref 0), (2, .ref 232), (3, .ref 342), (4, .int v4)] [] false (mz_k S R N b t) := by
  unfold cf_622_3549 at hC
  unfold cp_622_3549 at hp
  refine g_goto (tg := 4500) rfl ms_622_4500 ?_
  refine g_weak ?_ (g_cl (cg_622_4500 hd hS hR L xs v4 N b t hr hc1 hx1 hp hC))
  exact ⟨rfl, rfl, rfl, rfl, rfl, trivial⟩
theorem cg_622_3503 (hd : 12 ≤ d) (hS : mz_extR S 343) (hR : mz_rok R 343) (L : Nat) (xs : Nat → Int32) (v4 : Int32) (v5 : Int32) (N : mz_N) (b : Bool) (t : Nat) {C0 : (Bool × mz_N × Bool × Nat) → Prop} (hr : ∀ (w : Bool) (N2 : mz_N) (b2 : Bool) (t2 : Nat), C0 (w, N2, b2, t2) → Q (.inl (some (.int (mz_b01 w)))) (mz_k S R N2 b2 t2)) {C1 : ((Int32 × mz_N × Bool × Nat) ⊕ (Bool × mz_N × Bool × Nat)) → Prop} (hc1 : ∀ s2, C1 (.inl s2) → mz_G (d, mz_X0 L xs, some .boolean, [], mk_622, 8, Q) 35 mt_622_35 [(0, .ref 1002), (1, .ref 0), (2, .ref 232), (3, .ref 342), (4, .int s2.1)] [] false (mz_k S R s2.2.1 s2.2.2.1 s2.2.2.2)) (hx1 : ∀ z, C1 (.inr z) → C0 z) (hp : cp_622_3503 L xs v4 v5 N b t) (hC : C1 (cf_622_3503 L xs v4 v5 N b t)) : mz_G (d, mz_X0 L xs, some .boolean, [], mk_622, 8, Q) 3503 mt_622_3503 [(0, .ref 1002), (1, .ref 0), (2, .ref 232), (3, .ref 342), (4, .int v4), (5, .int v5)] [] false (mz_k S R N b t) := by
  unfold cf_622_3503 at hC
  unfold cp_622_3503 at hp
  refine g_aload_n rfl (g_aload_n rfl (g_iload rfl (g_iconst mzi_1 (g_iadd ?_))))
  obtain ⟨h1, hp⟩ := hp
  refine g_iald1002 h1 (g_aload_n rfl (g_iload rfl (g_iconst mzi_2 (g_iadd ?_))))
  obtain ⟨h2, hp⟩ := hp
  refine g_iald1002 h2 ?_
  obtain ⟨h3, hp⟩ := hp
  refine g_v3v (Nat.le_of_ble_eq_true rfl) (mz_at hS (Nat.le_of_ble_eq_true rfl) mzcS_232) (fun _ hq => cs_571 (Nat.le_trans (Nat.le_of_ble_eq_true rfl) hd) (hS.le (Nat.le_of_ble_eq_true rfl)) (hR.le (Nat.le_of_ble_eq_true rfl))  (xs (v4 + 1).toNatClampNeg) (xs (v4 + 2).toNatClampNeg) N h3 hq) (g_istore (Nat.le_of_ble_eq_true rfl) rfl (g_aload_n rfl ?_))
  refine g_v1v (Nat.le_of_ble_eq_true rfl) (mz_at hS (Nat.le_of_ble_eq_true rfl) mzcS_232) (fun _ hq => cs_459 (Nat.le_trans (Nat.le_of_ble_eq_true rfl) hd) (hS.le (Nat.le_of_ble_eq_true rfl)) (hR.le (Nat.le_of_ble_eq_true rfl))  ((cf_571_0 (xs (v4 + 1).toNatClampNeg) (xs (v4 + 2).toNatClampNeg) N).2) trivial hq) (g_iload rfl ?_)
  refine g_iceq (tg := 3532) rfl ms_622_3532 hC (fun h5 hC => ?_) (fun h5 hC => ?_)
  · have hp := hp.1 h5
    refine g_iload rfl ?_
    refine g_ifne (tg := 3549) rfl ms_622_3549 hC (fun h6 hC => ?_) (fun h6 hC => ?_)
    · have hp := hp.1 h6
      refine g_aload_n rfl (g_iconst mzi_0 (g_lald (mz_at hS (Nat.le_of_ble_eq_true rfl) mzcS_342) (mz_ibd (by decide)) (g_iload rfl (g_i2l (g_lcmp ?_)))))
      refine g_leq (tg := 3549) rfl ms_622_3549 hC (fun h7 hC => ?_) (fun h7 hC => ?_)
      · have hp := hp.1 h7
        refine g_weak ?_ (g_cl (cg_622_3549 hd hS hR L xs v4 ((cf_571_0 (xs (v4 + 1).toNatClampNeg) (xs (v4 + 2).toNatClampNeg) N).2) b t hr hc1 hx1 hp hC))
        exact ⟨rfl, rfl, rfl, rfl, rfl, trivial⟩
      · have hp := hp.2 h7
        refine g_iconst mzi_0 ?_
        exact g_zret (z := false) rfl (hr _ _ _ _ (hx1 _ hC))
    · have hp := hp.2 h6
      refine g_weak ?_ (g_cl (cg_622_3549 hd hS hR L xs v4 ((cf_571_0 (xs (v4 + 1).toNatClampNeg) (xs (v4 + 2).toNatClampNeg) N).2) b t hr hc1 hx1 hp hC))
      exact ⟨rfl, rfl, rfl, rfl, rfl, trivial⟩
  · have hp := hp.2 h5
    refine g_iconst mzi_0 ?_
    exact g_zret (z := false) rfl (hr _ _ _ _ (hx1 _ hC))
theorem cg_622_503 (hd : 12 ≤ d) (hS : mz_extR S 343) (hR : mz_rok R 343) (L : Nat) (xs : Nat → Int32) (v4 : Int32) (N : mz_N) (b : Bool) (t : Nat) {C0 : (Bool × mz_N × Bool × Nat) → Prop} (hr : ∀ (w : Bool) (N2 : mz_N) (b2 : Bool) (t2 : Nat), C0 (w, N2, b2, t2) → Q (.inl (some (.int (mz_b01 w)))) (mz_k S R N2 b2 t2)) {C1 : ((Int32 × mz_N × Bool × Nat) ⊕ (Bool × mz_N × Bool × Nat)) → Prop} (hc1 : ∀ s2, C1 (.inl s2) → mz_G (d, mz_X0 L xs, some .boolean, [], mk_622, 8, Q) 35 mt_622_35 [(0, .ref 1002), (1, .ref 0), (2, .ref 232), (3, .ref 342), (4, .int s2.1)] [] false (mz_k S R s2.2.1 s2.2.2.1 s2.2.2.2)) (hx1 : ∀ z, C1 (.inr z) → C0 z) (hp : cp_622_503 L xs v4 N b t) (hC : C1 (cf_622_503 L xs v4 N b t)) : mz_G (d, mz_X0 L xs, some .boolean, [], mk_622, 8, Q) 503 mt_622_503 [(0, .ref 1002), (1, .ref 0), (2, .ref 232), (3, .ref 342), (4, .int v4)] [] false (mz_k S R N b t) := by
  unfold cf_622_503 at hC
  unfold cp_622_503 at hp
  refine g_goto (tg := 4500) rfl ms_622_4500 ?_
  refine g_weak ?_ (g_cl (cg_622_4500 hd hS hR L xs v4 N b t hr hc1 hx1 hp hC))
  exact ⟨rfl, rfl, rfl, rfl, rfl, trivial⟩
theorem cg_622_475 (hd : 12 ≤ d) (hS : mz_extR S 343) (hR : mz_rok R 343) (L : Nat) (xs : Nat → Int32) (v4 : Int32) (v5 : Int32) (v6 : Int32) (N : mz_N) (b : Bool) (t : Nat) {C0 : (Bool × mz_N × Bool × Nat) → Prop} (hr : ∀ (w : Bool) (N2 : mz_N) (b2 : Bool) (t2 : Nat), C0 (w, N2, b2, t2) → Q (.inl (some (.int (mz_b01 w)))) (mz_k S R N2 b2 t2)) {C1 : ((Int32 × mz_N × Bool × Nat) ⊕ (Bool × mz_N × Bool × Nat)) → Prop} (hc1 : ∀ s2, C1 (.inl s2) → mz_G (d, mz_X0 L xs, some .boolean, [], mk_622, 8, Q) 35 mt_622_35 [(0, .ref 1002), (1, .ref 0), (2, .ref 232), (3, .ref 342), (4, .int s2.1)] [] false (mz_k S R s2.2.1 s2.2.2.1 s2.2.2.2)) (hx1 : ∀ z, C1 (.inr z) → C0 z) (hp : cp_622_475 L xs v4 v5 v6 N b t) (hC : C1 (cf_622_475 L xs v4 v5 v6 N b t)) : mz_G (d, mz_X0 L xs, some .boolean, [], mk_622, 8, Q) 475 mt_622_475 [(0, .ref 1002), (1, .ref 0), (2, .ref 232), (3, .ref 342), (4, .int v4), (5, .int v5), (6, .int v6)] [] false (mz_k S R N b t) := by
  unfold cf_622_475 at hC
  unfold cp_622_475 at hp
  refine g_aload_n rfl ?_
  refine g_v1v (Nat.le_of_ble_eq_true rfl) (mz_at hS (Nat.le_of_ble_eq_true rfl) mzcS_232) (fun _ hq => cs_459 (Nat.le_trans (Nat.le_of_ble_eq_true rfl) hd) (hS.le (Nat.le_of_ble_eq_true rfl)) (hR.le (Nat.le_of_ble_eq_true rfl))  N trivial hq) (g_iload rfl ?_)
  refine g_iceq (tg := 486) rfl ms_622_486 hC (fun h2 hC => ?_) (fun h2 hC => ?_)
  · have hp := hp.1 h2
    refine g_iload rfl ?_
    refine g_ifne (tg := 503) rfl ms_622_503 hC (fun h3 hC => ?_) (fun h3 hC => ?_)
    · have hp := hp.1 h3
      refine g_aload_n rfl (g_iconst mzi_0 (g_lald (mz_at hS (Nat.le_of_ble_eq_true rfl) mzcS_342) (mz_ibd (by decide)) (g_iload rfl (g_i2l (g_lcmp ?_)))))
      refine g_leq (tg := 503) rfl ms_622_503 hC (fun h4 hC => ?_) (fun h4 hC => ?_)
      · have hp := hp.1 h4
        refine g_weak ?_ (g_cl (cg_622_503 hd hS hR L xs v4 N b t hr hc1 hx1 hp hC))
        exact ⟨rfl, rfl, rfl, rfl, rfl, trivial⟩
      · have hp := hp.2 h4
        refine g_iconst mzi_0 ?_
        exact g_zret (z := false) rfl (hr _ _ _ _ (hx1 _ hC))
    · have hp := hp.2 h3
      refine g_weak ?_ (g_cl (cg_622_503 hd hS hR L xs v4 N b t hr hc1 hx1 hp hC))
      exact ⟨rfl, rfl, rfl, rfl, rfl, trivial⟩
  · have hp := hp.2 h2
    refine g_iconst mzi_0 ?_
    exact g_zret (z := false) rfl (hr _ _ _ _ (hx1 _ hC))
theorem cg_622_432 (hd : 12 ≤ d) (hS : mz_extR S 343) (hR : mz_rok R 343) (L : Nat) (xs : Nat → Int32) (v4 : Int32) (v5 : Int32) (N : mz_N) (b : Bool) (t : Nat) {C0 : (Bool × mz_N × Bool × Nat) → Prop} (hr : ∀ (w : Bool) (N2 : mz_N) (b2 : Bool) (t2 : Nat), C0 (w, N2, b2, t2) → Q (.inl (some (.int (mz_b01 w)))) (mz_k S R N2 b2 t2)) {C1 : ((Int32 × mz_N × Bool × Nat) ⊕ (Bool × mz_N × Bool × Nat)) → Prop} (hc1 : ∀ s2, C1 (.inl s2) → mz_G (d, mz_X0 L xs, some .boolean, [], mk_622, 8, Q) 35 mt_622_35 [(0, .ref 1002), (1, .ref 0), (2, .ref 232), (3, .ref 342), (4, .int s2.1)] [] false (mz_k S R s2.2.1 s2.2.2.1 s2.2.2.2)) (hx1 : ∀ z, C1 (.inr z) → C0 z) (hp : cp_622_432 L xs v4 v5 N b t) (hC : C1 (cf_622_432 L xs v4 v5 N b t)) : mz_G (d, mz_X0 L xs, some .boolean, [], mk_622, 8, Q) 432 mt_622_432 [(0, .ref 1002), (1, .ref 0), (2, .ref 232), (3, .ref 342), (4, .int v4), (5, .int v5)] [] false (mz_k S R N b t) := by
  unfold cf_622_432 at hC
  unfold cp_622_432 at hp
  refine g_aload_n rfl (g_aload_n rfl (g_iload rfl (g_iconst mzi_1 (g_iadd ?_))))
  obtain ⟨h1, hp⟩ := hp
  refine g_iald1002 h1 (g_aload_n rfl (g_iload rfl (g_iconst mzi_2 (g_iadd ?_))))
  obtain ⟨h2, hp⟩ := hp
  refine g_iald1002 h2 (g_aload_n rfl (g_iload rfl (g_iconst mzi_3 (g_iadd ?_))))
  obtain ⟨h3, hp⟩ := hp
  refine g_iald1002 h3 (g_aload_n rfl (g_iload rfl (g_iconst mzi_4 (g_iadd ?_))))
  obtain ⟨h4, hp⟩ := hp
  refine g_iald1002 h4 (g_aload_n rfl (g_iload rfl (g_iconst mzi_5 (g_iadd ?_))))
  obtain ⟨h5, hp⟩ := hp
  refine g_iald1002 h5 (g_aload_n rfl (g_iload rfl (g_bipush mzb_6 (g_iadd ?_))))
  obtain ⟨h6, hp⟩ := hp
  refine g_iald1002 h6 ?_
  obtain ⟨h7, hp⟩ := hp
  refine g_v7v (Nat.le_of_ble_eq_true rfl) (mz_at hS (Nat.le_of_ble_eq_true rfl) mzcS_232) (fun _ hq => cs_463 (Nat.le_trans (Nat.le_of_ble_eq_true rfl) hd) (hS.le (Nat.le_of_ble_eq_true rfl)) (hR.le (Nat.le_of_ble_eq_true rfl))  (xs (v4 + 1).toNatClampNeg) (xs (v4 + 2).toNatClampNeg) (xs (v4 + 3).toNatClampNeg) (xs (v4 + 4).toNatClampNeg) (xs (v4 + 5).toNatClampNeg) (xs (v4 + 6).toNatClampNeg) N h7 hq) (g_istore (Nat.le_of_ble_eq_true rfl) rfl ?_)
  refine g_weak ?_ (g_cl (cg_622_475 hd hS hR L xs v4 v5 ((cf_463_0 (xs (v4 + 1).toNatClampNeg) (xs (v4 + 2).toNatClampNeg) (xs (v4 + 3).toNatClampNeg) (xs (v4 + 4).toNatClampNeg) (xs (v4 + 5).toNatClampNeg) (xs (v4 + 6).toNatClampNeg) N).1) ((cf_463_0 (xs (v4 + 1).toNatClampNeg) (xs (v4 + 2).toNatClampNeg) (xs (v4 + 3).toNatClampNeg) (xs (v4 + 4).toNatClampNeg) (xs (v4 + 5).toNatClampNeg) (xs (v4 + 6).toNatClampNeg) N).2) b t hr hc1 hx1 hp hC))
  exact ⟨rfl, rfl, rfl, rfl, rfl, rfl, rfl, trivial⟩
theorem cg_622_1255 (hd : 12 ≤ d) (hS : mz_extR S 343) (hR : mz_rok R 343) (L : Nat) (xs : Nat → Int32) (v4 : Int32) (N : mz_N) (b : Bool) (t : Nat) {C0 : (Bool × mz_N × Bool × Nat) → Prop} (hr : ∀ (w : Bool) (N2 : mz_N) (b2 : Bool) (t2 : Nat), C0 (w, N2, b2, t2) → Q (.inl (some (.int (mz_b01 w)))) (mz_k S R N2 b2 t2)) {C1 : ((Int32 × mz_N × Bool × Nat) ⊕ (Bool × mz_N × Bool × Nat)) → Prop} (hc1 : ∀ s2, C1 (.inl s2) → mz_G (d, mz_X0 L xs, some .boolean, [], mk_622, 8, Q) 35 mt_622_35 [(0, .ref 1002), (1, .ref 0), (2, .ref 232), (3, .ref 342), (4, .int s2.1)] [] false (mz_k S R s2.2.1 s2.2.2.1 s2.2.2.2)) (hx1 : ∀ z, C1 (.inr z) → C0 z) (hp : cp_622_1255 L xs v4 N b t) (hC : C1 (cf_622_1255 L xs v4 N b t)) : mz_G (d, mz_X0 L xs, some .boolean, [], mk_622, 8, Q) 1255 mt_622_1255 [(0, .ref 1002), (1, .ref 0), (2, .ref 232), (3, .ref 342), (4, .int v4)] [] false (mz_k S R N b t) := by
  unfold cf_622_1255 at hC
  unfold cp_622_1255 at hp
  refine g_goto (tg := 4500) rfl ms_622_4500 ?_
  refine g_weak ?_ (g_cl (cg_622_4500 hd hS hR L xs v4 N b t hr hc1 hx1 hp hC))
  exact ⟨rfl, rfl, rfl, rfl, rfl, trivial⟩
theorem cg_622_1227 (hd : 12 ≤ d) (hS : mz_extR S 343) (hR : mz_rok R 343) (L : Nat) (xs : Nat → Int32) (v4 : Int32) (v5 : Int32) (v6 : Int32) (N : mz_N) (b : Bool) (t : Nat) {C0 : (Bool × mz_N × Bool × Nat) → Prop} (hr : ∀ (w : Bool) (N2 : mz_N) (b2 : Bool) (t2 : Nat), C0 (w, N2, b2, t2) → Q (.inl (some (.int (mz_b01 w)))) (mz_k S R N2 b2 t2)) {C1 : ((Int32 × mz_N × Bool × Nat) ⊕ (Bool × mz_N × Bool × Nat)) → Prop} (hc1 : ∀ s2, C1 (.inl s2) → mz_G (d, mz_X0 L xs, some .boolean, [], mk_622, 8, Q) 35 mt_622_35 [(0, .ref 1002), (1, .ref 0), (2, .ref 232), (3, .ref 342), (4, .int s2.1)] [] false (mz_k S R s2.2.1 s2.2.2.1 s2.2.2.2)) (hx1 : ∀ z, C1 (.inr z) → C0 z) (hp : cp_622_1227 L xs v4 v5 v6 N b t) (hC : C1 (cf_622_1227 L xs v4 v5 v6 N b t)) : mz_G (d, mz_X0 L xs, some .boolean, [], mk_622, 8, Q) 1227 mt_622_1227 [(0, .ref 1002), (1, .ref 0), (2, .ref 232), (3, .ref 342), (4, .int v4), (5, .int v5), (6, .int v6)] [] false (mz_k S R N b t) := by
  unfold cf_622_1227 at hC
  unfold cp_622_1227 at hp
  refine g_aload_n rfl ?_
  refine g_v1v (Nat.le_of_ble_eq_true rfl) (mz_at hS (Nat.le_of_ble_eq_true rfl) mzcS_232) (fun _ hq => cs_459 (Nat.le_trans (Nat.le_of_ble_eq_true rfl) hd) (hS.le (Nat.le_of_ble_eq_true rfl)) (hR.le (Nat.le_of_ble_eq_true rfl))  N trivial hq) (g_iload rfl ?_)
  refine g_iceq (tg := 1238) rfl ms_622_1238 hC (fun h2 hC => ?_) (fun h2 hC => ?_)
  · have hp := hp.1 h2
    refine g_iload rfl ?_
    refine g_ifne (tg := 1255) rfl ms_622_1255 hC (fun h3 hC => ?_) (fun h3 hC => ?_)
    · have hp := hp.1 h3
      refine g_aload_n rfl (g_iconst mzi_0 (g_lald (mz_at hS (Nat.le_of_ble_eq_true rfl) mzcS_342) (mz_ibd (by decide)) (g_iload rfl (g_i2l (g_lcmp ?_)))))
      refine g_leq (tg := 1255) rfl ms_622_1255 hC (fun h4 hC => ?_) (fun h4 hC => ?_)
      · have hp := hp.1 h4
        refine g_weak ?_ (g_cl (cg_622_1255 hd hS hR L xs v4 N b t hr hc1 hx1 hp hC))
        exact ⟨rfl, rfl, rfl, rfl, rfl, trivial⟩
      · have hp := hp.2 h4
        refine g_iconst mzi_0 ?_
        exact g_zret (z := false) rfl (hr _ _ _ _ (hx1 _ hC))
    · have hp := hp.2 h3
      refine g_weak ?_ (g_cl (cg_622_1255 hd hS hR L xs v4 N b t hr hc1 hx1 hp hC))
      exact ⟨rfl, rfl, rfl, rfl, rfl, trivial⟩
  · have hp := hp.2 h2
    refine g_iconst mzi_0 ?_
    exact g_zret (z := false) rfl (hr _ _ _ _ (hx1 _ hC))
theorem cg_622_1203 (hd : 12 ≤ d) (hS : mz_extR S 343) (hR : mz_rok R 343) (L : Nat) (xs : Nat → Int32) (v4 : Int32) (v5 : Int32) (N : mz_N) (b : Bool) (t : Nat) {C0 : (Bool × mz_N × Bool × Nat) → Prop} (hr : ∀ (w : Bool) (N2 : mz_N) (b2 : Bool) (t2 : Nat), C0 (w, N2, b2, t2) → Q (.inl (some (.int (mz_b01 w)))) (mz_k S R N2 b2 t2)) {C1 : ((Int32 × mz_N × Bool × Nat) ⊕ (Bool × mz_N × Bool × Nat)) → Prop} (hc1 : ∀ s2, C1 (.inl s2) → mz_G (d, mz_X0 L xs, some .boolean, [], mk_622, 8, Q) 35 mt_622_35 [(0, .ref 1002), (1, .ref 0), (2, .ref 232), (3, .ref 342), (4, .int s2.1)] [] false (mz_k S R s2.2.1 s2.2.2.1 s2.2.2.2)) (hx1 : ∀ z, C1 (.inr z) → C0 z) (hp : cp_622_1203 L xs v4 v5 N b t) (hC : C1 (cf_622_1203 L xs v4 v5 N b t)) : mz_G (d, mz_X0 L xs, some .boolean, [], mk_622, 8, Q) 1203 mt_622_1203 [(0, .ref 1002), (1, .ref 0), (2, .ref 232), (3, .ref 342), (4, .int v4), (5, .int v5)] [] false (mz_k S R N b t) := by
  unfold cf_622_1203 at hC
  unfold cp_622_1203 at hp
  refine g_aload_n rfl (g_aload_n rfl (g_iload rfl (g_iconst mzi_1 (g_iadd ?_))))
  obtain ⟨h1, hp⟩ := hp
  refine g_iald1002 h1 (g_aload_n rfl (g_iload rfl (g_iconst mzi_2 (g_iadd ?_))))
  obtain ⟨h2, hp⟩ := hp
  refine g_iald1002 h2 (g_aload_n rfl (g_iload rfl (g_iconst mzi_3 (g_iadd ?_))))
  obtain ⟨h3, hp⟩ := hp
  refine g_iald1002 h3 ?_
  obtain ⟨h4, hp⟩ := hp
  refine g_v4v (Nat.le_of_ble_eq_true rfl) (mz_at hS (Nat.le_of_ble_eq_true rfl) mzcS_232) (fun _ hq => cs_493 (Nat.le_trans (Nat.le_of_ble_eq_true rfl) hd) (hS.le (Nat.le_of_ble_eq_true rfl)) (hR.le (Nat.le_of_ble_eq_true rfl))  (xs (v4 + 1).toNatClampNeg) (xs (v4 + 2).toNatClampNeg) (xs (v4 + 3).toNatClampNeg) N h4 hq) (g_istore (Nat.le_of_ble_eq_true rfl) rfl ?_)
  refine g_weak ?_ (g_cl (cg_622_1227 hd hS hR L xs v4 v5 ((cf_493_0 (xs (v4 + 1).toNatClampNeg) (xs (v4 + 2).toNatClampNeg) (xs (v4 + 3).toNatClampNeg) N).1) ((cf_493_0 (xs (v4 + 1).toNatClampNeg) (xs (v4 + 2).toNatClampNeg) (xs (v4 + 3).toNatClampNeg) N).2) b t hr hc1 hx1 hp hC))
  exact ⟨rfl, rfl, rfl, rfl, rfl, rfl, rfl, trivial⟩
theorem cg_622_2277 (hd : 12 ≤ d) (hS : mz_extR S 343) (hR : mz_rok R 343) (L : Nat) (xs : Nat → Int32) (v4 : Int32) (N : mz_N) (b : Bool) (t : Nat) {C0 : (Bool × mz_N × Bool × Nat) → Prop} (hr : ∀ (w : Bool) (N2 : mz_N) (b2 : Bool) (t2 : Nat), C0 (w, N2, b2, t2) → Q (.inl (some (.int (mz_b01 w)))) (mz_k S R N2 b2 t2)) {C1 : ((Int32 × mz_N × Bool × Nat) ⊕ (Bool × mz_N × Bool × Nat)) → Prop} (hc1 : ∀ s2, C1 (.inl s2) → mz_G (d, mz_X0 L xs, some .boolean, [], mk_622, 8, Q) 35 mt_622_35 [(0, .ref 1002), (1, .ref 0), (2, .ref 232), (3, .ref 342), (4, .int s2.1)] [] false (mz_k S R s2.2.1 s2.2.2.1 s2.2.2.2)) (hx1 : ∀ z, C1 (.inr z) → C0 z) (hp : cp_622_2277 L xs v4 N b t) (hC : C1 (cf_622_2277 L xs v4 N b t)) : mz_G (d, mz_X0 L xs, some .boolean, [], mk_622, 8, Q) 2277 mt_622_2277 [(0, .ref 1002), (1, .ref 0), (2, .ref 232), (3, .ref 342), (4, .int v4)] [] false (mz_k S R N b t) := by
  unfold cf_622_2277 at hC
  unfold cp_622_2277 at hp
  refine g_goto (tg := 4500) rfl ms_622_4500 ?_
  refine g_weak ?_ (g_cl (cg_622_4500 hd hS hR L xs v4 N b t hr hc1 hx1 hp hC))
  exact ⟨rfl, rfl, rfl, rfl, rfl, trivial⟩
theorem cg_622_2231 (hd : 12 ≤ d) (hS : mz_extR S 343) (hR : mz_rok R 343) (L : Nat) (xs : Nat → Int32) (v4 : Int32) (v5 : Int32) (N : mz_N) (b : Bool) (t : Nat) {C0 : (Bool × mz_N × Bool × Nat) → Prop} (hr : ∀ (w : Bool) (N2 : mz_N) (b2 : Bool) (t2 : Nat), C0 (w, N2, b2, t2) → Q (.inl (some (.int (mz_b01 w)))) (mz_k S R N2 b2 t2)) {C1 : ((Int32 × mz_N × Bool × Nat) ⊕ (Bool × mz_N × Bool × Nat)) → Prop} (hc1 : ∀ s2, C1 (.inl s2) → mz_G (d, mz_X0 L xs, some .boolean, [], mk_622, 8, Q) 35 mt_622_35 [(0, .ref 1002), (1, .ref 0), (2, .ref 232), (3, .ref 342), (4, .int s2.1)] [] false (mz_k S R s2.2.1 s2.2.2.1 s2.2.2.2)) (hx1 : ∀ z, C1 (.inr z) → C0 z) (hp : cp_622_2231 L xs v4 v5 N b t) (hC : C1 (cf_622_2231 L xs v4 v5 N b t)) : mz_G (d, mz_X0 L xs, some .boolean, [], mk_622, 8, Q) 2231 mt_622_2231 [(0, .ref 1002), (1, .ref 0), (2, .ref 232), (3, .ref 342), (4, .int v4), (5, .int v5)] [] false (mz_k S R N b t) := by
  unfold cf_622_2231 at hC
  unfold cp_622_2231 at hp
  refine g_aload_n rfl (g_aload_n rfl (g_iload rfl (g_iconst mzi_1 (g_iadd ?_))))
  obtain ⟨h1, hp⟩ := hp
  refine g_iald1002 h1 (g_aload_n rfl (g_iload rfl (g_iconst mzi_2 (g_iadd ?_))))
  obtain ⟨h2, hp⟩ := hp
  refine g_iald1002 h2 ?_
  obtain ⟨h3, hp⟩ := hp
  refine g_v3v (Nat.le_of_ble_eq_true rfl) (mz_at hS (Nat.le_of_ble_eq_true rfl) mzcS_232) (fun _ hq => cs_551 (Nat.le_trans (Nat.le_of_ble_eq_true rfl) hd) (hS.le (Nat.le_of_ble_eq_true rfl)) (hR.le (Nat.le_of_ble_eq_true rfl))  (xs (v4 + 1).toNatClampNeg) (xs (v4 + 2).toNatClampNeg) N h3 hq) (g_istore (Nat.le_of_ble_eq_true rfl) rfl (g_aload_n rfl ?_))
  refine g_v1v (Nat.le_of_ble_eq_true rfl) (mz_at hS (Nat.le_of_ble_eq_true rfl) mzcS_232) (fun _ hq => cs_459 (Nat.le_trans (Nat.le_of_ble_eq_true rfl) hd) (hS.le (Nat.le_of_ble_eq_true rfl)) (hR.le (Nat.le_of_ble_eq_true rfl))  ((cf_551_0 (xs (v4 + 1).toNatClampNeg) (xs (v4 + 2).toNatClampNeg) N).2) trivial hq) (g_iload rfl ?_)
  refine g_iceq (tg := 2260) rfl ms_622_2260 hC (fun h5 hC => ?_) (fun h5 hC => ?_)
  · have hp := hp.1 h5
    refine g_iload rfl ?_
    refine g_ifne (tg := 2277) rfl ms_622_2277 hC (fun h6 hC => ?_) (fun h6 hC => ?_)
    · have hp := hp.1 h6
      refine g_aload_n rfl (g_iconst mzi_0 (g_lald (mz_at hS (Nat.le_of_ble_eq_true rfl) mzcS_342) (mz_ibd (by decide)) (g_iload rfl (g_i2l (g_lcmp ?_)))))
      refine g_leq (tg := 2277) rfl ms_622_2277 hC (fun h7 hC => ?_) (fun h7 hC => ?_)
      · have hp := hp.1 h7
        refine g_weak ?_ (g_cl (cg_622_2277 hd hS hR L xs v4 ((cf_551_0 (xs (v4 + 1).toNatClampNeg) (xs (v4 + 2).toNatClampNeg) N).2) b t hr hc1 hx1 hp hC))
        exact ⟨rfl, rfl, rfl, rfl, rfl, trivial⟩
      · have hp := hp.2 h7
        refine g_iconst mzi_0 ?_
        exact g_zret (z := false) rfl (hr _ _ _ _ (hx1 _ hC))
    · have hp := hp.2 h6
      refine g_weak ?_ (g_cl (cg_622_2277 hd hS hR L xs v4 ((cf_551_0 (xs (v4 + 1).toNatClampNeg) (xs (v4 + 2).toNatClampNeg) N).2) b t hr hc1 hx1 hp hC))
      exact ⟨rfl, rfl, rfl, rfl, rfl, trivial⟩
  · have hp := hp.2 h5
    refine g_iconst mzi_0 ?_
    exact g_zret (z := false) rfl (hr _ _ _ _ (hx1 _ hC))
theorem cg_622_3030 (hd : 12 ≤ d) (hS : mz_extR S 343) (hR : mz_rok R 343) (L : Nat) (xs : Nat → Int32) (v4 : Int32) (N : mz_N) (b : Bool) (t : Nat) {C0 : (Bool × mz_N × Bool × Nat) → Prop} (hr : ∀ (w : Bool) (N2 : mz_N) (b2 : Bool) (t2 : Nat), C0 (w, N2, b2, t2) → Q (.inl (some (.int (mz_b01 w)))) (mz_k S R N2 b2 t2)) {C1 : ((Int32 × mz_N × Bool × Nat) ⊕ (Bool × mz_N × Bool × Nat)) → Prop} (hc1 : ∀ s2, C1 (.inl s2) → mz_G (d, mz_X0 L xs, some .boolean, [], mk_622, 8, Q) 35 mt_622_35 [(0, .ref 1002), (1, .ref 0), (2, .ref 232), (3, .ref 342), (4, .int s2.1)] [] false (mz_k S R s2.2.1 s2.2.2.1 s2.2.2.2)) (hx1 : ∀ z, C1 (.inr z) → C0 z) (hp : cp_622_3030 L xs v4 N b t) (hC : C1 (cf_622_3030 L xs v4 N b t)) : mz_G (d, mz_X0 L xs, some .boolean, [], mk_622, 8, Q) 3030 mt_622_3030 [(0, .ref 1002), (1, .ref 0), (2, .ref 232), (3, .ref 342), (4, .int v4)] [] false (mz_k S R N b t) := by
  unfold cf_622_3030 at hC
  unfold cp_622_3030 at hp
  refine g_goto (tg := 4500) rfl ms_622_4500 ?_
  refine g_weak ?_ (g_cl (cg_622_4500 hd hS hR L xs v4 N b t hr hc1 hx1 hp hC))
  exact ⟨rfl, rfl, rfl, rfl, rfl, trivial⟩
theorem cg_622_3002 (hd : 12 ≤ d) (hS : mz_extR S 343) (hR : mz_rok R 343) (L : Nat) (xs : Nat → Int32) (v4 : Int32) (v5 : Int32) (v6 : Int32) (N : mz_N) (b : Bool) (t : Nat) {C0 : (Bool × mz_N × Bool × Nat) → Prop} (hr : ∀ (w : Bool) (N2 : mz_N) (b2 : Bool) (t2 : Nat), C0 (w, N2, b2, t2) → Q (.inl (some (.int (mz_b01 w)))) (mz_k S R N2 b2 t2)) {C1 : ((Int32 × mz_N × Bool × Nat) ⊕ (Bool × mz_N × Bool × Nat)) → Prop} (hc1 : ∀ s2, C1 (.inl s2) → mz_G (d, mz_X0 L xs, some .boolean, [], mk_622, 8, Q) 35 mt_622_35 [(0, .ref 1002), (1, .ref 0), (2, .ref 232), (3, .ref 342), (4, .int s2.1)] [] false (mz_k S R s2.2.1 s2.2.2.1 s2.2.2.2)) (hx1 : ∀ z, C1 (.inr z) → C0 z) (hp : cp_622_3002 L xs v4 v5 v6 N b t) (hC : C1 (cf_622_3002 L xs v4 v5 v6 N b t)) : mz_G (d, mz_X0 L xs, some .boolean, [], mk_622, 8, Q) 3002 mt_622_3002 [(0, .ref 1002), (1, .ref 0), (2, .ref 232), (3, .ref 342), (4, .int v4), (5, .int v5), (6, .int v6)] [] false (mz_k S R N b t) := by
  unfold cf_622_3002 at hC
  unfold cp_622_3002 at hp
  refine g_aload_n rfl ?_
  refine g_v1v (Nat.le_of_ble_eq_true rfl) (mz_at hS (Nat.le_of_ble_eq_true rfl) mzcS_232) (fun _ hq => cs_459 (Nat.le_trans (Nat.le_of_ble_eq_true rfl) hd) (hS.le (Nat.le_of_ble_eq_true rfl)) (hR.le (Nat.le_of_ble_eq_true rfl))  N trivial hq) (g_iload rfl ?_)
  refine g_iceq (tg := 3013) rfl ms_622_3013 hC (fun h2 hC => ?_) (fun h2 hC => ?_)
  · have hp := hp.1 h2
    refine g_iload rfl ?_
    refine g_ifne (tg := 3030) rfl ms_622_3030 hC (fun h3 hC => ?_) (fun h3 hC => ?_)
    · have hp := hp.1 h3
      refine g_aload_n rfl (g_iconst mzi_0 (g_lald (mz_at hS (Nat.le_of_ble_eq_true rfl) mzcS_342) (mz_ibd (by decide)) (g_iload rfl (g_i2l (g_lcmp ?_)))))
      refine g_leq (tg := 3030) rfl ms_622_3030 hC (fun h4 hC => ?_) (fun h4 hC => ?_)
      · have hp := hp.1 h4
        refine g_weak ?_ (g_cl (cg_622_3030 hd hS hR L xs v4 N b t hr hc1 hx1 hp hC))
        exact ⟨rfl, rfl, rfl, rfl, rfl, trivial⟩
      · have hp := hp.2 h4
        refine g_iconst mzi_0 ?_
        exact g_zret (z := false) rfl (hr _ _ _ _ (hx1 _ hC))
    · have hp := hp.2 h3
      refine g_weak ?_ (g_cl (cg_622_3030 hd hS hR L xs v4 N b t hr hc1 hx1 hp hC))
      exact ⟨rfl, rfl, rfl, rfl, rfl, trivial⟩
  · have hp := hp.2 h2
    refine g_iconst mzi_0 ?_
    exact g_zret (z := false) rfl (hr _ _ _ _ (hx1 _ hC))
theorem cg_622_959 (hd : 12 ≤ d) (hS : mz_extR S 343) (hR : mz_rok R 343) (L : Nat) (xs : Nat → Int32) (v4 : Int32) (N : mz_N) (b : Bool) (t : Nat) {C0 : (Bool × mz_N × Bool × Nat) → Prop} (hr : ∀ (w : Bool) (N2 : mz_N) (b2 : Bool) (t2 : Nat), C0 (w, N2, b2, t2) → Q (.inl (some (.int (mz_b01 w)))) (mz_k S R N2 b2 t2)) {C1 : ((Int32 × mz_N × Bool × Nat) ⊕ (Bool × mz_N × Bool × Nat)) → Prop} (hc1 : ∀ s2, C1 (.inl s2) → mz_G (d, mz_X0 L xs, some .boolean, [], mk_622, 8, Q) 35 mt_622_35 [(0, .ref 1002), (1, .ref 0), (2, .ref 232), (3, .ref 342), (4, .int s2.1)] [] false (mz_k S R s2.2.1 s2.2.2.1 s2.2.2.2)) (hx1 : ∀ z, C1 (.inr z) → C0 z) (hp : cp_622_959 L xs v4 N b t) (hC : C1 (cf_622_959 L xs v4 N b t)) : mz_G (d, mz_X0 L xs, some .boolean, [], mk_622, 8, Q) 959 mt_622_959 [(0, .ref 1002), (1, .ref 0), (2, .ref 232), (3, .ref 342), (4, .int v4)] [] false (mz_k S R N b t) := by
  unfold cf_622_959 at hC
  unfold cp_622_959 at hp
  refine g_goto (tg := 4500) rfl ms_622_4500 ?_
  refine g_weak ?_ (g_cl (cg_622_4500 hd hS hR L xs v4 N b t hr hc1 hx1 hp hC))
  exact ⟨rfl, rfl, rfl, rfl, rfl, trivial⟩
theorem cg_622_1755 (hd : 12 ≤ d) (hS : mz_extR S 343) (hR : mz_rok R 343) (L : Nat) (xs : Nat → Int32) (v4 : Int32) (N : mz_N) (b : Bool) (t : Nat) {C0 : (Bool × mz_N × Bool × Nat) → Prop} (hr : ∀ (w : Bool) (N2 : mz_N) (b2 : Bool) (t2 : Nat), C0 (w, N2, b2, t2) → Q (.inl (some (.int (mz_b01 w)))) (mz_k S R N2 b2 t2)) {C1 : ((Int32 × mz_N × Bool × Nat) ⊕ (Bool × mz_N × Bool × Nat)) → Prop} (hc1 : ∀ s2, C1 (.inl s2) → mz_G (d, mz_X0 L xs, some .boolean, [], mk_622, 8, Q) 35 mt_622_35 [(0, .ref 1002), (1, .ref 0), (2, .ref 232), (3, .ref 342), (4, .int s2.1)] [] false (mz_k S R s2.2.1 s2.2.2.1 s2.2.2.2)) (hx1 : ∀ z, C1 (.inr z) → C0 z) (hp : cp_622_1755 L xs v4 N b t) (hC : C1 (cf_622_1755 L xs v4 N b t)) : mz_G (d, mz_X0 L xs, some .boolean, [], mk_622, 8, Q) 1755 mt_622_1755 [(0, .ref 1002), (1, .ref 0), (2, .ref 232), (3, .ref 342), (4, .int v4)] [] false (mz_k S R N b t) := by
  unfold cf_622_1755 at hC
  unfold cp_622_1755 at hp
  refine g_goto (tg := 4500) rfl ms_622_4500 ?_
  refine g_weak ?_ (g_cl (cg_622_4500 hd hS hR L xs v4 N b t hr hc1 hx1 hp hC))
  exact ⟨rfl, rfl, rfl, rfl, rfl, trivial⟩
theorem cg_622_1727 (hd : 12 ≤ d) (hS : mz_extR S 343) (hR : mz_rok R 343) (L : Nat) (xs : Nat → Int32) (v4 : Int32) (v5 : Int32) (v6 : Int32) (N : mz_N) (b : Bool) (t : Nat) {C0 : (Bool × mz_N × Bool × Nat) → Prop} (hr : ∀ (w : Bool) (N2 : mz_N) (b2 : Bool) (t2 : Nat), C0 (w, N2, b2, t2) → Q (.inl (some (.int (mz_b01 w)))) (mz_k S R N2 b2 t2)) {C1 : ((Int32 × mz_N × Bool × Nat) ⊕ (Bool × mz_N × Bool × Nat)) → Prop} (hc1 : ∀ s2, C1 (.inl s2) → mz_G (d, mz_X0 L xs, some .boolean, [], mk_622, 8, Q) 35 mt_622_35 [(0, .ref 1002), (1, .ref 0), (2, .ref 232), (3, .ref 342), (4, .int s2.1)] [] false (mz_k S R s2.2.1 s2.2.2.1 s2.2.2.2)) (hx1 : ∀ z, C1 (.inr z) → C0 z) (hp : cp_622_1727 L xs v4 v5 v6 N b t) (hC : C1 (cf_622_1727 L xs v4 v5 v6 N b t)) : mz_G (d, mz_X0 L xs, some .boolean, [], mk_622, 8, Q) 1727 mt_622_1727 [(0, .ref 1002), (1, .ref 0), (2, .ref 232), (3, .ref 342), (4, .int v4), (5, .int v5), (6, .int v6)] [] false (mz_k S R N b t) := by
  unfold cf_622_1727 at hC
  unfold cp_622_1727 at hp
  refine g_aload_n rfl ?_
  refine g_v1v (Nat.le_of_ble_eq_true rfl) (mz_at hS (Nat.le_of_ble_eq_true rfl) mzcS_232) (fun _ hq => cs_459 (Nat.le_trans (Nat.le_of_ble_eq_true rfl) hd) (hS.le (Nat.le_of_ble_eq_true rfl)) (hR.le (Nat.le_of_ble_eq_true rfl))  N trivial hq) (g_iload rfl ?_)
  refine g_iceq (tg := 1738) rfl ms_622_1738 hC (fun h2 hC => ?_) (fun h2 hC => ?_)
  · have hp := hp.1 h2
    refine g_iload rfl ?_
    refine g_ifne (tg := 1755) rfl ms_622_1755 hC (fun h3 hC => ?_) (fun h3 hC => ?_)
    · have hp := hp.1 h3
      refine g_aload_n rfl (g_iconst mzi_0 (g_lald (mz_at hS (Nat.le_of_ble_eq_true rfl) mzcS_342) (mz_ibd (by decide)) (g_iload rfl (g_i2l (g_lcmp ?_)))))
      refine g_leq (tg := 1755) rfl ms_622_1755 hC (fun h4 hC => ?_) (fun h4 hC => ?_)
      · have hp := hp.1 h4
        refine g_weak ?_ (g_cl (cg_622_1755 hd hS hR L xs v4 N b t hr hc1 hx1 hp hC))
        exact ⟨rfl, rfl, rfl, rfl, rfl, trivial⟩
      · have hp := hp.2 h4
        refine g_iconst mzi_0 ?_
        exact g_zret (z := false) rfl (hr _ _ _ _ (hx1 _ hC))
    · have hp := hp.2 h3
      refine g_weak ?_ (g_cl (cg_622_1755 hd hS hR L xs v4 N b t hr hc1 hx1 hp hC))
      exact ⟨rfl, rfl, rfl, rfl, rfl, trivial⟩
  · have hp := hp.2 h2
    refine g_iconst mzi_0 ?_
    exact g_zret (z := false) rfl (hr _ _ _ _ (hx1 _ hC))
theorem cg_622_2011 (hd : 12 ≤ d) (hS : mz_extR S 343) (hR : mz_rok R 343) (L : Nat) (xs : Nat → Int32) (v4 : Int32) (N : mz_N) (b : Bool) (t : Nat) {C0 : (Bool × mz_N × Bool × Nat) → Prop} (hr : ∀ (w : Bool) (N2 : mz_N) (b2 : Bool) (t2 : Nat), C0 (w, N2, b2, t2) → Q (.inl (some (.int (mz_b01 w)))) (mz_k S R N2 b2 t2)) {C1 : ((Int32 × mz_N × Bool × Nat) ⊕ (Bool × mz_N × Bool × Nat)) → Prop} (hc1 : ∀ s2, C1 (.inl s2) → mz_G (d, mz_X0 L xs, some .boolean, [], mk_622, 8, Q) 35 mt_622_35 [(0, .ref 1002), (1, .ref 0), (2, .ref 232), (3, .ref 342), (4, .int s2.1)] [] false (mz_k S R s2.2.1 s2.2.2.1 s2.2.2.2)) (hx1 : ∀ z, C1 (.inr z) → C0 z) (hp : cp_622_2011 L xs v4 N b t) (hC : C1 (cf_622_2011 L xs v4 N b t)) : mz_G (d, mz_X0 L xs, some .boolean, [], mk_622, 8, Q) 2011 mt_622_2011 [(0, .ref 1002), (1, .ref 0), (2, .ref 232), (3, .ref 342), (4, .int v4)] [] false (mz_k S R N b t) := by
  unfold cf_622_2011 at hC
  unfold cp_622_2011 at hp
  refine g_goto (tg := 4500) rfl ms_622_4500 ?_
  refine g_weak ?_ (g_cl (cg_622_4500 hd hS hR L xs v4 N b t hr hc1 hx1 hp hC))
  exact ⟨rfl, rfl, rfl, rfl, rfl, trivial⟩
theorem cg_622_1983 (hd : 12 ≤ d) (hS : mz_extR S 343) (hR : mz_rok R 343) (L : Nat) (xs : Nat → Int32) (v4 : Int32) (v5 : Int32) (v6 : Int32) (N : mz_N) (b : Bool) (t : Nat) {C0 : (Bool × mz_N × Bool × Nat) → Prop} (hr : ∀ (w : Bool) (N2 : mz_N) (b2 : Bool) (t2 : Nat), C0 (w, N2, b2, t2) → Q (.inl (some (.int (mz_b01 w)))) (mz_k S R N2 b2 t2)) {C1 : ((Int32 × mz_N × Bool × Nat) ⊕ (Bool × mz_N × Bool × Nat)) → Prop} (hc1 : ∀ s2, C1 (.inl s2) → mz_G (d, mz_X0 L xs, some .boolean, [], mk_622, 8, Q) 35 mt_622_35 [(0, .ref 1002), (1, .ref 0), (2, .ref 232), (3, .ref 342), (4, .int s2.1)] [] false (mz_k S R s2.2.1 s2.2.2.1 s2.2.2.2)) (hx1 : ∀ z, C1 (.inr z) → C0 z) (hp : cp_622_1983 L xs v4 v5 v6 N b t) (hC : C1 (cf_622_1983 L xs v4 v5 v6 N b t)) : mz_G (d, mz_X0 L xs, some .boolean, [], mk_622, 8, Q) 1983 mt_622_1983 [(0, .ref 1002), (1, .ref 0), (2, .ref 232), (3, .ref 342), (4, .int v4), (5, .int v5), (6, .int v6)] [] false (mz_k S R N b t) := by
  unfold cf_622_1983 at hC
  unfold cp_622_1983 at hp
  refine g_aload_n rfl ?_
  refine g_v1v (Nat.le_of_ble_eq_true rfl) (mz_at hS (Nat.le_of_ble_eq_true rfl) mzcS_232) (fun _ hq => cs_459 (Nat.le_trans (Nat.le_of_ble_eq_true rfl) hd) (hS.le (Nat.le_of_ble_eq_true rfl)) (hR.le (Nat.le_of_ble_eq_true rfl))  N trivial hq) (g_iload rfl ?_)
  refine g_iceq (tg := 1994) rfl ms_622_1994 hC (fun h2 hC => ?_) (fun h2 hC => ?_)
  · have hp := hp.1 h2
    refine g_iload rfl ?_
    refine g_ifne (tg := 2011) rfl ms_622_2011 hC (fun h3 hC => ?_) (fun h3 hC => ?_)
    · have hp := hp.1 h3
      refine g_aload_n rfl (g_iconst mzi_0 (g_lald (mz_at hS (Nat.le_of_ble_eq_true rfl) mzcS_342) (mz_ibd (by decide)) (g_iload rfl (g_i2l (g_lcmp ?_)))))
      refine g_leq (tg := 2011) rfl ms_622_2011 hC (fun h4 hC => ?_) (fun h4 hC => ?_)
      · have hp := hp.1 h4
        refine g_weak ?_ (g_cl (cg_622_2011 hd hS hR L xs v4 N b t hr hc1 hx1 hp hC))
        exact ⟨rfl, rfl, rfl, rfl, rfl, trivial⟩
      · have hp := hp.2 h4
        refine g_iconst mzi_0 ?_
        exact g_zret (z := false) rfl (hr _ _ _ _ (hx1 _ hC))
    · have hp := hp.2 h3
      refine g_weak ?_ (g_cl (cg_622_2011 hd hS hR L xs v4 N b t hr hc1 hx1 hp hC))
      exact ⟨rfl, rfl, rfl, rfl, rfl, trivial⟩
  · have hp := hp.2 h2
    refine g_iconst mzi_0 ?_
    exact g_zret (z := false) rfl (hr _ _ _ _ (hx1 _ hC))
theorem cg_622_3820 (hd : 12 ≤ d) (hS : mz_extR S 343) (hR : mz_rok R 343) (L : Nat) (xs : Nat → Int32) (v4 : Int32) (N : mz_N) (b : Bool) (t : Nat) {C0 : (Bool × mz_N × Bool × Nat) → Prop} (hr : ∀ (w : Bool) (N2 : mz_N) (b2 : Bool) (t2 : Nat), C0 (w, N2, b2, t2) → Q (.inl (some (.int (mz_b01 w)))) (mz_k S R N2 b2 t2)) {C1 : ((Int32 × mz_N × Bool × Nat) ⊕ (Bool × mz_N × Bool × Nat)) → Prop} (hc1 : ∀ s2, C1 (.inl s2) → mz_G (d, mz_X0 L xs, some .boolean, [], mk_622, 8, Q) 35 mt_622_35 [(0, .ref 1002), (1, .ref 0), (2, .ref 232), (3, .ref 342), (4, .int s2.1)] [] false (mz_k S R s2.2.1 s2.2.2.1 s2.2.2.2)) (hx1 : ∀ z, C1 (.inr z) → C0 z) (hp : cp_622_3820 L xs v4 N b t) (hC : C1 (cf_622_3820 L xs v4 N b t)) : mz_G (d, mz_X0 L xs, some .boolean, [], mk_622, 8, Q) 3820 mt_622_3820 [(0, .ref 1002), (1, .ref 0), (2, .ref 232), (3, .ref 342), (4, .int v4)] [] false (mz_k S R N b t) := by
  unfold cf_622_3820 at hC
  unfold cp_622_3820 at hp
  refine g_goto (tg := 4500) rfl ms_622_4500 ?_
  refine g_weak ?_ (g_cl (cg_622_4500 hd hS hR L xs v4 N b t hr hc1 hx1 hp hC))
  exact ⟨rfl, rfl, rfl, rfl, rfl, trivial⟩
theorem cg_622_3775 (hd : 12 ≤ d) (hS : mz_extR S 343) (hR : mz_rok R 343) (L : Nat) (xs : Nat → Int32) (v4 : Int32) (v5 : Int32) (N : mz_N) (b : Bool) (t : Nat) {C0 : (Bool × mz_N × Bool × Nat) → Prop} (hr : ∀ (w : Bool) (N2 : mz_N) (b2 : Bool) (t2 : Nat), C0 (w, N2, b2, t2) → Q (.inl (some (.int (mz_b01 w)))) (mz_k S R N2 b2 t2)) {C1 : ((Int32 × mz_N × Bool × Nat) ⊕ (Bool × mz_N × Bool × Nat)) → Prop} (hc1 : ∀ s2, C1 (.inl s2) → mz_G (d, mz_X0 L xs, some .boolean, [], mk_622, 8, Q) 35 mt_622_35 [(0, .ref 1002), (1, .ref 0), (2, .ref 232), (3, .ref 342), (4, .int s2.1)] [] false (mz_k S R s2.2.1 s2.2.2.1 s2.2.2.2)) (hx1 : ∀ z, C1 (.inr z) → C0 z) (hp : cp_622_3775 L xs v4 v5 N b t) (hC : C1 (cf_622_3775 L xs v4 v5 N b t)) : mz_G (d, mz_X0 L xs, some .boolean, [], mk_622, 8, Q) 3775 mt_622_3775 [(0, .ref 1002), (1, .ref 0), (2, .ref 232), (3, .ref 342), (4, .int v4), (5, .int v5)] [] false (mz_k S R N b t) := by
  unfold cf_622_3775 at hC
  unfold cp_622_3775 at hp
  refine g_aload_n rfl (g_aload_n rfl (g_iload rfl (g_iconst mzi_1 (g_iadd ?_))))
  obtain ⟨h1, hp⟩ := hp
  refine g_iald1002 h1 (g_aload_n rfl (g_iload rfl (g_iconst mzi_2 (g_iadd ?_))))
  obtain ⟨h2, hp⟩ := hp
  refine g_iald1002 h2 ?_
  obtain ⟨h3, hp⟩ := hp
  refine g_v3v (Nat.le_of_ble_eq_true rfl) (mz_at hS (Nat.le_of_ble_eq_true rfl) mzcS_232) (fun _ hq => cs_587 (Nat.le_trans (Nat.le_of_ble_eq_true rfl) hd) (hS.le (Nat.le_of_ble_eq_true rfl)) (hR.le (Nat.le_of_ble_eq_true rfl))  (xs (v4 + 1).toNatClampNeg) (xs (v4 + 2).toNatClampNeg) N h3 hq) (g_lstore (Nat.le_of_ble_eq_true rfl) rfl rfl (g_aload_n rfl ?_))
  refine g_v1v (Nat.le_of_ble_eq_true rfl) (mz_at hS (Nat.le_of_ble_eq_true rfl) mzcS_232) (fun _ hq => cs_459 (Nat.le_trans (Nat.le_of_ble_eq_true rfl) hd) (hS.le (Nat.le_of_ble_eq_true rfl)) (hR.le (Nat.le_of_ble_eq_true rfl))  ((cf_587_0 (xs (v4 + 1).toNatClampNeg) (xs (v4 + 2).toNatClampNeg) N).2) trivial hq) (g_iload rfl ?_)
  refine g_iceq (tg := 3804) rfl ms_622_3804 hC (fun h5 hC => ?_) (fun h5 hC => ?_)
  · have hp := hp.1 h5
    refine g_iload rfl ?_
    refine g_ifne (tg := 3820) rfl ms_622_3820 hC (fun h6 hC => ?_) (fun h6 hC => ?_)
    · have hp := hp.1 h6
      refine g_aload_n rfl (g_iconst mzi_0 (g_lald (mz_at hS (Nat.le_of_ble_eq_true rfl) mzcS_342) (mz_ibd (by decide)) (g_lload rfl (g_lcmp ?_))))
      refine g_leq (tg := 3820) rfl ms_622_3820 hC (fun h7 hC => ?_) (fun h7 hC => ?_)
      · have hp := hp.1 h7
        refine g_weak ?_ (g_cl (cg_622_3820 hd hS hR L xs v4 ((cf_587_0 (xs (v4 + 1).toNatClampNeg) (xs (v4 + 2).toNatClampNeg) N).2) b t hr hc1 hx1 hp hC))
        exact ⟨rfl, rfl, rfl, rfl, rfl, trivial⟩
      · have hp := hp.2 h7
        refine g_iconst mzi_0 ?_
        exact g_zret (z := false) rfl (hr _ _ _ _ (hx1 _ hC))
    · have hp := hp.2 h6
      refine g_weak ?_ (g_cl (cg_622_3820 hd hS hR L xs v4 ((cf_587_0 (xs (v4 + 1).toNatClampNeg) (xs (v4 + 2).toNatClampNeg) N).2) b t hr hc1 hx1 hp hC))
      exact ⟨rfl, rfl, rfl, rfl, rfl, trivial⟩
  · have hp := hp.2 h5
    refine g_iconst mzi_0 ?_
    exact g_zret (z := false) rfl (hr _ _ _ _ (hx1 _ hC))
theorem cg_622_3313 (hd : 12 ≤ d) (hS : mz_extR S 343) (hR : mz_rok R 343) (L : Nat) (xs : Nat → Int32) (v4 : Int32) (N : mz_N) (b : Bool) (t : Nat) {C0 : (Bool × mz_N × Bool × Nat) → Prop} (hr : ∀ (w : Bool) (N2 : mz_N) (b2 : Bool) (t2 : Nat), C0 (w, N2, b2, t2) → Q (.inl (some (.int (mz_b01 w)))) (mz_k S R N2 b2 t2)) {C1 : ((Int32 × mz_N × Bool × Nat) ⊕ (Bool × mz_N × Bool × Nat)) → Prop} (hc1 : ∀ s2, C1 (.inl s2) → mz_G (d, mz_X0 L xs, some .boolean, [], mk_622, 8, Q) 35 mt_622_35 [(0, .ref 1002), (1, .ref 0), (2, .ref 232), (3, .ref 342), (4, .int s2.1)] [] false (mz_k S R s2.2.1 s2.2.2.1 s2.2.2.2)) (hx1 : ∀ z, C1 (.inr z) → C0 z) (hp : cp_622_3313 L xs v4 N b t) (hC : C1 (cf_622_3313 L xs v4 N b t)) : mz_G (d, mz_X0 L xs, some .boolean, [], mk_622, 8, Q) 3313 mt_622_3313 [(0, .ref 1002), (1, .ref 0), (2, .ref 232), (3, .ref 342), (4, .int v4)] [] false (mz_k S R N b t) := by
  unfold cf_622_3313 at hC
  unfold cp_622_3313 at hp
  refine g_goto (tg := 4500) rfl ms_622_4500 ?_
  refine g_weak ?_ (g_cl (cg_622_4500 hd hS hR L xs v4 N b t hr hc1 hx1 hp hC))
  exact ⟨rfl, rfl, rfl, rfl, rfl, trivial⟩
theorem cg_622_3267 (hd : 12 ≤ d) (hS : mz_extR S 343) (hR : mz_rok R 343) (L : Nat) (xs : Nat → Int32) (v4 : Int32) (v5 : Int32) (N : mz_N) (b : Bool) (t : Nat) {C0 : (Bool × mz_N × Bool × Nat) → Prop} (hr : ∀ (w : Bool) (N2 : mz_N) (b2 : Bool) (t2 : Nat), C0 (w, N2, b2, t2) → Q (.inl (some (.int (mz_b01 w)))) (mz_k S R N2 b2 t2)) {C1 : ((Int32 × mz_N × Bool × Nat) ⊕ (Bool × mz_N × Bool × Nat)) → Prop} (hc1 : ∀ s2, C1 (.inl s2) → mz_G (d, mz_X0 L xs, some .boolean, [], mk_622, 8, Q) 35 mt_622_35 [(0, .ref 1002), (1, .ref 0), (2, .ref 232), (3, .ref 342), (4, .int s2.1)] [] false (mz_k S R s2.2.1 s2.2.2.1 s2.2.2.2)) (hx1 : ∀ z, C1 (.inr z) → C0 z) (hp : cp_622_3267 L xs v4 v5 N b t) (hC : C1 (cf_622_3267 L xs v4 v5 N b t)) : mz_G (d, mz_X0 L xs, some .boolean, [], mk_622, 8, Q) 3267 mt_622_3267 [(0, .ref 1002), (1, .ref 0), (2, .ref 232), (3, .ref 342), (4, .int v4), (5, .int v5)] [] false (mz_k S R N b t) := by
  unfold cf_622_3267 at hC
  unfold cp_622_3267 at hp
  refine g_aload_n rfl (g_aload_n rfl (g_iload rfl (g_iconst mzi_1 (g_iadd ?_))))
  obtain ⟨h1, hp⟩ := hp
  refine g_iald1002 h1 (g_aload_n rfl (g_iload rfl (g_iconst mzi_2 (g_iadd ?_))))
  obtain ⟨h2, hp⟩ := hp
  refine g_iald1002 h2 ?_
  obtain ⟨h3, hp⟩ := hp
  refine g_v3v (Nat.le_of_ble_eq_true rfl) (mz_at hS (Nat.le_of_ble_eq_true rfl) mzcS_232) (fun _ hq => cs_560 (Nat.le_trans (Nat.le_of_ble_eq_true rfl) hd) (hS.le (Nat.le_of_ble_eq_true rfl)) (hR.le (Nat.le_of_ble_eq_true rfl))  (xs (v4 + 1).toNatClampNeg) (xs (v4 + 2).toNatClampNeg) N h3 hq) (g_istore (Nat.le_of_ble_eq_true rfl) rfl (g_aload_n rfl ?_))
  refine g_v1v (Nat.le_of_ble_eq_true rfl) (mz_at hS (Nat.le_of_ble_eq_true rfl) mzcS_232) (fun _ hq => cs_459 (Nat.le_trans (Nat.le_of_ble_eq_true rfl) hd) (hS.le (Nat.le_of_ble_eq_true rfl)) (hR.le (Nat.le_of_ble_eq_true rfl))  ((cf_560_0 (xs (v4 + 1).toNatClampNeg) (xs (v4 + 2).toNatClampNeg) N).2) trivial hq) (g_iload rfl ?_)
  refine g_iceq (tg := 3296) rfl ms_622_3296 hC (fun h5 hC => ?_) (fun h5 hC => ?_)
  · have hp := hp.1 h5
    refine g_iload rfl ?_
    refine g_ifne (tg := 3313) rfl ms_622_3313 hC (fun h6 hC => ?_) (fun h6 hC => ?_)
    · have hp := hp.1 h6
      refine g_aload_n rfl (g_iconst mzi_0 (g_lald (mz_at hS (Nat.le_of_ble_eq_true rfl) mzcS_342) (mz_ibd (by decide)) (g_iload rfl (g_i2l (g_lcmp ?_)))))
      refine g_leq (tg := 3313) rfl ms_622_3313 hC (fun h7 hC => ?_) (fun h7 hC => ?_)
      · have hp := hp.1 h7
        refine g_weak ?_ (g_cl (cg_622_3313 hd hS hR L xs v4 ((cf_560_0 (xs (v4 + 1).toNatClampNeg) (xs (v4 + 2).toNatClampNeg) N).2) b t hr hc1 hx1 hp hC))
        exact ⟨rfl, rfl, rfl, rfl, rfl, trivial⟩
      · have hp := hp.2 h7
        refine g_iconst mzi_0 ?_
        exact g_zret (z := false) rfl (hr _ _ _ _ (hx1 _ hC))
    · have hp := hp.2 h6
      refine g_weak ?_ (g_cl (cg_622_3313 hd hS hR L xs v4 ((cf_560_0 (xs (v4 + 1).toNatClampNeg) (xs (v4 + 2).toNatClampNeg) N).2) b t hr hc1 hx1 hp hC))
      exact ⟨rfl, rfl, rfl, rfl, rfl, trivial⟩
  · have hp := hp.2 h5
    refine g_iconst mzi_0 ?_
    exact g_zret (z := false) rfl (hr _ _ _ _ (hx1 _ hC))
theorem cg_622_4061 (hd : 12 ≤ d) (hS : mz_extR S 343) (hR : mz_rok R 343) (L : Nat) (xs : Nat → Int32) (v4 : Int32) (N : mz_N) (b : Bool) (t : Nat) {C0 : (Bool × mz_N × Bool × Nat) → Prop} (hr : ∀ (w : Bool) (N2 : mz_N) (b2 : Bool) (t2 : Nat), C0 (w, N2, b2, t2) → Q (.inl (some (.int (mz_b01 w)))) (mz_k S R N2 b2 t2)) {C1 : ((Int32 × mz_N × Bool × Nat) ⊕ (Bool × mz_N × Bool × Nat)) → Prop} (hc1 : ∀ s2, C1 (.inl s2) → mz_G (d, mz_X0 L xs, some .boolean, [], mk_622, 8, Q) 35 mt_622_35 [(0, .ref 1002), (1, .ref 0), (2, .ref 232), (3, .ref 342), (4, .int s2.1)] [] false (mz_k S R s2.2.1 s2.2.2.1 s2.2.2.2)) (hx1 : ∀ z, C1 (.inr z) → C0 z) (hp : cp_622_4061 L xs v4 N b t) (hC : C1 (cf_622_4061 L xs v4 N b t)) : mz_G (d, mz_X0 L xs, some .boolean, [], mk_622, 8, Q) 4061 mt_622_4061 [(0, .ref 1002), (1, .ref 0), (2, .ref 232), (3, .ref 342), (4, .int v4)] [] false (mz_k S R N b t) := by
  unfold cf_622_4061 at hC
  unfold cp_622_4061 at hp
  refine g_goto (tg := 4500) rfl ms_622_4500 ?_
  refine g_weak ?_ (g_cl (cg_622_4500 hd hS hR L xs v4 N b t hr hc1 hx1 hp hC))
  exact ⟨rfl, rfl, rfl, rfl, rfl, trivial⟩
theorem cg_622_4033 (hd : 12 ≤ d) (hS : mz_extR S 343) (hR : mz_rok R 343) (L : Nat) (xs : Nat → Int32) (v4 : Int32) (v5 : Int32) (v6 : Int32) (N : mz_N) (b : Bool) (t : Nat) {C0 : (Bool × mz_N × Bool × Nat) → Prop} (hr : ∀ (w : Bool) (N2 : mz_N) (b2 : Bool) (t2 : Nat), C0 (w, N2, b2, t2) → Q (.inl (some (.int (mz_b01 w)))) (mz_k S R N2 b2 t2)) {C1 : ((Int32 × mz_N × Bool × Nat) ⊕ (Bool × mz_N × Bool × Nat)) → Prop} (hc1 : ∀ s2, C1 (.inl s2) → mz_G (d, mz_X0 L xs, some .boolean, [], mk_622, 8, Q) 35 mt_622_35 [(0, .ref 1002), (1, .ref 0), (2, .ref 232), (3, .ref 342), (4, .int s2.1)] [] false (mz_k S R s2.2.1 s2.2.2.1 s2.2.2.2)) (hx1 : ∀ z, C1 (.inr z) → C0 z) (hp : cp_622_4033 L xs v4 v5 v6 N b t) (hC : C1 (cf_622_4033 L xs v4 v5 v6 N b t)) : mz_G (d, mz_X0 L xs, some .boolean, [], mk_622, 8, Q) 4033 mt_622_4033 [(0, .ref 1002), (1, .ref 0), (2, .ref 232), (3, .ref 342), (4, .int v4), (5, .int v5), (6, .int v6)] [] false (mz_k S R N b t) := by
  unfold cf_622_4033 at hC
  unfold cp_622_4033 at hp
  refine g_aload_n rfl ?_
  refine g_v1v (Nat.le_of_ble_eq_true rfl) (mz_at hS (Nat.le_of_ble_eq_true rfl) mzcS_232) (fun _ hq => cs_459 (Nat.le_trans (Nat.le_of_ble_eq_true rfl) hd) (hS.le (Nat.le_of_ble_eq_true rfl)) (hR.le (Nat.le_of_ble_eq_true rfl))  N trivial hq) (g_iload rfl ?_)
  refine g_iceq (tg := 4044) rfl ms_622_4044 hC (fun h2 hC => ?_) (fun h2 hC => ?_)
  · have hp := hp.1 h2
    refine g_iload rfl ?_
    refine g_ifne (tg := 4061) rfl ms_622_4061 hC (fun h3 hC => ?_) (fun h3 hC => ?_)
    · have hp := hp.1 h3
      refine g_aload_n rfl (g_iconst mzi_0 (g_lald (mz_at hS (Nat.le_of_ble_eq_true rfl) mzcS_342) (mz_ibd (by decide)) (g_iload rfl (g_i2l (g_lcmp ?_)))))
      refine g_leq (tg := 4061) rfl ms_622_4061 hC (fun h4 hC => ?_) (fun h4 hC => ?_)
      · have hp := hp.1 h4
        refine g_weak ?_ (g_cl (cg_622_4061 hd hS hR L xs v4 N b t hr hc1 hx1 hp hC))
        exact ⟨rfl, rfl, rfl, rfl, rfl, trivial⟩
      · have hp := hp.2 h4
        refine g_iconst mzi_0 ?_
        exact g_zret (z := false) rfl (hr _ _ _ _ (hx1 _ hC))
    · have hp := hp.2 h3
      refine g_weak ?_ (g_cl (cg_622_4061 hd hS hR L xs v4 N b t hr hc1 hx1 hp hC))
      exact ⟨rfl, rfl, rfl, rfl, rfl, trivial⟩
  · have hp := hp.2 h2
    refine g_iconst mzi_0 ?_
    exact g_zret (z := false) rfl (hr _ _ _ _ (hx1 _ hC))
theorem cg_622_2550 (hd : 12 ≤ d) (hS : mz_extR S 343) (hR : mz_rok R 343) (L : Nat) (xs : Nat → Int32) (v4 : Int32) (N : mz_N) (b : Bool) (t : Nat) {C0 : (Bool × mz_N × Bool × Nat) → Prop} (hr : ∀ (w : Bool) (N2 : mz_N) (b2 : Bool) (t2 : Nat), C0 (w, N2, b2, t2) → Q (.inl (some (.int (mz_b01 w)))) (mz_k S R N2 b2 t2)) {C1 : ((Int32 × mz_N × Bool × Nat) ⊕ (Bool × mz_N × Bool × Nat)) → Prop} (hc1 : ∀ s2, C1 (.inl s2) → mz_G (d, mz_X0 L xs, some .boolean, [], mk_622, 8, Q) 35 mt_622_35 [(0, .ref 1002), (1, .ref 0), (2, .ref 232), (3, .ref 342), (4, .int s2.1)] [] false (mz_k S R s2.2.1 s2.2.2.1 s2.2.2.2)) (hx1 : ∀ z, C1 (.inr z) → C0 z) (hp : cp_622_2550 L xs v4 N b t) (hC : C1 (cf_622_2550 L xs v4 N b t)) : mz_G (d, mz_X0 L xs, some .boolean, [], mk_622, 8, Q) 2550 mt_622_2550 [(0, .ref 1002), (1, .ref 0), (2, .ref 232), (3, .ref 342), (4, .int v4)] [] false (mz_k S R N b t) := by
  unfold cf_622_2550 at hC
  unfold cp_622_2550 at hp
  refine g_goto (tg := 4500) rfl ms_622_4500 ?_
  refine g_weak ?_ (g_cl (cg_622_4500 hd hS hR L xs v4 N b t hr hc1 hx1 hp hC))
  exact ⟨rfl, rfl, rfl, rfl, rfl, trivial⟩
theorem cg_622_2544 (hd : 12 ≤ d) (hS : mz_extR S 343) (hR : mz_rok R 343) (L : Nat) (xs : Nat → Int32) (s0 : Int64) (s1 : Int64) (v4 : Int32) (N : mz_N) (b : Bool) (t : Nat) {C0 : (Bool × mz_N × Bool × Nat) → Prop} (hr : ∀ (w : Bool) (N2 : mz_N) (b2 : Bool) (t2 : Nat), C0 (w, N2, b2, t2) → Q (.inl (some (.int (mz_b01 w)))) (mz_k S R N2 b2 t2)) {C1 : ((Int32 × mz_N × Bool × Nat) ⊕ (Bool × mz_N × Bool × Nat)) → Prop} (hc1 : ∀ s2, C1 (.inl s2) → mz_G (d, mz_X0 L xs, some .boolean, [], mk_622, 8, Q) 35 mt_622_35 [(0, .ref 1002), (1, .ref 0), (2, .ref 232), (3, .ref 342), (4, .int s2.1)] [] false (mz_k S R s2.2.1 s2.2.2.1 s2.2.2.2)) (hx1 : ∀ z, C1 (.inr z) → C0 z) (hp : cp_622_2544 L xs s0 s1 v4 N b t) (hC : C1 (cf_622_2544 L xs s0 s1 v4 N b t)) : mz_G (d, mz_X0 L xs, some .boolean, [], mk_622, 8, Q) 2544 mt_622_2544 [(0, .ref 1002), (1, .ref 0), (2, .ref 232), (3, .ref 342), (4, .int v4)] [.long s1, .long s0] false (mz_k S R N b t) := by
  unfold cf_622_2544 at hC
  unfold cp_622_2544 at hp
  refine g_lcmp ?_
  refine g_leq (tg := 2550) rfl ms_622_2550 hC (fun h1 hC => ?_) (fun h1 hC => ?_)
  · have hp := hp.1 h1
    refine g_weak ?_ (g_cl (cg_622_2550 hd hS hR L xs v4 N b t hr hc1 hx1 hp hC))
    exact ⟨rfl, rfl, rfl, rfl, rfl, trivial⟩
  · have hp := hp.2 h1
    refine g_iconst mzi_0 ?_
    exact g_zret (z := false) rfl (hr _ _ _ _ (hx1 _ hC))
theorem cg_622_2515 (hd : 12 ≤ d) (hS : mz_extR S 343) (hR : mz_rok R 343) (L : Nat) (xs : Nat → Int32) (v4 : Int32) (v5 : Int32) (v6 : Bool) (N : mz_N) (b : Bool) (t : Nat) {C0 : (Bool × mz_N × Bool × Nat) → Prop} (hr : ∀ (w : Bool) (N2 : mz_N) (b2 : Bool) (t2 : Nat), C0 (w, N2, b2, t2) → Q (.inl (some (.int (mz_b01 w)))) (mz_k S R N2 b2 t2)) {C1 : ((Int32 × mz_N × Bool × Nat) ⊕ (Bool × mz_N × Bool × Nat)) → Prop} (hc1 : ∀ s2, C1 (.inl s2) → mz_G (d, mz_X0 L xs, some .boolean, [], mk_622, 8, Q) 35 mt_622_35 [(0, .ref 1002), (1, .ref 0), (2, .ref 232), (3, .ref 342), (4, .int s2.1)] [] false (mz_k S R s2.2.1 s2.2.2.1 s2.2.2.2)) (hx1 : ∀ z, C1 (.inr z) → C0 z) (hp : cp_622_2515 L xs v4 v5 v6 N b t) (hC : C1 (cf_622_2515 L xs v4 v5 v6 N b t)) : mz_G (d, mz_X0 L xs, some .boolean, [], mk_622, 8, Q) 2515 mt_622_2515 [(0, .ref 1002), (1, .ref 0), (2, .ref 232), (3, .ref 342), (4, .int v4), (5, .int v5), (6, .int (mz_b01 v6))] [] false (mz_k S R N b t) := by
  unfold cf_622_2515 at hC
  unfold cp_622_2515 at hp
  refine g_aload_n rfl ?_
  refine g_v1v (Nat.le_of_ble_eq_true rfl) (mz_at hS (Nat.le_of_ble_eq_true rfl) mzcS_232) (fun _ hq => cs_459 (Nat.le_trans (Nat.le_of_ble_eq_true rfl) hd) (hS.le (Nat.le_of_ble_eq_true rfl)) (hR.le (Nat.le_of_ble_eq_true rfl))  N trivial hq) (g_iload rfl ?_)
  refine g_iceq (tg := 2526) rfl ms_622_2526 hC (fun h2 hC => ?_) (fun h2 hC => ?_)
  · have hp := hp.1 h2
    refine g_iload rfl ?_
    refine g_ifne (tg := 2550) rfl ms_622_2550 hC (fun h3 hC => ?_) (fun h3 hC => ?_)
    · have hp := hp.1 h3
      refine g_aload_n rfl (g_iconst mzi_0 (g_lald (mz_at hS (Nat.le_of_ble_eq_true rfl) mzcS_342) (mz_ibd (by decide)) (g_iload rfl ?_)))
      refine g_zeq (tg := 2543) rfl ms_622_2543 hC (fun h4 hC => ?_) (fun h4 hC => ?_)
      · have hp := hp.1 h4
        refine g_lconst mzl_1 (g_goto (tg := 2544) rfl ms_622_2544 ?_)
        refine g_weak ?_ (g_cl (cg_622_2544 hd hS hR L xs (mz_gL N 342 0) 1 v4 N b t hr hc1 hx1 hp hC))
        exact ⟨rfl, rfl, rfl, rfl, rfl, trivial⟩
      · have hp := hp.2 h4
        refine g_lconst mzl_0 ?_
        refine g_weak ?_ (g_cl (cg_622_2544 hd hS hR L xs (mz_gL N 342 0) 0 v4 N b t hr hc1 hx1 hp hC))
        exact ⟨rfl, rfl, rfl, rfl, rfl, trivial⟩
    · have hp := hp.2 h3
      refine g_weak ?_ (g_cl (cg_622_2550 hd hS hR L xs v4 N b t hr hc1 hx1 hp hC))
      exact ⟨rfl, rfl, rfl, rfl, rfl, trivial⟩
  · have hp := hp.2 h2
    refine g_iconst mzi_0 ?_
    exact g_zret (z := false) rfl (hr _ _ _ _ (hx1 _ hC))
theorem cg_622_2850 (hd : 12 ≤ d) (hS : mz_extR S 343) (hR : mz_rok R 343) (L : Nat) (xs : Nat → Int32) (v4 : Int32) (N : mz_N) (b : Bool) (t : Nat) {C0 : (Bool × mz_N × Bool × Nat) → Prop} (hr : ∀ (w : Bool) (N2 : mz_N) (b2 : Bool) (t2 : Nat), C0 (w, N2, b2, t2) → Q (.inl (some (.int (mz_b01 w)))) (mz_k S R N2 b2 t2)) {C1 : ((Int32 × mz_N × Bool × Nat) ⊕ (Bool × mz_N × Bool × Nat)) → Prop} (hc1 : ∀ s2, C1 (.inl s2) → mz_G (d, mz_X0 L xs, some .boolean, [], mk_622, 8, Q) 35 mt_622_35 [(0, .ref 1002), (1, .ref 0), (2, .ref 232), (3, .ref 342), (4, .int s2.1)] [] false (mz_k S R s2.2.1 s2.2.2.1 s2.2.2.2)) (hx1 : ∀ z, C1 (.inr z) → C0 z) (hp : cp_622_2850 L xs v4 N b t) (hC : C1 (cf_622_2850 L xs v4 N b t)) : mz_G (d, mz_X0 L xs, some .boolean, [], mk_622, 8, Q) 2850 mt_622_2850 [(0, .ref 1002), (1, .ref 0), (2, .ref 232), (3, .ref 342), (4, .int v4)] [] false (mz_k S R N b t) := by
  unfold cf_622_2850 at hC
  unfold cp_622_2850 at hp
  refine g_goto (tg := 4500) rfl ms_622_4500 ?_
  refine g_weak ?_ (g_cl (cg_622_4500 hd hS hR L xs v4 N b t hr hc1 hx1 hp hC))
  exact ⟨rfl, rfl, rfl, rfl, rfl, trivial⟩
theorem cg_622_2817 (hd : 12 ≤ d) (hS : mz_extR S 343) (hR : mz_rok R 343) (L : Nat) (xs : Nat → Int32) (s1 : Int32) (s2 : Int32) (s3 : Int32) (s4 : Int32) (s5 : Bool) (v4 : Int32) (v5 : Int32) (N : mz_N) (b : Bool) (t : Nat) {C0 : (Bool × mz_N × Bool × Nat) → Prop} (hr : ∀ (w : Bool) (N2 : mz_N) (b2 : Bool) (t2 : Nat), C0 (w, N2, b2, t2) → Q (.inl (some (.int (mz_b01 w)))) (mz_k S R N2 b2 t2)) {C1 : ((Int32 × mz_N × Bool × Nat) ⊕ (Bool × mz_N × Bool × Nat)) → Prop} (hc1 : ∀ s2, C1 (.inl s2) → mz_G (d, mz_X0 L xs, some .boolean, [], mk_622, 8, Q) 35 mt_622_35 [(0, .ref 1002), (1, .ref 0), (2, .ref 232), (3, .ref 342), (4, .int s2.1)] [] false (mz_k S R s2.2.1 s2.2.2.1 s2.2.2.2)) (hx1 : ∀ z, C1 (.inr z) → C0 z) (hp : cp_622_2817 L xs s1 s2 s3 s4 s5 v4 v5 N b t) (hC : C1 (cf_622_2817 L xs s1 s2 s3 s4 s5 v4 v5 N b t)) : mz_G (d, mz_X0 L xs, some .boolean, [], mk_622, 8, Q) 2817 mt_622_2817 [(0, .ref 1002), (1, .ref 0), (2, .ref 232), (3, .ref 342), (4, .int v4), (5, .int v5)] [.int (mz_b01 s5), .int s4, .int s3, .int s2, .int s1, .ref 232] false (mz_k S R N b t) := by
  unfold cf_622_2817 at hC
  unfold cp_622_2817 at hp
  obtain ⟨h1, hp⟩ := hp
  refine g_v6v (Nat.le_of_ble_eq_true rfl) (mz_at hS (Nat.le_of_ble_eq_true rfl) mzcS_232) (fun _ hq => cs_577 (Nat.le_trans (Nat.le_of_ble_eq_true rfl) hd) (hS.le (Nat.le_of_ble_eq_true rfl)) (hR.le (Nat.le_of_ble_eq_true rfl))  s1 s2 s3 s4 s5 N h1 hq) (g_istore (Nat.le_of_ble_eq_true rfl) rfl (g_aload_n rfl ?_))
  refine g_v1v (Nat.le_of_ble_eq_true rfl) (mz_at hS (Nat.le_of_ble_eq_true rfl) mzcS_232) (fun _ hq => cs_459 (Nat.le_trans (Nat.le_of_ble_eq_true rfl) hd) (hS.le (Nat.le_of_ble_eq_true rfl)) (hR.le (Nat.le_of_ble_eq_true rfl))  ((cf_577_0 s1 s2 s3 s4 s5 N).2) trivial hq) (g_iload rfl ?_)
  refine g_iceq (tg := 2833) rfl ms_622_2833 hC (fun h3 hC => ?_) (fun h3 hC => ?_)
  · have hp := hp.1 h3
    refine g_iload rfl ?_
    refine g_ifne (tg := 2850) rfl ms_622_2850 hC (fun h4 hC => ?_) (fun h4 hC => ?_)
    · have hp := hp.1 h4
      refine g_aload_n rfl (g_iconst mzi_0 (g_lald (mz_at hS (Nat.le_of_ble_eq_true rfl) mzcS_342) (mz_ibd (by decide)) (g_iload rfl (g_i2l (g_lcmp ?_)))))
      refine g_leq (tg := 2850) rfl ms_622_2850 hC (fun h5 hC => ?_) (fun h5 hC => ?_)
      · have hp := hp.1 h5
        refine g_weak ?_ (g_cl (cg_622_2850 hd hS hR L xs v4 ((cf_577_0 s1 s2 s3 s4 s5 N).2) b t hr hc1 hx1 hp hC))
        exact ⟨rfl, rfl, rfl, rfl, rfl, trivial⟩
      · have hp := hp.2 h5
        refine g_iconst mzi_0 ?_
        exact g_zret (z := false) rfl (hr _ _ _ _ (hx1 _ hC))
    · have hp := hp.2 h4
      refine g_weak ?_ (g_cl (cg_622_2850 hd hS hR L xs v4 ((cf_577_0 s1 s2 s3 s4 s5 N).2) b t hr hc1 hx1 hp hC))
      exact ⟨rfl, rfl, rfl, rfl, rfl, trivial⟩
  · have hp := hp.2 h3
    refine g_iconst mzi_0 ?_
    exact g_zret (z := false) rfl (hr _ _ _ _ (hx1 _ hC))
theorem cg_622_2772 (hd : 12 ≤ d) (hS : mz_extR S 343) (hR : mz_rok R 343) (L : Nat) (xs : Nat → Int32) (s1 : Int32) (s2 : Int32) (s3 : Int32) (s4 : Int32) (s5 : Bool) (v4 : Int32) (N : mz_N) (b : Bool) (t : Nat) {C0 : (Bool × mz_N × Bool × Nat) → Prop} (hr : ∀ (w : Bool) (N2 : mz_N) (b2 : Bool) (t2 : Nat), C0 (w, N2, b2, t2) → Q (.inl (some (.int (mz_b01 w)))) (mz_k S R N2 b2 t2)) {C1 : ((Int32 × mz_N × Bool × Nat) ⊕ (Bool × mz_N × Bool × Nat)) → Prop} (hc1 : ∀ s2, C1 (.inl s2) → mz_G (d, mz_X0 L xs, some .boolean, [], mk_622, 8, Q) 35 mt_622_35 [(0, .ref 1002), (1, .ref 0), (2, .ref 232), (3, .ref 342), (4, .int s2.1)] [] false (mz_k S R s2.2.1 s2.2.2.1 s2.2.2.2)) (hx1 : ∀ z, C1 (.inr z) → C0 z) (hp : cp_622_2772 L xs s1 s2 s3 s4 s5 v4 N b t) (hC : C1 (cf_622_2772 L xs s1 s2 s3 s4 s5 v4 N b t)) : mz_G (d, mz_X0 L xs, some .boolean, [], mk_622, 8, Q) 2772 mt_622_2772 [(0, .ref 1002), (1, .ref 0), (2, .ref 232), (3, .ref 342), (4, .int v4)] [.int (mz_b01 s5), .int s4, .int s3, .int s2, .int s1, .ref 0] false (mz_k S R N b t) := by
  unfold cf_622_2772 at hC
  unfold cp_622_2772 at hp
  refine g_aload_n rfl ?_
  obtain ⟨h1, hp⟩ := hp
  refine g_s7v (Nat.le_of_ble_eq_true rfl) (fun _ hq => cs_302 (Nat.le_trans (Nat.le_of_ble_eq_true rfl) hd) (hS.le (Nat.le_of_ble_eq_true rfl)) (hR.le (Nat.le_of_ble_eq_true rfl))  s1 s2 s3 s4 s5 N b t h1 hq) (g_istore (Nat.le_of_ble_eq_true rfl) rfl (g_aload_n rfl (g_aload_n rfl (g_iload rfl (g_iconst mzi_1 (g_iadd ?_))))))
  obtain ⟨h2, hp⟩ := hp
  refine g_iald1002 h2 (g_aload_n rfl (g_iload rfl (g_iconst mzi_2 (g_iadd ?_))))
  obtain ⟨h3, hp⟩ := hp
  refine g_iald1002 h3 (g_aload_n rfl (g_iload rfl (g_iconst mzi_3 (g_iadd ?_))))
  obtain ⟨h4, hp⟩ := hp
  refine g_iald1002 h4 (g_aload_n rfl (g_iload rfl (g_iconst mzi_4 (g_iadd ?_))))
  obtain ⟨h5, hp⟩ := hp
  refine g_iald1002 h5 (g_aload_n rfl (g_iload rfl (g_iconst mzi_5 (g_iadd ?_))))
  obtain ⟨h6, hp⟩ := hp
  refine g_iald1002 h6 ?_
  refine g_ifeq (tg := 2816) rfl ms_622_2816 hC (fun h7 hC => ?_) (fun h7 hC => ?_)
  · have hp := hp.1 h7
    refine g_iconst mzi_0 ?_
    refine g_weak ?_ (g_cl (cg_622_2817 hd hS hR L xs (xs (v4 + 1).toNatClampNeg) (xs (v4 + 2).toNatClampNeg) (xs (v4 + 3).toNatClampNeg) (xs (v4 + 4).toNatClampNeg) false v4 ((cf_302_0 s1 s2 s3 s4 s5 N b t).1) ((cf_302_0 s1 s2 s3 s4 s5 N b t).2.1) b ((cf_302_0 s1 s2 s3 s4 s5 N b t).2.2) hr hc1 hx1 hp hC))
    exact ⟨rfl, rfl, rfl, rfl, rfl, rfl, trivial⟩
  · have hp := hp.2 h7
    refine g_iconst mzi_1 (g_goto (tg := 2817) rfl ms_622_2817 ?_)
    refine g_weak ?_ (g_cl (cg_622_2817 hd hS hR L xs (xs (v4 + 1).toNatClampNeg) (xs (v4 + 2).toNatClampNeg) (xs (v4 + 3).toNatClampNeg) (xs (v4 + 4).toNatClampNeg) true v4 ((cf_302_0 s1 s2 s3 s4 s5 N b t).1) ((cf_302_0 s1 s2 s3 s4 s5 N b t).2.1) b ((cf_302_0 s1 s2 s3 s4 s5 N b t).2.2) hr hc1 hx1 hp hC))
    exact ⟨rfl, rfl, rfl, rfl, rfl, rfl, trivial⟩
theorem cg_622_1027 (hd : 12 ≤ d) (hS : mz_extR S 343) (hR : mz_rok R 343) (L : Nat) (xs : Nat → Int32) (v4 : Int32) (N : mz_N) (b : Bool) (t : Nat) {C0 : (Bool × mz_N × Bool × Nat) → Prop} (hr : ∀ (w : Bool) (N2 : mz_N) (b2 : Bool) (t2 : Nat), C0 (w, N2, b2, t2) → Q (.inl (some (.int (mz_b01 w)))) (mz_k S R N2 b2 t2)) {C1 : ((Int32 × mz_N × Bool × Nat) ⊕ (Bool × mz_N × Bool × Nat)) → Prop} (hc1 : ∀ s2, C1 (.inl s2) → mz_G (d, mz_X0 L xs, some .boolean, [], mk_622, 8, Q) 35 mt_622_35 [(0, .ref 1002), (1, .ref 0), (2, .ref 232), (3, .ref 342), (4, .int s2.1)] [] false (mz_k S R s2.2.1 s2.2.2.1 s2.2.2.2)) (hx1 : ∀ z, C1 (.inr z) → C0 z) (hp : cp_622_1027 L xs v4 N b t) (hC : C1 (cf_622_1027 L xs v4 N b t)) : mz_G (d, mz_X0 L xs, some .boolean, [], mk_622, 8, Q) 1027 mt_622_1027 [(0, .ref 1002), (1, .ref 0), (2, .ref 232), (3, .ref 342), (4, .int v4)] [] false (mz_k S R N b t) := by
  unfold cf_622_1027 at hC
  unfold cp_622_1027 at hp
  refine g_goto (tg := 4500) rfl ms_622_4500 ?_
  refine g_weak ?_ (g_cl (cg_622_4500 hd hS hR L xs v4 N b t hr hc1 hx1 hp hC))
  exact ⟨rfl, rfl, rfl, rfl, rfl, trivial⟩
theorem cg_622_981 (hd : 12 ≤ d) (hS : mz_extR S 343) (hR : mz_rok R 343) (L : Nat) (xs : Nat → Int32) (v4 : Int32) (v5 : Int32) (N : mz_N) (b : Bool) (t : Nat) {C0 : (Bool × mz_N × Bool × Nat) → Prop} (hr : ∀ (w : Bool) (N2 : mz_N) (b2 : Bool) (t2 : Nat), C0 (w, N2, b2, t2) → Q (.inl (some (.int (mz_b01 w)))) (mz_k S R N2 b2 t2)) {C1 : ((Int32 × mz_N × Bool × Nat) ⊕ (Bool × mz_N × Bool × Nat)) → Prop} (hc1 : ∀ s2, C1 (.inl s2) → mz_G (d, mz_X0 L xs, some .boolean, [], mk_622, 8, Q) 35 mt_622_35 [(0, .ref 1002), (1, .ref 0), (2, .ref 232), (3, .ref 342), (4, .int s2.1)] [] false (mz_k S R s2.2.1 s2.2.2.1 s2.2.2.2)) (hx1 : ∀ z, C1 (.inr z) → C0 z) (hp : cp_622_981 L xs v4 v5 N b t) (hC : C1 (cf_622_981 L xs v4 v5 N b t)) : mz_G (d, mz_X0 L xs, some .boolean, [], mk_622, 8, Q) 981 mt_622_981 [(0, .ref 1002), (1, .ref 0), (2, .ref 232), (3, .ref 342), (4, .int v4), (5, .int v5)] [] false (mz_k S R N b t) := by
  unfold cf_622_981 at hC
  unfold cp_622_981 at hp
  refine g_aload_n rfl (g_aload_n rfl (g_iload rfl (g_iconst mzi_1 (g_iadd ?_))))
  obtain ⟨h1, hp⟩ := hp
  refine g_iald1002 h1 (g_aload_n rfl (g_iload rfl (g_iconst mzi_2 (g_iadd ?_))))
  obtain ⟨h2, hp⟩ := hp
  refine g_iald1002 h2 ?_
  obtain ⟨h3, hp⟩ := hp
  refine g_v3v (Nat.le_of_ble_eq_true rfl) (mz_at hS (Nat.le_of_ble_eq_true rfl) mzcS_232) (fun _ hq => cs_486 (Nat.le_trans (Nat.le_of_ble_eq_true rfl) hd) (hS.le (Nat.le_of_ble_eq_true rfl)) (hR.le (Nat.le_of_ble_eq_true rfl))  (xs (v4 + 1).toNatClampNeg) (xs (v4 + 2).toNatClampNeg) N h3 hq) (g_istore (Nat.le_of_ble_eq_true rfl) rfl (g_aload_n rfl ?_))
  refine g_v1v (Nat.le_of_ble_eq_true rfl) (mz_at hS (Nat.le_of_ble_eq_true rfl) mzcS_232) (fun _ hq => cs_459 (Nat.le_trans (Nat.le_of_ble_eq_true rfl) hd) (hS.le (Nat.le_of_ble_eq_true rfl)) (hR.le (Nat.le_of_ble_eq_true rfl))  ((cf_486_0 (xs (v4 + 1).toNatClampNeg) (xs (v4 + 2).toNatClampNeg) N).2) trivial hq) (g_iload rfl ?_)
  refine g_iceq (tg := 1010) rfl ms_622_1010 hC (fun h5 hC => ?_) (fun h5 hC => ?_)
  · have hp := hp.1 h5
    refine g_iload rfl ?_
    refine g_ifne (tg := 1027) rfl ms_622_1027 hC (fun h6 hC => ?_) (fun h6 hC => ?_)
    · have hp := hp.1 h6
      refine g_aload_n rfl (g_iconst mzi_0 (g_lald (mz_at hS (Nat.le_of_ble_eq_true rfl) mzcS_342) (mz_ibd (by decide)) (g_iload rfl (g_i2l (g_lcmp ?_)))))
      refine g_leq (tg := 1027) rfl ms_622_1027 hC (fun h7 hC => ?_) (fun h7 hC => ?_)
      · have hp := hp.1 h7
        refine g_weak ?_ (g_cl (cg_622_1027 hd hS hR L xs v4 ((cf_486_0 (xs (v4 + 1).toNatClampNeg) (xs (v4 + 2).toNatClampNeg) N).2) b t hr hc1 hx1 hp hC))
        exact ⟨rfl, rfl, rfl, rfl, rfl, trivial⟩
      · have hp := hp.2 h7
        refine g_iconst mzi_0 ?_
        exact g_zret (z := false) rfl (hr _ _ _ _ (hx1 _ hC))
    · have hp := hp.2 h6
      refine g_weak ?_ (g_cl (cg_622_1027 hd hS hR L xs v4 ((cf_486_0 (xs (v4 + 1).toNatClampNeg) (xs (v4 + 2).toNatClampNeg) N).2) b t hr hc1 hx1 hp hC))
      exact ⟨rfl, rfl, rfl, rfl, rfl, trivial⟩
  · have hp := hp.2 h5
    refine g_iconst mzi_0 ?_
    exact g_zret (z := false) rfl (hr _ _ _ _ (hx1 _ hC))
theorem cg_622_1563 (hd : 12 ≤ d) (hS : mz_extR S 343) (hR : mz_rok R 343) (L : Nat) (xs : Nat → Int32) (v4 : Int32) (N : mz_N) (b : Bool) (t : Nat) {C0 : (Bool × mz_N × Bool × Nat) → Prop} (hr : ∀ (w : Bool) (N2 : mz_N) (b2 : Bool) (t2 : Nat), C0 (w, N2, b2, t2) → Q (.inl (some (.int (mz_b01 w)))) (mz_k S R N2 b2 t2)) {C1 : ((Int32 × mz_N × Bool × Nat) ⊕ (Bool × mz_N × Bool × Nat)) → Prop} (hc1 : ∀ s2, C1 (.inl s2) → mz_G (d, mz_X0 L xs, some .boolean, [], mk_622, 8, Q) 35 mt_622_35 [(0, .ref 1002), (1, .ref 0), (2, .ref 232), (3, .ref 342), (4, .int s2.1)] [] false (mz_k S R s2.2.1 s2.2.2.1 s2.2.2.2)) (hx1 : ∀ z, C1 (.inr z) → C0 z) (hp : cp_622_1563 L xs v4 N b t) (hC : C1 (cf_622_1563 L xs v4 N b t)) : mz_G (d, mz_X0 L xs, some .boolean, [], mk_622, 8, Q) 1563 mt_622_1563 [(0, .ref 1002), (1, .ref 0), (2, .ref 232), (3, .ref 342), (4, .int v4)] [] false (mz_k S R N b t) := by
  unfold cf_622_1563 at hC
  unfold cp_622_1563 at hp
  refine g_goto (tg := 4500) rfl ms_622_4500 ?_
  refine g_weak ?_ (g_cl (cg_622_4500 hd hS hR L xs v4 N b t hr hc1 hx1 hp hC))
  exact ⟨rfl, rfl, rfl, rfl, rfl, trivial⟩
theorem cg_622_1535 (hd : 12 ≤ d) (hS : mz_extR S 343) (hR : mz_rok R 343) (L : Nat) (xs : Nat → Int32) (v4 : Int32) (v5 : Int32) (v6 : Int32) (N : mz_N) (b : Bool) (t : Nat) {C0 : (Bool × mz_N × Bool × Nat) → Prop} (hr : ∀ (w : Bool) (N2 : mz_N) (b2 : Bool) (t2 : Nat), C0 (w, N2, b2, t2) → Q (.inl (some (.int (mz_b01 w)))) (mz_k S R N2 b2 t2)) {C1 : ((Int32 × mz_N × Bool × Nat) ⊕ (Bool × mz_N × Bool × Nat)) → Prop} (hc1 : ∀ s2, C1 (.inl s2) → mz_G (d, mz_X0 L xs, some .boolean, [], mk_622, 8, Q) 35 mt_622_35 [(0, .ref 1002), (1, .ref 0), (2, .ref 232), (3, .ref 342), (4, .int s2.1)] [] false (mz_k S R s2.2.1 s2.2.2.1 s2.2.2.2)) (hx1 : ∀ z, C1 (.inr z) → C0 z) (hp : cp_622_1535 L xs v4 v5 v6 N b t) (hC : C1 (cf_622_1535 L xs v4 v5 v6 N b t)) : mz_G (d, mz_X0 L xs, some .boolean, [], mk_622, 8, Q) 1535 mt_622_1535 [(0, .ref 1002), (1, .ref 0), (2, .ref 232), (3, .ref 342), (4, .int v4), (5, .int v5), (6, .int v6)] [] false (mz_k S R N b t) := by
  unfold cf_622_1535 at hC
  unfold cp_622_1535 at hp
  refine g_aload_n rfl ?_
  refine g_v1v (Nat.le_of_ble_eq_true rfl) (mz_at hS (Nat.le_of_ble_eq_true rfl) mzcS_232) (fun _ hq => cs_459 (Nat.le_trans (Nat.le_of_ble_eq_true rfl) hd) (hS.le (Nat.le_of_ble_eq_true rfl)) (hR.le (Nat.le_of_ble_eq_true rfl))  N trivial hq) (g_iload rfl ?_)
  refine g_iceq (tg := 1546) rfl ms_622_1546 hC (fun h2 hC => ?_) (fun h2 hC => ?_)
  · have hp := hp.1 h2
    refine g_iload rfl ?_
    refine g_ifne (tg := 1563) rfl ms_622_1563 hC (fun h3 hC => ?_) (fun h3 hC => ?_)
    · have hp := hp.1 h3
      refine g_aload_n rfl (g_iconst mzi_0 (g_lald (mz_at hS (Nat.le_of_ble_eq_true rfl) mzcS_342) (mz_ibd (by decide)) (g_iload rfl (g_i2l (g_lcmp ?_)))))
      refine g_leq (tg := 1563) rfl ms_622_1563 hC (fun h4 hC => ?_) (fun h4 hC => ?_)
      · have hp := hp.1 h4
        refine g_weak ?_ (g_cl (cg_622_1563 hd hS hR L xs v4 N b t hr hc1 hx1 hp hC))
        exact ⟨rfl, rfl, rfl, rfl, rfl, trivial⟩
      · have hp := hp.2 h4
        refine g_iconst mzi_0 ?_
        exact g_zret (z := false) rfl (hr _ _ _ _ (hx1 _ hC))
    · have hp := hp.2 h3
      refine g_weak ?_ (g_cl (cg_622_1563 hd hS hR L xs v4 N b t hr hc1 hx1 hp hC))
      exact ⟨rfl, rfl, rfl, rfl, rfl, trivial⟩
  · have hp := hp.2 h2
    refine g_iconst mzi_0 ?_
    exact g_zret (z := false) rfl (hr _ _ _ _ (hx1 _ hC))
theorem cg_622_1511 (hd : 12 ≤ d) (hS : mz_extR S 343) (hR : mz_rok R 343) (L : Nat) (xs : Nat → Int32) (v4 : Int32) (v5 : Int32) (N : mz_N) (b : Bool) (t : Nat) {C0 : (Bool × mz_N × Bool × Nat) → Prop} (hr : ∀ (w : Bool) (N2 : mz_N) (b2 : Bool) (t2 : Nat), C0 (w, N2, b2, t2) → Q (.inl (some (.int (mz_b01 w)))) (mz_k S R N2 b2 t2)) {C1 : ((Int32 × mz_N × Bool × Nat) ⊕ (Bool × mz_N × Bool × Nat)) → Prop} (hc1 : ∀ s2, C1 (.inl s2) → mz_G (d, mz_X0 L xs, some .boolean, [], mk_622, 8, Q) 35 mt_622_35 [(0, .ref 1002), (1, .ref 0), (2, .ref 232), (3, .ref 342), (4, .int s2.1)] [] false (mz_k S R s2.2.1 s2.2.2.1 s2.2.2.2)) (hx1 : ∀ z, C1 (.inr z) → C0 z) (hp : cp_622_1511 L xs v4 v5 N b t) (hC : C1 (cf_622_1511 L xs v4 v5 N b t)) : mz_G (d, mz_X0 L xs, some .boolean, [], mk_622, 8, Q) 1511 mt_622_1511 [(0, .ref 1002), (1, .ref 0), (2, .ref 232), (3, .ref 342), (4, .int v4), (5, .int v5)] [] false (mz_k S R N b t) := by
  unfold cf_622_1511 at hC
  unfold cp_622_1511 at hp
  refine g_aload_n rfl (g_aload_n rfl (g_iload rfl (g_iconst mzi_1 (g_iadd ?_))))
  obtain ⟨h1, hp⟩ := hp
  refine g_iald1002 h1 (g_aload_n rfl (g_iload rfl (g_iconst mzi_2 (g_iadd ?_))))
  obtain ⟨h2, hp⟩ := hp
  refine g_iald1002 h2 (g_aload_n rfl (g_iload rfl (g_iconst mzi_3 (g_iadd ?_))))
  obtain ⟨h3, hp⟩ := hp
  refine g_iald1002 h3 ?_
  obtain ⟨h4, hp⟩ := hp
  refine g_v4v (Nat.le_of_ble_eq_true rfl) (mz_at hS (Nat.le_of_ble_eq_true rfl) mzcS_232) (fun _ hq => cs_498 (Nat.le_trans (Nat.le_of_ble_eq_true rfl) hd) (hS.le (Nat.le_of_ble_eq_true rfl)) (hR.le (Nat.le_of_ble_eq_true rfl))  (xs (v4 + 1).toNatClampNeg) (xs (v4 + 2).toNatClampNeg) (xs (v4 + 3).toNatClampNeg) N h4 hq) (g_istore (Nat.le_of_ble_eq_true rfl) rfl ?_)
  refine g_weak ?_ (g_cl (cg_622_1535 hd hS hR L xs v4 v5 ((cf_498_0 (xs (v4 + 1).toNatClampNeg) (xs (v4 + 2).toNatClampNeg) (xs (v4 + 3).toNatClampNeg) N).1) ((cf_498_0 (xs (v4 + 1).toNatClampNeg) (xs (v4 + 2).toNatClampNeg) (xs (v4 + 3).toNatClampNeg) N).2) b t hr hc1 hx1 hp hC))
  exact ⟨rfl, rfl, rfl, rfl, rfl, rfl, rfl, trivial⟩
theorem cg_622_791 (hd : 12 ≤ d) (hS : mz_extR S 343) (hR : mz_rok R 343) (L : Nat) (xs : Nat → Int32) (v4 : Int32) (N : mz_N) (b : Bool) (t : Nat) {C0 : (Bool × mz_N × Bool × Nat) → Prop} (hr : ∀ (w : Bool) (N2 : mz_N) (b2 : Bool) (t2 : Nat), C0 (w, N2, b2, t2) → Q (.inl (some (.int (mz_b01 w)))) (mz_k S R N2 b2 t2)) {C1 : ((Int32 × mz_N × Bool × Nat) ⊕ (Bool × mz_N × Bool × Nat)) → Prop} (hc1 : ∀ s2, C1 (.inl s2) → mz_G (d, mz_X0 L xs, some .boolean, [], mk_622, 8, Q) 35 mt_622_35 [(0, .ref 1002), (1, .ref 0), (2, .ref 232), (3, .ref 342), (4, .int s2.1)] [] false (mz_k S R s2.2.1 s2.2.2.1 s2.2.2.2)) (hx1 : ∀ z, C1 (.inr z) → C0 z) (hp : cp_622_791 L xs v4 N b t) (hC : C1 (cf_622_791 L xs v4 N b t)) : mz_G (d, mz_X0 L xs, some .boolean, [], mk_622, 8, Q) 791 mt_622_791 [(0, .ref 1002), (1, .ref 0), (2, .ref 232), (3, .ref 342), (4, .int v4)] [] false (mz_k S R N b t) := by
  unfold cf_622_791 at hC
  unfold cp_622_791 at hp
  refine g_goto (tg := 4500) rfl ms_622_4500 ?_
  refine g_weak ?_ (g_cl (cg_622_4500 hd hS hR L xs v4 N b t hr hc1 hx1 hp hC))
  exact ⟨rfl, rfl, rfl, rfl, rfl, trivial⟩
theorem cg_622_745 (hd : 12 ≤ d) (hS : mz_extR S 343) (hR : mz_rok R 343) (L : Nat) (xs : Nat → Int32) (v4 : Int32) (v5 : Int32) (N : mz_N) (b : Bool) (t : Nat) {C0 : (Bool × mz_N × Bool × Nat) → Prop} (hr : ∀ (w : Bool) (N2 : mz_N) (b2 : Bool) (t2 : Nat), C0 (w, N2, b2, t2) → Q (.inl (some (.int (mz_b01 w)))) (mz_k S R N2 b2 t2)) {C1 : ((Int32 × mz_N × Bool × Nat) ⊕ (Bool × mz_N × Bool × Nat)) → Prop} (hc1 : ∀ s2, C1 (.inl s2) → mz_G (d, mz_X0 L xs, some .boolean, [], mk_622, 8, Q) 35 mt_622_35 [(0, .ref 1002), (1, .ref 0), (2, .ref 232), (3, .ref 342), (4, .int s2.1)] [] false (mz_k S R s2.2.1 s2.2.2.1 s2.2.2.2)) (hx1 : ∀ z, C1 (.inr z) → C0 z) (hp : cp_622_745 L xs v4 v5 N b t) (hC : C1 (cf_622_745 L xs v4 v5 N b t)) : mz_G (d, mz_X0 L xs, some .boolean, [], mk_622, 8, Q) 745 mt_622_745 [(0, .ref 1002), (1, .ref 0), (2, .ref 232), (3, .ref 342), (4, .int v4), (5, .int v5)] [] false (mz_k S R N b t) := by
  unfold cf_622_745 at hC
  unfold cp_622_745 at hp
  refine g_aload_n rfl (g_aload_n rfl (g_iload rfl (g_iconst mzi_1 (g_iadd ?_))))
  obtain ⟨h1, hp⟩ := hp
  refine g_iald1002 h1 (g_aload_n rfl (g_iload rfl (g_iconst mzi_2 (g_iadd ?_))))
  obtain ⟨h2, hp⟩ := hp
  refine g_iald1002 h2 ?_
  obtain ⟨h3, hp⟩ := hp
  refine g_v3v (Nat.le_of_ble_eq_true rfl) (mz_at hS (Nat.le_of_ble_eq_true rfl) mzcS_232) (fun _ hq => cs_481 (Nat.le_trans (Nat.le_of_ble_eq_true rfl) hd) (hS.le (Nat.le_of_ble_eq_true rfl)) (hR.le (Nat.le_of_ble_eq_true rfl))  (xs (v4 + 1).toNatClampNeg) (xs (v4 + 2).toNatClampNeg) N h3 hq) (g_istore (Nat.le_of_ble_eq_true rfl) rfl (g_aload_n rfl ?_))
  refine g_v1v (Nat.le_of_ble_eq_true rfl) (mz_at hS (Nat.le_of_ble_eq_true rfl) mzcS_232) (fun _ hq => cs_459 (Nat.le_trans (Nat.le_of_ble_eq_true rfl) hd) (hS.le (Nat.le_of_ble_eq_true rfl)) (hR.le (Nat.le_of_ble_eq_true rfl))  ((cf_481_0 (xs (v4 + 1).toNatClampNeg) (xs (v4 + 2).toNatClampNeg) N).2) trivial hq) (g_iload rfl ?_)
  refine g_iceq (tg := 774) rfl ms_622_774 hC (fun h5 hC => ?_) (fun h5 hC => ?_)
  · have hp := hp.1 h5
    refine g_iload rfl ?_
    refine g_ifne (tg := 791) rfl ms_622_791 hC (fun h6 hC => ?_) (fun h6 hC => ?_)
    · have hp := hp.1 h6
      refine g_aload_n rfl (g_iconst mzi_0 (g_lald (mz_at hS (Nat.le_of_ble_eq_true rfl) mzcS_342) (mz_ibd (by decide)) (g_iload rfl (g_i2l (g_lcmp ?_)))))
      refine g_leq (tg := 791) rfl ms_622_791 hC (fun h7 hC => ?_) (fun h7 hC => ?_)
      · have hp := hp.1 h7
        refine g_weak ?_ (g_cl (cg_622_791 hd hS hR L xs v4 ((cf_481_0 (xs (v4 + 1).toNatClampNeg) (xs (v4 + 2).toNatClampNeg) N).2) b t hr hc1 hx1 hp hC))
        exact ⟨rfl, rfl, rfl, rfl, rfl, trivial⟩
      · have hp := hp.2 h7
        refine g_iconst mzi_0 ?_
        exact g_zret (z := false) rfl (hr _ _ _ _ (hx1 _ hC))
    · have hp := hp.2 h6
      refine g_weak ?_ (g_cl (cg_622_791 hd hS hR L xs v4 ((cf_481_0 (xs (v4 + 1).toNatClampNeg) (xs (v4 + 2).toNatClampNeg) N).2) b t hr hc1 hx1 hp hC))
      exact ⟨rfl, rfl, rfl, rfl, rfl, trivial⟩
  · have hp := hp.2 h5
    refine g_iconst mzi_0 ?_
    exact g_zret (z := false) rfl (hr _ _ _ _ (hx1 _ hC))
theorem cg_622_3098 (hd : 12 ≤ d) (hS : mz_extR S 343) (hR : mz_rok R 343) (L : Nat) (xs : Nat → Int32) (v4 : Int32) (N : mz_N) (b : Bool) (t : Nat) {C0 : (Bool × mz_N × Bool × Nat) → Prop} (hr : ∀ (w : Bool) (N2 : mz_N) (b2 : Bool) (t2 : Nat), C0 (w, N2, b2, t2) → Q (.inl (some (.int (mz_b01 w)))) (mz_k S R N2 b2 t2)) {C1 : ((Int32 × mz_N × Bool × Nat) ⊕ (Bool × mz_N × Bool × Nat)) → Prop} (hc1 : ∀ s2, C1 (.inl s2) → mz_G (d, mz_X0 L xs, some .boolean, [], mk_622, 8, Q) 35 mt_622_35 [(0, .ref 1002), (1, .ref 0), (2, .ref 232), (3, .ref 342), (4, .int s2.1)] [] false (mz_k S R s2.2.1 s2.2.2.1 s2.2.2.2)) (hx1 : ∀ z, C1 (.inr z) → C0 z) (hp : cp_622_3098 L xs v4 N b t) (hC : C1 (cf_622_3098 L xs v4 N b t)) : mz_G (d, mz_X0 L xs, some .boolean, [], mk_622, 8, Q) 3098 mt_622_3098 [(0, .ref 1002), (1, .ref 0), (2, .ref 232), (3, .ref 342), (4, .int v4)] [] false (mz_k S R N b t) := by
  unfold cf_622_3098 at hC
  unfold cp_622_3098 at hp
  refine g_goto (tg := 4500) rfl ms_622_4500 ?_
  refine g_weak ?_ (g_cl (cg_622_4500 hd hS hR L xs v4 N b t hr hc1 hx1 hp hC))
  exact ⟨rfl, rfl, rfl, rfl, rfl, trivial⟩
theorem cg_622_3052 (hd : 12 ≤ d) (hS : mz_extR S 343) (hR : mz_rok R 343) (L : Nat) (xs : Nat → Int32) (v4 : Int32) (v5 : Int32) (N : mz_N) (b : Bool) (t : Nat) {C0 : (Bool × mz_N × Bool × Nat) → Prop} (hr : ∀ (w : Bool) (N2 : mz_N) (b2 : Bool) (t2 : Nat), C0 (w, N2, b2, t2) → Q (.inl (some (.int (mz_b01 w)))) (mz_k S R N2 b2 t2)) {C1 : ((Int32 × mz_N × Bool × Nat) ⊕ (Bool × mz_N × Bool × Nat)) → Prop} (hc1 : ∀ s2, C1 (.inl s2) → mz_G (d, mz_X0 L xs, some .boolean, [], mk_622, 8, Q) 35 mt_622_35 [(0, .ref 1002), (1, .ref 0), (2, .ref 232), (3, .ref 342), (4, .int s2.1)] [] false (mz_k S R s2.2.1 s2.2.2.1 s2.2.2.2)) (hx1 : ∀ z, C1 (.inr z) → C0 z) (hp : cp_622_3052 L xs v4 v5 N b t) (hC : C1 (cf_622_3052 L xs v4 v5 N b t)) : mz_G (d, mz_X0 L xs, some .boolean, [], mk_622, 8, Q) 3052 mt_622_3052 [(0, .ref 1002), (1, .ref 0), (2, .ref 232), (3, .ref 342), (4, .int v4), (5, .int v5)] [] false (mz_k S R N b t) := by
  unfold cf_622_3052 at hC
  unfold cp_622_3052 at hp
  refine g_aload_n rfl (g_aload_n rfl (g_iload rfl (g_iconst mzi_1 (g_iadd ?_))))
  obtain ⟨h1, hp⟩ := hp
  refine g_iald1002 h1 (g_aload_n rfl (g_iload rfl (g_iconst mzi_2 (g_iadd ?_))))
  obtain ⟨h2, hp⟩ := hp
  refine g_iald1002 h2 ?_
  obtain ⟨h3, hp⟩ := hp
  refine g_v3v (Nat.le_of_ble_eq_true rfl) (mz_at hS (Nat.le_of_ble_eq_true rfl) mzcS_232) (fun _ hq => cs_585 (Nat.le_trans (Nat.le_of_ble_eq_true rfl) hd) (hS.le (Nat.le_of_ble_eq_true rfl)) (hR.le (Nat.le_of_ble_eq_true rfl))  (xs (v4 + 1).toNatClampNeg) (xs (v4 + 2).toNatClampNeg) N h3 hq) (g_istore (Nat.le_of_ble_eq_true rfl) rfl (g_aload_n rfl ?_))
  refine g_v1v (Nat.le_of_ble_eq_true rfl) (mz_at hS (Nat.le_of_ble_eq_true rfl) mzcS_232) (fun _ hq => cs_459 (Nat.le_trans (Nat.le_of_ble_eq_true rfl) hd) (hS.le (Nat.le_of_ble_eq_true rfl)) (hR.le (Nat.le_of_ble_eq_true rfl))  ((cf_585_0 (xs (v4 + 1).toNatClampNeg) (xs (v4 + 2).toNatClampNeg) N).2) trivial hq) (g_iload rfl ?_)
  refine g_iceq (tg := 3081) rfl ms_622_3081 hC (fun h5 hC => ?_) (fun h5 hC => ?_)
  · have hp := hp.1 h5
    refine g_iload rfl ?_
    refine g_ifne (tg := 3098) rfl ms_622_3098 hC (fun h6 hC => ?_) (fun h6 hC => ?_)
    · have hp := hp.1 h6
      refine g_aload_n rfl (g_iconst mzi_0 (g_lald (mz_at hS (Nat.le_of_ble_eq_true rfl) mzcS_342) (mz_ibd (by decide)) (g_iload rfl (g_i2l (g_lcmp ?_)))))
      refine g_leq (tg := 3098) rfl ms_622_3098 hC (fun h7 hC => ?_) (fun h7 hC => ?_)
      · have hp := hp.1 h7
        refine g_weak ?_ (g_cl (cg_622_3098 hd hS hR L xs v4 ((cf_585_0 (xs (v4 + 1).toNatClampNeg) (xs (v4 + 2).toNatClampNeg) N).2) b t hr hc1 hx1 hp hC))
        exact ⟨rfl, rfl, rfl, rfl, rfl, trivial⟩
      · have hp := hp.2 h7
        refine g_iconst mzi_0 ?_
        exact g_zret (z := false) rfl (hr _ _ _ _ (hx1 _ hC))
    · have hp := hp.2 h6
      refine g_weak ?_ (g_cl (cg_622_3098 hd hS hR L xs v4 ((cf_585_0 (xs (v4 + 1).toNatClampNeg) (xs (v4 + 2).toNatClampNeg) N).2) b t hr hc1 hx1 hp hC))
      exact ⟨rfl, rfl, rfl, rfl, rfl, trivial⟩
  · have hp := hp.2 h5
    refine g_iconst mzi_0 ?_
    exact g_zret (z := false) rfl (hr _ _ _ _ (hx1 _ hC))
theorem cg_622_2090 (hd : 12 ≤ d) (hS : mz_extR S 343) (hR : mz_rok R 343) (L : Nat) (xs : Nat → Int32) (v4 : Int32) (N : mz_N) (b : Bool) (t : Nat) {C0 : (Bool × mz_N × Bool × Nat) → Prop} (hr : ∀ (w : Bool) (N2 : mz_N) (b2 : Bool) (t2 : Nat), C0 (w, N2, b2, t2) → Q (.inl (some (.int (mz_b01 w)))) (mz_k S R N2 b2 t2)) {C1 : ((Int32 × mz_N × Bool × Nat) ⊕ (Bool × mz_N × Bool × Nat)) → Prop} (hc1 : ∀ s2, C1 (.inl s2) → mz_G (d, mz_X0 L xs, some .boolean, [], mk_622, 8, Q) 35 mt_622_35 [(0, .ref 1002), (1, .ref 0), (2, .ref 232), (3, .ref 342), (4, .int s2.1)] [] false (mz_k S R s2.2.1 s2.2.2.1 s2.2.2.2)) (hx1 : ∀ z, C1 (.inr z) → C0 z) (hp : cp_622_2090 L xs v4 N b t) (hC : C1 (cf_622_2090 L xs v4 N b t)) : mz_G (d, mz_X0 L xs, some .boolean, [], mk_622, 8, Q) 2090 mt_622_2090 [(0, .ref 1002), (1, .ref 0), (2, .ref 232), (3, .ref 342), (4, .int v4)] [] false (mz_k S R N b t) := by
  unfold cf_622_2090 at hC
  unfold cp_622_2090 at hp
  refine g_goto (tg := 4500) rfl ms_622_4500 ?_
  refine g_weak ?_ (g_cl (cg_622_4500 hd hS hR L xs v4 N b t hr hc1 hx1 hp hC))
  exact ⟨rfl, rfl, rfl, rfl, rfl, trivial⟩
theorem cg_622_2084 (hd : 12 ≤ d) (hS : mz_extR S 343) (hR : mz_rok R 343) (L : Nat) (xs : Nat → Int32) (s0 : Int64) (s1 : Int64) (v4 : Int32) (N : mz_N) (b : Bool) (t : Nat) {C0 : (Bool × mz_N × Bool × Nat) → Prop} (hr : ∀ (w : Bool) (N2 : mz_N) (b2 : Bool) (t2 : Nat), C0 (w, N2, b2, t2) → Q (.inl (some (.int (mz_b01 w)))) (mz_k S R N2 b2 t2)) {C1 : ((Int32 × mz_N × Bool × Nat) ⊕ (Bool × mz_N × Bool × Nat)) → Prop} (hc1 : ∀ s2, C1 (.inl s2) → mz_G (d, mz_X0 L xs, some .boolean, [], mk_622, 8, Q) 35 mt_622_35 [(0, .ref 1002), (1, .ref 0), (2, .ref 232), (3, .ref 342), (4, .int s2.1)] [] false (mz_k S R s2.2.1 s2.2.2.1 s2.2.2.2)) (hx1 : ∀ z, C1 (.inr z) → C0 z) (hp : cp_622_2084 L xs s0 s1 v4 N b t) (hC : C1 (cf_622_2084 L xs s0 s1 v4 N b t)) : mz_G (d, mz_X0 L xs, some .boolean, [], mk_622, 8, Q) 2084 mt_622_2084 [(0, .ref 1002), (1, .ref 0), (2, .ref 232), (3, .ref 342), (4, .int v4)] [.long s1, .long s0] false (mz_k S R N b t) := by
  unfold cf_622_2084 at hC
  unfold cp_622_2084 at hp
  refine g_lcmp ?_
  refine g_leq (tg := 2090) rfl ms_622_2090 hC (fun h1 hC => ?_) (fun h1 hC => ?_)
  · have hp := hp.1 h1
    refine g_weak ?_ (g_cl (cg_622_2090 hd hS hR L xs v4 N b t hr hc1 hx1 hp hC))
    exact ⟨rfl, rfl, rfl, rfl, rfl, trivial⟩
  · have hp := hp.2 h1
    refine g_iconst mzi_0 ?_
    exact g_zret (z := false) rfl (hr _ _ _ _ (hx1 _ hC))
theorem cg_622_2050 (hd : 12 ≤ d) (hS : mz_extR S 343) (hR : mz_rok R 343) (L : Nat) (xs : Nat → Int32) (s1 : Bool) (v4 : Int32) (v5 : Int32) (N : mz_N) (b : Bool) (t : Nat) {C0 : (Bool × mz_N × Bool × Nat) → Prop} (hr : ∀ (w : Bool) (N2 : mz_N) (b2 : Bool) (t2 : Nat), C0 (w, N2, b2, t2) → Q (.inl (some (.int (mz_b01 w)))) (mz_k S R N2 b2 t2)) {C1 : ((Int32 × mz_N × Bool × Nat) ⊕ (Bool × mz_N × Bool × Nat)) → Prop} (hc1 : ∀ s2, C1 (.inl s2) → mz_G (d, mz_X0 L xs, some .boolean, [], mk_622, 8, Q) 35 mt_622_35 [(0, .ref 1002), (1, .ref 0), (2, .ref 232), (3, .ref 342), (4, .int s2.1)] [] false (mz_k S R s2.2.1 s2.2.2.1 s2.2.2.2)) (hx1 : ∀ z, C1 (.inr z) → C0 z) (hp : cp_622_2050 L xs s1 v4 v5 N b t) (hC : C1 (cf_622_2050 L xs s1 v4 v5 N b t)) : mz_G (d, mz_X0 L xs, some .boolean, [], mk_622, 8, Q) 2050 mt_622_2050 [(0, .ref 1002), (1, .ref 0), (2, .ref 232), (3, .ref 342), (4, .int v4), (5, .int v5)] [.int (mz_b01 s1), .ref 232] false (mz_k S R N b t) := by
  unfold cf_622_2050 at hC
  unfold cp_622_2050 at hp
  obtain ⟨h1, hp⟩ := hp
  refine g_v2v (Nat.le_of_ble_eq_true rfl) (mz_at hS (Nat.le_of_ble_eq_true rfl) mzcS_232) (fun _ hq => cs_548 (Nat.le_trans (Nat.le_of_ble_eq_true rfl) hd) (hS.le (Nat.le_of_ble_eq_true rfl)) (hR.le (Nat.le_of_ble_eq_true rfl))  s1 N h1 hq) (g_istore (Nat.le_of_ble_eq_true rfl) rfl (g_aload_n rfl ?_))
  refine g_v1v (Nat.le_of_ble_eq_true rfl) (mz_at hS (Nat.le_of_ble_eq_true rfl) mzcS_232) (fun _ hq => cs_459 (Nat.le_trans (Nat.le_of_ble_eq_true rfl) hd) (hS.le (Nat.le_of_ble_eq_true rfl)) (hR.le (Nat.le_of_ble_eq_true rfl))  ((cf_548_0 s1 N).2) trivial hq) (g_iload rfl ?_)
  refine g_iceq (tg := 2066) rfl ms_622_2066 hC (fun h3 hC => ?_) (fun h3 hC => ?_)
  · have hp := hp.1 h3
    refine g_iload rfl ?_
    refine g_ifne (tg := 2090) rfl ms_622_2090 hC (fun h4 hC => ?_) (fun h4 hC => ?_)
    · have hp := hp.1 h4
      refine g_aload_n rfl (g_iconst mzi_0 (g_lald (mz_at hS (Nat.le_of_ble_eq_true rfl) mzcS_342) (mz_ibd (by decide)) (g_iload rfl ?_)))
      refine g_zeq (tg := 2083) rfl ms_622_2083 hC (fun h5 hC => ?_) (fun h5 hC => ?_)
      · have hp := hp.1 h5
        refine g_lconst mzl_1 (g_goto (tg := 2084) rfl ms_622_2084 ?_)
        refine g_weak ?_ (g_cl (cg_622_2084 hd hS hR L xs (mz_gL ((cf_548_0 s1 N).2) 342 0) 1 v4 ((cf_548_0 s1 N).2) b t hr hc1 hx1 hp hC))
        exact ⟨rfl, rfl, rfl, rfl, rfl, trivial⟩
      · have hp := hp.2 h5
        refine g_lconst mzl_0 ?_
        refine g_weak ?_ (g_cl (cg_622_2084 hd hS hR L xs (mz_gL ((cf_548_0 s1 N).2) 342 0) 0 v4 ((cf_548_0 s1 N).2) b t hr hc1 hx1 hp hC))
        exact ⟨rfl, rfl, rfl, rfl, rfl, trivial⟩
    · have hp := hp.2 h4
      refine g_weak ?_ (g_cl (cg_622_2090 hd hS hR L xs v4 ((cf_548_0 s1 N).2) b t hr hc1 hx1 hp hC))
      exact ⟨rfl, rfl, rfl, rfl, rfl, trivial⟩
  · have hp := hp.2 h3
    refine g_iconst mzi_0 ?_
    exact g_zret (z := false) rfl (hr _ _ _ _ (hx1 _ hC))
theorem cg_622_2029 (hd : 12 ≤ d) (hS : mz_extR S 343) (hR : mz_rok R 343) (L : Nat) (xs : Nat → Int32) (s1 : Bool) (v4 : Int32) (N : mz_N) (b : Bool) (t : Nat) {C0 : (Bool × mz_N × Bool × Nat) → Prop} (hr : ∀ (w : Bool) (N2 : mz_N) (b2 : Bool) (t2 : Nat), C0 (w, N2, b2, t2) → Q (.inl (some (.int (mz_b01 w)))) (mz_k S R N2 b2 t2)) {C1 : ((Int32 × mz_N × Bool × Nat) ⊕ (Bool × mz_N × Bool × Nat)) → Prop} (hc1 : ∀ s2, C1 (.inl s2) → mz_G (d, mz_X0 L xs, some .boolean, [], mk_622, 8, Q) 35 mt_622_35 [(0, .ref 1002), (1, .ref 0), (2, .ref 232), (3, .ref 342), (4, .int s2.1)] [] false (mz_k S R s2.2.1 s2.2.2.1 s2.2.2.2)) (hx1 : ∀ z, C1 (.inr z) → C0 z) (hp : cp_622_2029 L xs s1 v4 N b t) (hC : C1 (cf_622_2029 L xs s1 v4 N b t)) : mz_G (d, mz_X0 L xs, some .boolean, [], mk_622, 8, Q) 2029 mt_622_2029 [(0, .ref 1002), (1, .ref 0), (2, .ref 232), (3, .ref 342), (4, .int v4)] [.int (mz_b01 s1), .ref 0] false (mz_k S R N b t) := by
  unfold cf_622_2029 at hC
  unfold cp_622_2029 at hp
  refine g_aload_n rfl ?_
  obtain ⟨h1, hp⟩ := hp
  refine g_s3v (Nat.le_of_ble_eq_true rfl) (fun _ hq => cs_278 (Nat.le_trans (Nat.le_of_ble_eq_true rfl) hd) (hS.le (Nat.le_of_ble_eq_true rfl)) (hR.le (Nat.le_of_ble_eq_true rfl))  s1 N t h1 hq) (g_istore (Nat.le_of_ble_eq_true rfl) rfl (g_aload_n rfl (g_aload_n rfl (g_iload rfl (g_iconst mzi_1 (g_iadd ?_))))))
  obtain ⟨h2, hp⟩ := hp
  refine g_iald1002 h2 ?_
  refine g_ifeq (tg := 2049) rfl ms_622_2049 hC (fun h3 hC => ?_) (fun h3 hC => ?_)
  · have hp := hp.1 h3
    refine g_iconst mzi_0 ?_
    refine g_weak ?_ (g_cl (cg_622_2050 hd hS hR L xs false v4 ((cf_278_0 s1 N t).1) ((cf_278_0 s1 N t).2.1) b ((cf_278_0 s1 N t).2.2) hr hc1 hx1 hp hC))
    exact ⟨rfl, rfl, rfl, rfl, rfl, rfl, trivial⟩
  · have hp := hp.2 h3
    refine g_iconst mzi_1 (g_goto (tg := 2050) rfl ms_622_2050 ?_)
    refine g_weak ?_ (g_cl (cg_622_2050 hd hS hR L xs true v4 ((cf_278_0 s1 N t).1) ((cf_278_0 s1 N t).2.1) b ((cf_278_0 s1 N t).2.2) hr hc1 hx1 hp hC))
    exact ⟨rfl, rfl, rfl, rfl, rfl, rfl, trivial⟩
theorem cg_622_3617 (hd : 12 ≤ d) (hS : mz_extR S 343) (hR : mz_rok R 343) (L : Nat) (xs : Nat → Int32) (v4 : Int32) (N : mz_N) (b : Bool) (t : Nat) {C0 : (Bool × mz_N × Bool × Nat) → Prop} (hr : ∀ (w : Bool) (N2 : mz_N) (b2 : Bool) (t2 : Nat), C0 (w, N2, b2, t2) → Q (.inl (some (.int (mz_b01 w)))) (mz_k S R N2 b2 t2)) {C1 : ((Int32 × mz_N × Bool × Nat) ⊕ (Bool × mz_N × Bool × Nat)) → Prop} (hc1 : ∀ s2, C1 (.inl s2) → mz_G (d, mz_X0 L xs, some .boolean, [], mk_622, 8, Q) 35 mt_622_35 [(0, .ref 1002), (1, .ref 0), (2, .ref 232), (3, .ref 342), (4, .int s2.1)] [] false (mz_k S R s2.2.1 s2.2.2.1 s2.2.2.2)) (hx1 : ∀ z, C1 (.inr z) → C0 z) (hp : cp_622_3617 L xs v4 N b t) (hC : C1 (cf_622_3617 L xs v4 N b t)) : mz_G (d, mz_X0 L xs, some .boolean, [], mk_622, 8, Q) 3617 mt_622_3617 [(0, .ref 1002), (1, .ref 0), (2, .ref 232), (3, .ref 342), (4, .int v4)] [] false (mz_k S R N b t) := by
  unfold cf_622_3617 at hC
  unfold cp_622_3617 at hp
  refine g_goto (tg := 4500) rfl ms_622_4500 ?_
  refine g_weak ?_ (g_cl (cg_622_4500 hd hS hR L xs v4 N b t hr hc1 hx1 hp hC))
  exact ⟨rfl, rfl, rfl, rfl, rfl, trivial⟩
theorem cg_622_3571 (hd : 12 ≤ d) (hS : mz_extR S 343) (hR : mz_rok R 343) (L : Nat) (xs : Nat → Int32) (v4 : Int32) (v5 : Int32) (N : mz_N) (b : Bool) (t : Nat) {C0 : (Bool × mz_N × Bool × Nat) → Prop} (hr : ∀ (w : Bool) (N2 : mz_N) (b2 : Bool) (t2 : Nat), C0 (w, N2, b2, t2) → Q (.inl (some (.int (mz_b01 w)))) (mz_k S R N2 b2 t2)) {C1 : ((Int32 × mz_N × Bool × Nat) ⊕ (Bool × mz_N × Bool × Nat)) → Prop} (hc1 : ∀ s2, C1 (.inl s2) → mz_G (d, mz_X0 L xs, some .boolean, [], mk_622, 8, Q) 35 mt_622_35 [(0, .ref 1002), (1, .ref 0), (2, .ref 232), (3, .ref 342), (4, .int s2.1)] [] false (mz_k S R s2.2.1 s2.2.2.1 s2.2.2.2)) (hx1 : ∀ z, C1 (.inr z) → C0 z) (hp : cp_622_3571 L xs v4 v5 N b t) (hC : C1 (cf_622_3571 L xs v4 v5 N b t)) : mz_G (d, mz_X0 L xs, some .boolean, [], mk_622, 8, Q) 3571 mt_622_3571 [(0, .ref 1002), (1, .ref 0), (2, .ref 232), (3, .ref 342), (4, .int v4), (5, .int v5)] [] false (mz_k S R N b t) := by
  unfold cf_622_3571 at hC
  unfold cp_622_3571 at hp
  refine g_aload_n rfl (g_aload_n rfl (g_iload rfl (g_iconst mzi_1 (g_iadd ?_))))
  obtain ⟨h1, hp⟩ := hp
  refine g_iald1002 h1 (g_aload_n rfl (g_iload rfl (g_iconst mzi_2 (g_iadd ?_))))
  obtain ⟨h2, hp⟩ := hp
  refine g_iald1002 h2 ?_
  obtain ⟨h3, hp⟩ := hp
  refine g_v3v (Nat.le_of_ble_eq_true rfl) (mz_at hS (Nat.le_of_ble_eq_true rfl) mzcS_232) (fun _ hq => cs_572 (Nat.le_trans (Nat.le_of_ble_eq_true rfl) hd) (hS.le (Nat.le_of_ble_eq_true rfl)) (hR.le (Nat.le_of_ble_eq_true rfl))  (xs (v4 + 1).toNatClampNeg) (xs (v4 + 2).toNatClampNeg) N h3 hq) (g_istore (Nat.le_of_ble_eq_true rfl) rfl (g_aload_n rfl ?_))
  refine g_v1v (Nat.le_of_ble_eq_true rfl) (mz_at hS (Nat.le_of_ble_eq_true rfl) mzcS_232) (fun _ hq => cs_459 (Nat.le_trans (Nat.le_of_ble_eq_true rfl) hd) (hS.le (Nat.le_of_ble_eq_true rfl)) (hR.le (Nat.le_of_ble_eq_true rfl))  ((cf_572_0 (xs (v4 + 1).toNatClampNeg) (xs (v4 + 2).toNatClampNeg) N).2) trivial hq) (g_iload rfl ?_)
  refine g_iceq (tg := 3600) rfl ms_622_3600 hC (fun h5 hC => ?_) (fun h5 hC => ?_)
  · have hp := hp.1 h5
    refine g_iload rfl ?_
    refine g_ifne (tg := 3617) rfl ms_622_3617 hC (fun h6 hC => ?_) (fun h6 hC => ?_)
    · have hp := hp.1 h6
      refine g_aload_n rfl (g_iconst mzi_0 (g_lald (mz_at hS (Nat.le_of_ble_eq_true rfl) mzcS_342) (mz_ibd (by decide)) (g_iload rfl (g_i2l (g_lcmp ?_)))))
      refine g_leq (tg := 3617) rfl ms_622_3617 hC (fun h7 hC => ?_) (fun h7 hC => ?_)
      · have hp := hp.1 h7
        refine g_weak ?_ (g_cl (cg_622_3617 hd hS hR L xs v4 ((cf_572_0 (xs (v4 + 1).toNatClampNeg) (xs (v4 + 2).toNatClampNeg) N).2) b t hr hc1 hx1 hp hC))
        exact ⟨rfl, rfl, rfl, rfl, rfl, trivial⟩
      · have hp := hp.2 h7
        refine g_iconst mzi_0 ?_
        exact g_zret (z := false) rfl (hr _ _ _ _ (hx1 _ hC))
    · have hp := hp.2 h6
      refine g_weak ?_ (g_cl (cg_622_3617 hd hS hR L xs v4 ((cf_572_0 (xs (v4 + 1).toNatClampNeg) (xs (v4 + 2).toNatClampNeg) N).2) b t hr hc1 hx1 hp hC))
      exact ⟨rfl, rfl, rfl, rfl, rfl, trivial⟩
  · have hp := hp.2 h5
    refine g_iconst mzi_0 ?_
    exact g_zret (z := false) rfl (hr _ _ _ _ (hx1 _ hC))
theorem cg_622_4341 (hd : 12 ≤ d) (hS : mz_extR S 343) (hR : mz_rok R 343) (L : Nat) (xs : Nat → Int32) (v4 : Int32) (N : mz_N) (b : Bool) (t : Nat) {C0 : (Bool × mz_N × Bool × Nat) → Prop} (hr : ∀ (w : Bool) (N2 : mz_N) (b2 : Bool) (t2 : Nat), C0 (w, N2, b2, t2) → Q (.inl (some (.int (mz_b01 w)))) (mz_k S R N2 b2 t2)) {C1 : ((Int32 × mz_N × Bool × Nat) ⊕ (Bool × mz_N × Bool × Nat)) → Prop} (hc1 : ∀ s2, C1 (.inl s2) → mz_G (d, mz_X0 L xs, some .boolean, [], mk_622, 8, Q) 35 mt_622_35 [(0, .ref 1002), (1, .ref 0), (2, .ref 232), (3, .ref 342), (4, .int s2.1)] [] false (mz_k S R s2.2.1 s2.2.2.1 s2.2.2.2)) (hx1 : ∀ z, C1 (.inr z) → C0 z) (hp : cp_622_4341 L xs v4 N b t) (hC : C1 (cf_622_4341 L xs v4 N b t)) : mz_G (d, mz_X0 L xs, some .boolean, [], mk_622, 8, Q) 4341 mt_622_4341 [(0, .ref 1002), (1, .ref 0), (2, .ref 232), (3, .ref 342), (4, .int v4)] [] false (mz_k S R N b t) := by
  unfold cf_622_4341 at hC
  unfold cp_622_4341 at hp
  refine g_goto (tg := 4500) rfl ms_622_4500 ?_
  refine g_weak ?_ (g_cl (cg_622_4500 hd hS hR L xs v4 N b t hr hc1 hx1 hp hC))
  exact ⟨rfl, rfl, rfl, rfl, rfl, trivial⟩
theorem cg_622_4141 (hd : 12 ≤ d) (hS : mz_extR S 343) (hR : mz_rok R 343) (L : Nat) (xs : Nat → Int32) (v4 : Int32) (N : mz_N) (b : Bool) (t : Nat) {C0 : (Bool × mz_N × Bool × Nat) → Prop} (hr : ∀ (w : Bool) (N2 : mz_N) (b2 : Bool) (t2 : Nat), C0 (w, N2, b2, t2) → Q (.inl (some (.int (mz_b01 w)))) (mz_k S R N2 b2 t2)) {C1 : ((Int32 × mz_N × Bool × Nat) ⊕ (Bool × mz_N × Bool × Nat)) → Prop} (hc1 : ∀ s2, C1 (.inl s2) → mz_G (d, mz_X0 L xs, some .boolean, [], mk_622, 8, Q) 35 mt_622_35 [(0, .ref 1002), (1, .ref 0), (2, .ref 232), (3, .ref 342), (4, .int s2.1)] [] false (mz_k S R s2.2.1 s2.2.2.1 s2.2.2.2)) (hx1 : ∀ z, C1 (.inr z) → C0 z) (hp : cp_622_4141 L xs v4 N b t) (hC : C1 (cf_622_4141 L xs v4 N b t)) : mz_G (d, mz_X0 L xs, some .boolean, [], mk_622, 8, Q) 4141 mt_622_4141 [(0, .ref 1002), (1, .ref 0), (2, .ref 232), (3, .ref 342), (4, .int v4)] [] false (mz_k S R N b t) := by
  unfold cf_622_4141 at hC
  unfold cp_622_4141 at hp
  refine g_goto (tg := 4500) rfl ms_622_4500 ?_
  refine g_weak ?_ (g_cl (cg_622_4500 hd hS hR L xs v4 N b t hr hc1 hx1 hp hC))
  exact ⟨rfl, rfl, rfl, rfl, rfl, trivial⟩
theorem cg_622_4113 (hd : 12 ≤ d) (hS : mz_extR S 343) (hR : mz_rok R 343) (L : Nat) (xs : Nat → Int32) (v4 : Int32) (v5 : Int32) (v6 : Int32) (N : mz_N) (b : Bool) (t : Nat) {C0 : (Bool × mz_N × Bool × Nat) → Prop} (hr : ∀ (w : Bool) (N2 : mz_N) (b2 : Bool) (t2 : Nat), C0 (w, N2, b2, t2) → Q (.inl (some (.int (mz_b01 w)))) (mz_k S R N2 b2 t2)) {C1 : ((Int32 × mz_N × Bool × Nat) ⊕ (Bool × mz_N × Bool × Nat)) → Prop} (hc1 : ∀ s2, C1 (.inl s2) → mz_G (d, mz_X0 L xs, some .boolean, [], mk_622, 8, Q) 35 mt_622_35 [(0, .ref 1002), (1, .ref 0), (2, .ref 232), (3, .ref 342), (4, .int s2.1)] [] false (mz_k S R s2.2.1 s2.2.2.1 s2.2.2.2)) (hx1 : ∀ z, C1 (.inr z) → C0 z) (hp : cp_622_4113 L xs v4 v5 v6 N b t) (hC : C1 (cf_622_4113 L xs v4 v5 v6 N b t)) : mz_G (d, mz_X0 L xs, some .boolean, [], mk_622, 8, Q) 4113 mt_622_4113 [(0, .ref 1002), (1, .ref 0), (2, .ref 232), (3, .ref 342), (4, .int v4), (5, .int v5), (6, .int v6)] [] false (mz_k S R N b t) := by
  unfold cf_622_4113 at hC
  unfold cp_622_4113 at hp
  refine g_aload_n rfl ?_
  refine g_v1v (Nat.le_of_ble_eq_true rfl) (mz_at hS (Nat.le_of_ble_eq_true rfl) mzcS_232) (fun _ hq => cs_459 (Nat.le_trans (Nat.le_of_ble_eq_true rfl) hd) (hS.le (Nat.le_of_ble_eq_true rfl)) (hR.le (Nat.le_of_ble_eq_true rfl))  N trivial hq) (g_iload rfl ?_)
  refine g_iceq (tg := 4124) rfl ms_622_4124 hC (fun h2 hC => ?_) (fun h2 hC => ?_)
  · have hp := hp.1 h2
    refine g_iload rfl ?_
    refine g_ifne (tg := 4141) rfl ms_622_4141 hC (fun h3 hC => ?_) (fun h3 hC => ?_)
    · have hp := hp.1 h3
      refine g_aload_n rfl (g_iconst mzi_0 (g_lald (mz_at hS (Nat.le_of_ble_eq_true rfl) mzcS_342) (mz_ibd (by decide)) (g_iload rfl (g_i2l (g_lcmp ?_)))))
      refine g_leq (tg := 4141) rfl ms_622_4141 hC (fun h4 hC => ?_) (fun h4 hC => ?_)
      · have hp := hp.1 h4
        refine g_weak ?_ (g_cl (cg_622_4141 hd hS hR L xs v4 N b t hr hc1 hx1 hp hC))
        exact ⟨rfl, rfl, rfl, rfl, rfl, trivial⟩
      · have hp := hp.2 h4
        refine g_iconst mzi_0 ?_
        exact g_zret (z := false) rfl (hr _ _ _ _ (hx1 _ hC))
    · have hp := hp.2 h3
      refine g_weak ?_ (g_cl (cg_622_4141 hd hS hR L xs v4 N b t hr hc1 hx1 hp hC))
      exact ⟨rfl, rfl, rfl, rfl, rfl, trivial⟩
  · have hp := hp.2 h2
    refine g_iconst mzi_0 ?_
    exact g_zret (z := false) rfl (hr _ _ _ _ (hx1 _ hC))
theorem cg_622_4089 (hd : 12 ≤ d) (hS : mz_extR S 343) (hR : mz_rok R 343) (L : Nat) (xs : Nat → Int32) (v4 : Int32) (v5 : Int32) (N : mz_N) (b : Bool) (t : Nat) {C0 : (Bool × mz_N × Bool × Nat) → Prop} (hr : ∀ (w : Bool) (N2 : mz_N) (b2 : Bool) (t2 : Nat), C0 (w, N2, b2, t2) → Q (.inl (some (.int (mz_b01 w)))) (mz_k S R N2 b2 t2)) {C1 : ((Int32 × mz_N × Bool × Nat) ⊕ (Bool × mz_N × Bool × Nat)) → Prop} (hc1 : ∀ s2, C1 (.inl s2) → mz_G (d, mz_X0 L xs, some .boolean, [], mk_622, 8, Q) 35 mt_622_35 [(0, .ref 1002), (1, .ref 0), (2, .ref 232), (3, .ref 342), (4, .int s2.1)] [] false (mz_k S R s2.2.1 s2.2.2.1 s2.2.2.2)) (hx1 : ∀ z, C1 (.inr z) → C0 z) (hp : cp_622_4089 L xs v4 v5 N b t) (hC : C1 (cf_622_4089 L xs v4 v5 N b t)) : mz_G (d, mz_X0 L xs, some .boolean, [], mk_622, 8, Q) 4089 mt_622_4089 [(0, .ref 1002), (1, .ref 0), (2, .ref 232), (3, .ref 342), (4, .int v4), (5, .int v5)] [] false (mz_k S R N b t) := by
  unfold cf_622_4089 at hC
  unfold cp_622_4089 at hp
  refine g_aload_n rfl (g_aload_n rfl (g_iload rfl (g_iconst mzi_1 (g_iadd ?_))))
  obtain ⟨h1, hp⟩ := hp
  refine g_iald1002 h1 (g_aload_n rfl (g_iload rfl (g_iconst mzi_2 (g_iadd ?_))))
  obtain ⟨h2, hp⟩ := hp
  refine g_iald1002 h2 (g_aload_n rfl (g_iload rfl (g_iconst mzi_3 (g_iadd ?_))))
  obtain ⟨h3, hp⟩ := hp
  refine g_iald1002 h3 ?_
  obtain ⟨h4, hp⟩ := hp
  refine g_v4v (Nat.le_of_ble_eq_true rfl) (mz_at hS (Nat.le_of_ble_eq_true rfl) mzcS_232) (fun _ hq => cs_600 (Nat.le_trans (Nat.le_of_ble_eq_true rfl) hd) (hS.le (Nat.le_of_ble_eq_true rfl)) (hR.le (Nat.le_of_ble_eq_true rfl))  (xs (v4 + 1).toNatClampNeg) (xs (v4 + 2).toNatClampNeg) (xs (v4 + 3).toNatClampNeg) N h4 hq) (g_istore (Nat.le_of_ble_eq_true rfl) rfl ?_)
  refine g_weak ?_ (g_cl (cg_622_4113 hd hS hR L xs v4 v5 ((cf_600_0 (xs (v4 + 1).toNatClampNeg) (xs (v4 + 2).toNatClampNeg) (xs (v4 + 3).toNatClampNeg) N).1) ((cf_600_0 (xs (v4 + 1).toNatClampNeg) (xs (v4 + 2).toNatClampNeg) (xs (v4 + 3).toNatClampNeg) N).2) b t hr hc1 hx1 hp hC))
  exact ⟨rfl, rfl, rfl, rfl, rfl, rfl, rfl, trivial⟩
theorem cb_622_35 (hd : 12 ≤ d) (hS : mz_extR S 343) (hR : mz_rok R 343) (L : Nat) (xs : Nat → Int32)  (s : Int32 × mz_N × Bool × Nat) {C0 : (Bool × mz_N × Bool × Nat) → Prop} (hr : ∀ (w : Bool) (N2 : mz_N) (b2 : Bool) (t2 : Nat), C0 (w, N2, b2, t2) → Q (.inl (some (.int (mz_b01 w)))) (mz_k S R N2 b2 t2)) {C1 : ((Int32 × mz_N × Bool × Nat) ⊕ (Bool × mz_N × Bool × Nat)) → Prop} (hc1 : ∀ s2, C1 (.inl s2) → mz_G (d, mz_X0 L xs, some .boolean, [], mk_622, 8, Q) 35 mt_622_35 [(0, .ref 1002), (1, .ref 0), (2, .ref 232), (3, .ref 342), (4, .int s2.1)] [] false (mz_k S R s2.2.1 s2.2.2.1 s2.2.2.2)) (hx1 : ∀ z, C1 (.inr z) → C0 z) (hp : cd_622_35 L xs s) (hC : C1 (cq_622_35 L xs s)) : mz_G (d, mz_X0 L xs, some .boolean, [], mk_622, 8, Q) 35 mt_622_35 [(0, .ref 1002), (1, .ref 0), (2, .ref 232), (3, .ref 342), (4, .int s.1)] [] false (mz_k S R s.2.1 s.2.2.1 s.2.2.2) := by
  unfold cq_622_35 at hC
  unfold cd_622_35 at hp
  refine g_iload rfl (g_aload_n rfl (g_len1002 (g_bipush mzb_7 (g_isub ?_))))
  refine g_icgt (tg := 4506) rfl ms_622_4506 hC (fun h1 hC => ?_) (fun h1 hC => ?_)
  · have hp := hp.1 h1
    refine g_iconst mzi_1 ?_
    exact g_zret (z := true) rfl (hr _ _ _ _ (hx1 _ hC))
  · have hp := hp.2 h1
    refine g_aload_n rfl (g_iload rfl ?_)
    obtain ⟨h2, hp⟩ := hp
    refine g_iald1002 h2 (g_bipush mzb_127 (g_iand ?_))
    refine mz_cs hC (fun h3 hC => ?_) (fun h3 hC => ?_)
    · have hp := hp.1 h3
      refine g_brn (tg := 332) (by rw [h3]; rfl) (by decide) rfl ?_
      refine g_aload_n rfl (g_aload_n rfl (g_iload rfl (g_iconst mzi_1 (g_iadd ?_))))
      obtain ⟨h327, hp⟩ := hp
      refine g_iald1002 h327 (g_aload_n rfl ?_)
      obtain ⟨h328, hp⟩ := hp
      refine g_s3v (Nat.le_of_ble_eq_true rfl) (fun _ hq => cs_102 (Nat.le_trans (Nat.le_of_ble_eq_true rfl) hd) (hS.le (Nat.le_of_ble_eq_true rfl)) (hR.le (Nat.le_of_ble_eq_true rfl))  (xs (s.1 + 1).toNatClampNeg) s.2.1 s.2.2.2 h328 hq) (g_istore (Nat.le_of_ble_eq_true rfl) rfl (g_aload_n rfl (g_aload_n rfl (g_iload rfl (g_iconst mzi_1 (g_iadd ?_))))))
      obtain ⟨h329, hp⟩ := hp
      refine g_iald1002 h329 ?_
      obtain ⟨h330, hp⟩ := hp
      refine g_v2v (Nat.le_of_ble_eq_true rfl) (mz_at hS (Nat.le_of_ble_eq_true rfl) mzcS_232) (fun _ hq => cs_460 (Nat.le_trans (Nat.le_of_ble_eq_true rfl) hd) (hS.le (Nat.le_of_ble_eq_true rfl)) (hR.le (Nat.le_of_ble_eq_true rfl))  (xs (s.1 + 1).toNatClampNeg) ((cf_102_0 (xs (s.1 + 1).toNatClampNeg) s.2.1 s.2.2.2).2.1) h330 hq) (g_istore (Nat.le_of_ble_eq_true rfl) rfl ?_)
      refine g_weak ?_ (g_cl (cg_622_357 hd hS hR L xs s.1 ((cf_102_0 (xs (s.1 + 1).toNatClampNeg) s.2.1 s.2.2.2).1) ((cf_460_0 (xs (s.1 + 1).toNatClampNeg) ((cf_102_0 (xs (s.1 + 1).toNatClampNeg) s.2.1 s.2.2.2).2.1)).1) ((cf_460_0 (xs (s.1 + 1).toNatClampNeg) ((cf_102_0 (xs (s.1 + 1).toNatClampNeg) s.2.1 s.2.2.2).2.1)).2) s.2.2.1 ((cf_102_0 (xs (s.1 + 1).toNatClampNeg) s.2.1 s.2.2.2).2.2) hr hc1 hx1 hp hC))
      exact ⟨rfl, rfl, rfl, rfl, rfl, rfl, rfl, trivial⟩
    · have hp := hp.2 h3
      refine mz_cs hC (fun h4 hC => ?_) (fun h4 hC => ?_)
      · have hp := hp.1 h4
        refine g_br (tg := 388) (by rw [h4]; rfl) ms_622_388 ?_
        refine g_aload_n rfl (g_aload_n rfl (g_iload rfl (g_iconst mzi_1 (g_iadd ?_))))
        obtain ⟨h320, hp⟩ := hp
        refine g_iald1002 h320 (g_aload_n rfl (g_iload rfl (g_iconst mzi_2 (g_iadd ?_))))
        obtain ⟨h321, hp⟩ := hp
        refine g_iald1002 h321 (g_aload_n rfl (g_iload rfl (g_iconst mzi_3 (g_iadd ?_))))
        obtain ⟨h322, hp⟩ := hp
        refine g_iald1002 h322 (g_aload_n rfl (g_iload rfl (g_iconst mzi_4 (g_iadd ?_))))
        obtain ⟨h323, hp⟩ := hp
        refine g_iald1002 h323 (g_aload_n rfl (g_iload rfl (g_iconst mzi_5 (g_iadd ?_))))
        obtain ⟨h324, hp⟩ := hp
        refine g_iald1002 h324 (g_aload_n rfl (g_iload rfl (g_bipush mzb_6 (g_iadd ?_))))
        obtain ⟨h325, hp⟩ := hp
        refine g_iald1002 h325 (g_aload_n rfl ?_)
        obtain ⟨h326, hp⟩ := hp
        refine g_s8v (Nat.le_of_ble_eq_true rfl) (fun _ hq => cs_106 (Nat.le_trans (Nat.le_of_ble_eq_true rfl) hd) (hS.le (Nat.le_of_ble_eq_true rfl)) (hR.le (Nat.le_of_ble_eq_true rfl))  (xs (s.1 + 1).toNatClampNeg) (xs (s.1 + 2).toNatClampNeg) (xs (s.1 + 3).toNatClampNeg) (xs (s.1 + 4).toNatClampNeg) (xs (s.1 + 5).toNatClampNeg) (xs (s.1 + 6).toNatClampNeg) s.2.1 s.2.2.2 h326 hq) (g_istore (Nat.le_of_ble_eq_true rfl) rfl ?_)
        refine g_weak ?_ (g_cl (cg_622_432 hd hS hR L xs s.1 ((cf_106_0 (xs (s.1 + 1).toNatClampNeg) (xs (s.1 + 2).toNatClampNeg) (xs (s.1 + 3).toNatClampNeg) (xs (s.1 + 4).toNatClampNeg) (xs (s.1 + 5).toNatClampNeg) (xs (s.1 + 6).toNatClampNeg) s.2.1 s.2.2.2).1) ((cf_106_0 (xs (s.1 + 1).toNatClampNeg) (xs (s.1 + 2).toNatClampNeg) (xs (s.1 + 3).toNatClampNeg) (xs (s.1 + 4).toNatClampNeg) (xs (s.1 + 5).toNatClampNeg) (xs (s.1 + 6).toNatClampNeg) s.2.1 s.2.2.2).2.1) s.2.2.1 ((cf_106_0 (xs (s.1 + 1).toNatClampNeg) (xs (s.1 + 2).toNatClampNeg) (xs (s.1 + 3).toNatClampNeg) (xs (s.1 + 4).toNatClampNeg) (xs (s.1 + 5).toNatClampNeg) (xs (s.1 + 6).toNatClampNeg) s.2.1 s.2.2.2).2.2) hr hc1 hx1 hp hC))
        exact ⟨rfl, rfl, rfl, rfl, rfl, rfl, trivial⟩
      · have hp := hp.2 h4
        refine mz_cs hC (fun h5 hC => ?_) (fun h5 hC => ?_)
        · have hp := hp.1 h5
          refine g_br (tg := 506) (by rw [h5]; rfl) ms_622_506 ?_
          refine g_aload_n rfl (g_aload_n rfl (g_iload rfl (g_iconst mzi_1 (g_iadd ?_))))
          obtain ⟨h316, hp⟩ := hp
          refine g_iald1002 h316 (g_aload_n rfl ?_)
          obtain ⟨h317, hp⟩ := hp
          refine g_s3v (Nat.le_of_ble_eq_true rfl) (fun _ hq => cs_110 (Nat.le_trans (Nat.le_of_ble_eq_true rfl) hd) (hS.le (Nat.le_of_ble_eq_true rfl)) (hR.le (Nat.le_of_ble_eq_true rfl))  (xs (s.1 + 1).toNatClampNeg) s.2.1 s.2.2.1 s.2.2.2 h317 hq) (g_istore (Nat.le_of_ble_eq_true rfl) rfl (g_aload_n rfl (g_aload_n rfl (g_iload rfl (g_iconst mzi_1 (g_iadd ?_))))))
          obtain ⟨h318, hp⟩ := hp
          refine g_iald1002 h318 ?_
          obtain ⟨h319, hp⟩ := hp
          refine g_v2v (Nat.le_of_ble_eq_true rfl) (mz_at hS (Nat.le_of_ble_eq_true rfl) mzcS_232) (fun _ hq => cs_467 (Nat.le_trans (Nat.le_of_ble_eq_true rfl) hd) (hS.le (Nat.le_of_ble_eq_true rfl)) (hR.le (Nat.le_of_ble_eq_true rfl))  (xs (s.1 + 1).toNatClampNeg) ((cf_110_0 (xs (s.1 + 1).toNatClampNeg) s.2.1 s.2.2.1 s.2.2.2).2.1) h319 hq) (g_istore (Nat.le_of_ble_eq_true rfl) rfl ?_)
          refine g_weak ?_ (g_cl (cg_622_531 hd hS hR L xs s.1 ((cf_110_0 (xs (s.1 + 1).toNatClampNeg) s.2.1 s.2.2.1 s.2.2.2).1) ((cf_467_0 (xs (s.1 + 1).toNatClampNeg) ((cf_110_0 (xs (s.1 + 1).toNatClampNeg) s.2.1 s.2.2.1 s.2.2.2).2.1)).1) ((cf_467_0 (xs (s.1 + 1).toNatClampNeg) ((cf_110_0 (xs (s.1 + 1).toNatClampNeg) s.2.1 s.2.2.1 s.2.2.2).2.1)).2) s.2.2.1 ((cf_110_0 (xs (s.1 + 1).toNatClampNeg) s.2.1 s.2.2.1 s.2.2.2).2.2) hr hc1 hx1 hp hC))
          exact ⟨rfl, rfl, rfl, rfl, rfl, rfl, rfl, trivial⟩
        · have hp := hp.2 h5
          refine mz_cs hC (fun h6 hC => ?_) (fun h6 hC => ?_)
          · have hp := hp.1 h6
            refine g_br (tg := 562) (by rw [h6]; rfl) ms_622_562 ?_
            refine g_aload_n rfl (g_aload_n rfl (g_iload rfl (g_iconst mzi_1 (g_iadd ?_))))
            obtain ⟨h313, hp⟩ := hp
            refine g_iald1002 h313 (g_aload_n rfl (g_iload rfl (g_iconst mzi_2 (g_iadd ?_))))
            obtain ⟨h314, hp⟩ := hp
            refine g_iald1002 h314 (g_aload_n rfl ?_)
            obtain ⟨h315, hp⟩ := hp
            refine g_s4v (Nat.le_of_ble_eq_true rfl) (fun _ hq => cs_140 (Nat.le_trans (Nat.le_of_ble_eq_true rfl) hd) (hS.le (Nat.le_of_ble_eq_true rfl)) (hR.le (Nat.le_of_ble_eq_true rfl))  (xs (s.1 + 1).toNatClampNeg) (xs (s.1 + 2).toNatClampNeg) s.2.1 s.2.2.2 h315 hq) (g_istore (Nat.le_of_ble_eq_true rfl) rfl ?_)
            refine g_weak ?_ (g_cl (cg_622_581 hd hS hR L xs s.1 ((cf_140_0 (xs (s.1 + 1).toNatClampNeg) (xs (s.1 + 2).toNatClampNeg) s.2.1 s.2.2.2).1) ((cf_140_0 (xs (s.1 + 1).toNatClampNeg) (xs (s.1 + 2).toNatClampNeg) s.2.1 s.2.2.2).2.1) s.2.2.1 ((cf_140_0 (xs (s.1 + 1).toNatClampNeg) (xs (s.1 + 2).toNatClampNeg) s.2.1 s.2.2.2).2.2) hr hc1 hx1 hp hC))
            exact ⟨rfl, rfl, rfl, rfl, rfl, rfl, trivial⟩
          · have hp := hp.2 h6
            refine mz_cs hC (fun h7 hC => ?_) (fun h7 hC => ?_)
            · have hp := hp.1 h7
              refine g_br (tg := 630) (by rw [h7]; rfl) ms_622_630 ?_
              refine g_aload_n rfl (g_aload_n rfl (g_iload rfl (g_iconst mzi_1 (g_iadd ?_))))
              obtain ⟨h309, hp⟩ := hp
              refine g_iald1002 h309 (g_aload_n rfl (g_iload rfl (g_iconst mzi_2 (g_iadd ?_))))
              obtain ⟨h310, hp⟩ := hp
              refine g_iald1002 h310 (g_aload_n rfl (g_iload rfl (g_iconst mzi_3 (g_iadd ?_))))
              obtain ⟨h311, hp⟩ := hp
              refine g_iald1002 h311 ?_
              refine g_ifeq (tg := 656) rfl ms_622_656 hC (fun h312 hC => ?_) (fun h312 hC => ?_)
              · have hp := hp.1 h312
                refine g_iconst mzi_0 ?_
                refine g_weak ?_ (g_cl (cg_622_657 hd hS hR L xs (xs (s.1 + 1).toNatClampNeg) (xs (s.1 + 2).toNatClampNeg) false s.1 s.2.1 s.2.2.1 s.2.2.2 hr hc1 hx1 hp hC))
                exact ⟨rfl, rfl, rfl, rfl, rfl, trivial⟩
              · have hp := hp.2 h312
                refine g_iconst mzi_1 (g_goto (tg := 657) rfl ms_622_657 ?_)
                refine g_weak ?_ (g_cl (cg_622_657 hd hS hR L xs (xs (s.1 + 1).toNatClampNeg) (xs (s.1 + 2).toNatClampNeg) true s.1 s.2.1 s.2.2.1 s.2.2.2 hr hc1 hx1 hp hC))
                exact ⟨rfl, rfl, rfl, rfl, rfl, trivial⟩
            · have hp := hp.2 h7
              refine mz_cs hC (fun h8 hC => ?_) (fun h8 hC => ?_)
              · have hp := hp.1 h8
                refine g_br (tg := 726) (by rw [h8]; rfl) ms_622_726 ?_
                refine g_aload_n rfl (g_aload_n rfl (g_iload rfl (g_iconst mzi_1 (g_iadd ?_))))
                obtain ⟨h306, hp⟩ := hp
                refine g_iald1002 h306 (g_aload_n rfl (g_iload rfl (g_iconst mzi_2 (g_iadd ?_))))
                obtain ⟨h307, hp⟩ := hp
                refine g_iald1002 h307 (g_aload_n rfl ?_)
                obtain ⟨h308, hp⟩ := hp
                refine g_s4v (Nat.le_of_ble_eq_true rfl) (fun _ hq => cs_147 (Nat.le_trans (Nat.le_of_ble_eq_true rfl) hd) (hS.le (Nat.le_of_ble_eq_true rfl)) (hR.le (Nat.le_of_ble_eq_true rfl))  (xs (s.1 + 1).toNatClampNeg) (xs (s.1 + 2).toNatClampNeg) s.2.1 s.2.2.2 h308 hq) (g_istore (Nat.le_of_ble_eq_true rfl) rfl ?_)
                refine g_weak ?_ (g_cl (cg_622_745 hd hS hR L xs s.1 ((cf_147_0 (xs (s.1 + 1).toNatClampNeg) (xs (s.1 + 2).toNatClampNeg) s.2.1 s.2.2.2).1) ((cf_147_0 (xs (s.1 + 1).toNatClampNeg) (xs (s.1 + 2).toNatClampNeg) s.2.1 s.2.2.2).2.1) s.2.2.1 ((cf_147_0 (xs (s.1 + 1).toNatClampNeg) (xs (s.1 + 2).toNatClampNeg) s.2.1 s.2.2.2).2.2) hr hc1 hx1 hp hC))
                exact ⟨rfl, rfl, rfl, rfl, rfl, rfl, trivial⟩
              · have hp := hp.2 h8
                refine mz_cs hC (fun h9 hC => ?_) (fun h9 hC => ?_)
                · have hp := hp.1 h9
                  refine g_br (tg := 794) (by rw [h9]; rfl) ms_622_794 ?_
                  refine g_aload_n rfl (g_aload_n rfl (g_iload rfl (g_iconst mzi_1 (g_iadd ?_))))
                  obtain ⟨h302, hp⟩ := hp
                  refine g_iald1002 h302 (g_aload_n rfl (g_iload rfl (g_iconst mzi_2 (g_iadd ?_))))
                  obtain ⟨h303, hp⟩ := hp
                  refine g_iald1002 h303 (g_aload_n rfl (g_iload rfl (g_iconst mzi_3 (g_iadd ?_))))
                  obtain ⟨h304, hp⟩ := hp
                  refine g_iald1002 h304 (g_aload_n rfl ?_)
                  obtain ⟨h305, hp⟩ := hp
                  refine g_s5v (Nat.le_of_ble_eq_true rfl) (fun _ hq => cs_149 (Nat.le_trans (Nat.le_of_ble_eq_true rfl) hd) (hS.le (Nat.le_of_ble_eq_true rfl)) (hR.le (Nat.le_of_ble_eq_true rfl))  (xs (s.1 + 1).toNatClampNeg) (xs (s.1 + 2).toNatClampNeg) (xs (s.1 + 3).toNatClampNeg) s.2.1 s.2.2.2 h305 hq) (g_istore (Nat.le_of_ble_eq_true rfl) rfl ?_)
                  refine g_weak ?_ (g_cl (cg_622_819 hd hS hR L xs s.1 ((cf_149_0 (xs (s.1 + 1).toNatClampNeg) (xs (s.1 + 2).toNatClampNeg) (xs (s.1 + 3).toNatClampNeg) s.2.1 s.2.2.2).1) ((cf_149_0 (xs (s.1 + 1).toNatClampNeg) (xs (s.1 + 2).toNatClampNeg) (xs (s.1 + 3).toNatClampNeg) s.2.1 s.2.2.2).2.1) s.2.2.1 ((cf_149_0 (xs (s.1 + 1).toNatClampNeg) (xs (s.1 + 2).toNatClampNeg) (xs (s.1 + 3).toNatClampNeg) s.2.1 s.2.2.2).2.2) hr hc1 hx1 hp hC))
                  exact ⟨rfl, rfl, rfl, rfl, rfl, rfl, trivial⟩
                · have hp := hp.2 h9
                  refine mz_cs hC (fun h10 hC => ?_) (fun h10 hC => ?_)
                  · have hp := hp.1 h10
                    refine g_br (tg := 874) (by rw [h10]; rfl) ms_622_874 ?_
                    refine g_aload_n rfl (g_aload_n rfl ?_)
                    obtain ⟨h296, hp⟩ := hp
                    refine g_s2v (Nat.le_of_ble_eq_true rfl) (fun _ hq => cs_151 (Nat.le_trans (Nat.le_of_ble_eq_true rfl) hd) (hS.le (Nat.le_of_ble_eq_true rfl)) (hR.le (Nat.le_of_ble_eq_true rfl))  s.2.1 s.2.2.2 h296 hq) (g_istore (Nat.le_of_ble_eq_true rfl) rfl (g_aload_n rfl ?_))
                    obtain ⟨h297, hp⟩ := hp
                    refine g_v1v (Nat.le_of_ble_eq_true rfl) (mz_at hS (Nat.le_of_ble_eq_true rfl) mzcS_232) (fun _ hq => cs_483 (Nat.le_trans (Nat.le_of_ble_eq_true rfl) hd) (hS.le (Nat.le_of_ble_eq_true rfl)) (hR.le (Nat.le_of_ble_eq_true rfl))  ((cf_151_0 s.2.1 s.2.2.2).2.1) h297 hq) (g_istore (Nat.le_of_ble_eq_true rfl) rfl (g_aload_n rfl ?_))
                    refine g_v1v (Nat.le_of_ble_eq_true rfl) (mz_at hS (Nat.le_of_ble_eq_true rfl) mzcS_232) (fun _ hq => cs_459 (Nat.le_trans (Nat.le_of_ble_eq_true rfl) hd) (hS.le (Nat.le_of_ble_eq_true rfl)) (hR.le (Nat.le_of_ble_eq_true rfl))  ((cf_483_0 ((cf_151_0 s.2.1 s.2.2.2).2.1)).2) trivial hq) (g_iload rfl ?_)
                    refine g_iceq (tg := 898) rfl ms_622_898 hC (fun h299 hC => ?_) (fun h299 hC => ?_)
                    · have hp := hp.1 h299
                      refine g_iload rfl ?_
                      refine g_ifne (tg := 915) rfl ms_622_915 hC (fun h300 hC => ?_) (fun h300 hC => ?_)
                      · have hp := hp.1 h300
                        refine g_aload_n rfl (g_iconst mzi_0 (g_lald (mz_at hS (Nat.le_of_ble_eq_true rfl) mzcS_342) (mz_ibd (by decide)) (g_iload rfl (g_i2l (g_lcmp ?_)))))
                        refine g_leq (tg := 915) rfl ms_622_915 hC (fun h301 hC => ?_) (fun h301 hC => ?_)
                        · have hp := hp.1 h301
                          refine g_weak ?_ (g_cl (cg_622_915 hd hS hR L xs s.1 ((cf_483_0 ((cf_151_0 s.2.1 s.2.2.2).2.1)).2) s.2.2.1 ((cf_151_0 s.2.1 s.2.2.2).2.2) hr hc1 hx1 hp hC))
                          exact ⟨rfl, rfl, rfl, rfl, rfl, trivial⟩
                        · have hp := hp.2 h301
                          refine g_iconst mzi_0 ?_
                          exact g_zret (z := false) rfl (hr _ _ _ _ (hx1 _ hC))
                      · have hp := hp.2 h300
                        refine g_weak ?_ (g_cl (cg_622_915 hd hS hR L xs s.1 ((cf_483_0 ((cf_151_0 s.2.1 s.2.2.2).2.1)).2) s.2.2.1 ((cf_151_0 s.2.1 s.2.2.2).2.2) hr hc1 hx1 hp hC))
                        exact ⟨rfl, rfl, rfl, rfl, rfl, trivial⟩
                    · have hp := hp.2 h299
                      refine g_iconst mzi_0 ?_
                      exact g_zret (z := false) rfl (hr _ _ _ _ (hx1 _ hC))
                  · have hp := hp.2 h10
                    refine mz_cs hC (fun h11 hC => ?_) (fun h11 hC => ?_)
                    · have hp := hp.1 h11
                      refine g_br (tg := 918) (by rw [h11]; rfl) ms_622_918 ?_
                      refine g_aload_n rfl (g_aload_n rfl ?_)
                      obtain ⟨h290, hp⟩ := hp
                      refine g_s2v (Nat.le_of_ble_eq_true rfl) (fun _ hq => cs_153 (Nat.le_trans (Nat.le_of_ble_eq_true rfl) hd) (hS.le (Nat.le_of_ble_eq_true rfl)) (hR.le (Nat.le_of_ble_eq_true rfl))  s.2.1 s.2.2.2 h290 hq) (g_istore (Nat.le_of_ble_eq_true rfl) rfl (g_aload_n rfl ?_))
                      obtain ⟨h291, hp⟩ := hp
                      refine g_v1v (Nat.le_of_ble_eq_true rfl) (mz_at hS (Nat.le_of_ble_eq_true rfl) mzcS_232) (fun _ hq => cs_485 (Nat.le_trans (Nat.le_of_ble_eq_true rfl) hd) (hS.le (Nat.le_of_ble_eq_true rfl)) (hR.le (Nat.le_of_ble_eq_true rfl))  ((cf_153_0 s.2.1 s.2.2.2).2.1) h291 hq) (g_istore (Nat.le_of_ble_eq_true rfl) rfl (g_aload_n rfl ?_))
                      refine g_v1v (Nat.le_of_ble_eq_true rfl) (mz_at hS (Nat.le_of_ble_eq_true rfl) mzcS_232) (fun _ hq => cs_459 (Nat.le_trans (Nat.le_of_ble_eq_true rfl) hd) (hS.le (Nat.le_of_ble_eq_true rfl)) (hR.le (Nat.le_of_ble_eq_true rfl))  ((cf_485_0 ((cf_153_0 s.2.1 s.2.2.2).2.1)).2) trivial hq) (g_iload rfl ?_)
                      refine g_iceq (tg := 942) rfl ms_622_942 hC (fun h293 hC => ?_) (fun h293 hC => ?_)
                      · have hp := hp.1 h293
                        refine g_iload rfl ?_
                        refine g_ifne (tg := 959) rfl ms_622_959 hC (fun h294 hC => ?_) (fun h294 hC => ?_)
                        · have hp := hp.1 h294
                          refine g_aload_n rfl (g_iconst mzi_0 (g_lald (mz_at hS (Nat.le_of_ble_eq_true rfl) mzcS_342) (mz_ibd (by decide)) (g_iload rfl (g_i2l (g_lcmp ?_)))))
                          refine g_leq (tg := 959) rfl ms_622_959 hC (fun h295 hC => ?_) (fun h295 hC => ?_)
                          · have hp := hp.1 h295
                            refine g_weak ?_ (g_cl (cg_622_959 hd hS hR L xs s.1 ((cf_485_0 ((cf_153_0 s.2.1 s.2.2.2).2.1)).2) s.2.2.1 ((cf_153_0 s.2.1 s.2.2.2).2.2) hr hc1 hx1 hp hC))
                            exact ⟨rfl, rfl, rfl, rfl, rfl, trivial⟩
                          · have hp := hp.2 h295
                            refine g_iconst mzi_0 ?_
                            exact g_zret (z := false) rfl (hr _ _ _ _ (hx1 _ hC))
                        · have hp := hp.2 h294
                          refine g_weak ?_ (g_cl (cg_622_959 hd hS hR L xs s.1 ((cf_485_0 ((cf_153_0 s.2.1 s.2.2.2).2.1)).2) s.2.2.1 ((cf_153_0 s.2.1 s.2.2.2).2.2) hr hc1 hx1 hp hC))
                          exact ⟨rfl, rfl, rfl, rfl, rfl, trivial⟩
                      · have hp := hp.2 h293
                        refine g_iconst mzi_0 ?_
                        exact g_zret (z := false) rfl (hr _ _ _ _ (hx1 _ hC))
                    · have hp := hp.2 h11
                      refine mz_cs hC (fun h12 hC => ?_) (fun h12 hC => ?_)
                      · have hp := hp.1 h12
                        refine g_br (tg := 962) (by rw [h12]; rfl) ms_622_962 ?_
                        refine g_aload_n rfl (g_aload_n rfl (g_iload rfl (g_iconst mzi_1 (g_iadd ?_))))
                        obtain ⟨h287, hp⟩ := hp
                        refine g_iald1002 h287 (g_aload_n rfl (g_iload rfl (g_iconst mzi_2 (g_iadd ?_))))
                        obtain ⟨h288, hp⟩ := hp
                        refine g_iald1002 h288 (g_aload_n rfl ?_)
                        obtain ⟨h289, hp⟩ := hp
                        refine g_s4v (Nat.le_of_ble_eq_true rfl) (fun _ hq => cs_155 (Nat.le_trans (Nat.le_of_ble_eq_true rfl) hd) (hS.le (Nat.le_of_ble_eq_true rfl)) (hR.le (Nat.le_of_ble_eq_true rfl))  (xs (s.1 + 1).toNatClampNeg) (xs (s.1 + 2).toNatClampNeg) s.2.1 s.2.2.2 h289 hq) (g_istore (Nat.le_of_ble_eq_true rfl) rfl ?_)
                        refine g_weak ?_ (g_cl (cg_622_981 hd hS hR L xs s.1 ((cf_155_0 (xs (s.1 + 1).toNatClampNeg) (xs (s.1 + 2).toNatClampNeg) s.2.1 s.2.2.2).1) ((cf_155_0 (xs (s.1 + 1).toNatClampNeg) (xs (s.1 + 2).toNatClampNeg) s.2.1 s.2.2.2).2.1) s.2.2.1 ((cf_155_0 (xs (s.1 + 1).toNatClampNeg) (xs (s.1 + 2).toNatClampNeg) s.2.1 s.2.2.2).2.2) hr hc1 hx1 hp hC))
                        exact ⟨rfl, rfl, rfl, rfl, rfl, rfl, trivial⟩
                      · have hp := hp.2 h12
                        refine mz_cs hC (fun h13 hC => ?_) (fun h13 hC => ?_)
                        · have hp := hp.1 h13
                          refine g_br (tg := 1030) (by rw [h13]; rfl) ms_622_1030 ?_
                          refine g_aload_n rfl (g_aload_n rfl (g_iload rfl (g_iconst mzi_1 (g_iadd ?_))))
                          obtain ⟨h284, hp⟩ := hp
                          refine g_iald1002 h284 (g_aload_n rfl (g_iload rfl (g_iconst mzi_2 (g_iadd ?_))))
                          obtain ⟨h285, hp⟩ := hp
                          refine g_iald1002 h285 (g_aload_n rfl ?_)
                          obtain ⟨h286, hp⟩ := hp
                          refine g_s4v (Nat.le_of_ble_eq_true rfl) (fun _ hq => cs_161 (Nat.le_trans (Nat.le_of_ble_eq_true rfl) hd) (hS.le (Nat.le_of_ble_eq_true rfl)) (hR.le (Nat.le_of_ble_eq_true rfl))  (xs (s.1 + 1).toNatClampNeg) (xs (s.1 + 2).toNatClampNeg) s.2.1 s.2.2.2 h286 hq) (g_istore (Nat.le_of_ble_eq_true rfl) rfl ?_)
                          refine g_weak ?_ (g_cl (cg_622_1049 hd hS hR L xs s.1 ((cf_161_0 (xs (s.1 + 1).toNatClampNeg) (xs (s.1 + 2).toNatClampNeg) s.2.1 s.2.2.2).1) ((cf_161_0 (xs (s.1 + 1).toNatClampNeg) (xs (s.1 + 2).toNatClampNeg) s.2.1 s.2.2.2).2.1) s.2.2.1 ((cf_161_0 (xs (s.1 + 1).toNatClampNeg) (xs (s.1 + 2).toNatClampNeg) s.2.1 s.2.2.2).2.2) hr hc1 hx1 hp hC))
                          exact ⟨rfl, rfl, rfl, rfl, rfl, rfl, trivial⟩
                        · have hp := hp.2 h13
                          refine mz_cs hC (fun h14 hC => ?_) (fun h14 hC => ?_)
                          · have hp := hp.1 h14
                            refine g_br (tg := 1098) (by rw [h14]; rfl) ms_622_1098 ?_
                            refine g_aload_n rfl (g_aload_n rfl (g_iload rfl (g_iconst mzi_1 (g_iadd ?_))))
                            obtain ⟨h280, hp⟩ := hp
                            refine g_iald1002 h280 (g_aload_n rfl (g_iload rfl (g_iconst mzi_2 (g_iadd ?_))))
                            obtain ⟨h281, hp⟩ := hp
                            refine g_iald1002 h281 (g_aload_n rfl (g_iload rfl (g_iconst mzi_3 (g_iadd ?_))))
                            obtain ⟨h282, hp⟩ := hp
                            refine g_iald1002 h282 (g_aload_n rfl ?_)
                            obtain ⟨h283, hp⟩ := hp
                            refine g_s5v (Nat.le_of_ble_eq_true rfl) (fun _ hq => cs_163 (Nat.le_trans (Nat.le_of_ble_eq_true rfl) hd) (hS.le (Nat.le_of_ble_eq_true rfl)) (hR.le (Nat.le_of_ble_eq_true rfl))  (xs (s.1 + 1).toNatClampNeg) (xs (s.1 + 2).toNatClampNeg) (xs (s.1 + 3).toNatClampNeg) s.2.1 s.2.2.2 h283 hq) (g_istore (Nat.le_of_ble_eq_true rfl) rfl ?_)
                            refine g_weak ?_ (g_cl (cg_622_1123 hd hS hR L xs s.1 ((cf_163_0 (xs (s.1 + 1).toNatClampNeg) (xs (s.1 + 2).toNatClampNeg) (xs (s.1 + 3).toNatClampNeg) s.2.1 s.2.2.2).1) ((cf_163_0 (xs (s.1 + 1).toNatClampNeg) (xs (s.1 + 2).toNatClampNeg) (xs (s.1 + 3).toNatClampNeg) s.2.1 s.2.2.2).2.1) s.2.2.1 ((cf_163_0 (xs (s.1 + 1).toNatClampNeg) (xs (s.1 + 2).toNatClampNeg) (xs (s.1 + 3).toNatClampNeg) s.2.1 s.2.2.2).2.2) hr hc1 hx1 hp hC))
                            exact ⟨rfl, rfl, rfl, rfl, rfl, rfl, trivial⟩
                          · have hp := hp.2 h14
                            refine mz_cs hC (fun h15 hC => ?_) (fun h15 hC => ?_)
                            · have hp := hp.1 h15
                              refine g_br (tg := 1178) (by rw [h15]; rfl) ms_622_1178 ?_
                              refine g_aload_n rfl (g_aload_n rfl (g_iload rfl (g_iconst mzi_1 (g_iadd ?_))))
                              obtain ⟨h276, hp⟩ := hp
                              refine g_iald1002 h276 (g_aload_n rfl (g_iload rfl (g_iconst mzi_2 (g_iadd ?_))))
                              obtain ⟨h277, hp⟩ := hp
                              refine g_iald1002 h277 (g_aload_n rfl (g_iload rfl (g_iconst mzi_3 (g_iadd ?_))))
                              obtain ⟨h278, hp⟩ := hp
                              refine g_iald1002 h278 (g_aload_n rfl ?_)
                              obtain ⟨h279, hp⟩ := hp
                              refine g_s5v (Nat.le_of_ble_eq_true rfl) (fun _ hq => cs_168 (Nat.le_trans (Nat.le_of_ble_eq_true rfl) hd) (hS.le (Nat.le_of_ble_eq_true rfl)) (hR.le (Nat.le_of_ble_eq_true rfl))  (xs (s.1 + 1).toNatClampNeg) (xs (s.1 + 2).toNatClampNeg) (xs (s.1 + 3).toNatClampNeg) s.2.1 s.2.2.1 s.2.2.2 h279 hq) (g_istore (Nat.le_of_ble_eq_true rfl) rfl ?_)
                              refine g_weak ?_ (g_cl (cg_622_1203 hd hS hR L xs s.1 ((cf_168_0 (xs (s.1 + 1).toNatClampNeg) (xs (s.1 + 2).toNatClampNeg) (xs (s.1 + 3).toNatClampNeg) s.2.1 s.2.2.1 s.2.2.2).1) ((cf_168_0 (xs (s.1 + 1).toNatClampNeg) (xs (s.1 + 2).toNatClampNeg) (xs (s.1 + 3).toNatClampNeg) s.2.1 s.2.2.1 s.2.2.2).2.1) s.2.2.1 ((cf_168_0 (xs (s.1 + 1).toNatClampNeg) (xs (s.1 + 2).toNatClampNeg) (xs (s.1 + 3).toNatClampNeg) s.2.1 s.2.2.1 s.2.2.2).2.2) hr hc1 hx1 hp hC))
                              exact ⟨rfl, rfl, rfl, rfl, rfl, rfl, trivial⟩
                            · have hp := hp.2 h15
                              refine mz_cs hC (fun h16 hC => ?_) (fun h16 hC => ?_)
                              · have hp := hp.1 h16
                                refine g_br (tg := 1258) (by rw [h16]; rfl) ms_622_1258 ?_
                                refine g_aload_n rfl (g_aload_n rfl (g_iload rfl (g_iconst mzi_1 (g_iadd ?_))))
                                obtain ⟨h272, hp⟩ := hp
                                refine g_iald1002 h272 (g_aload_n rfl (g_iload rfl (g_iconst mzi_2 (g_iadd ?_))))
                                obtain ⟨h273, hp⟩ := hp
                                refine g_iald1002 h273 (g_aload_n rfl (g_iload rfl (g_iconst mzi_3 (g_iadd ?_))))
                                obtain ⟨h274, hp⟩ := hp
                                refine g_iald1002 h274 (g_aload_n rfl ?_)
                                obtain ⟨h275, hp⟩ := hp
                                refine g_s5v (Nat.le_of_ble_eq_true rfl) (fun _ hq => cs_172 (Nat.le_trans (Nat.le_of_ble_eq_true rfl) hd) (hS.le (Nat.le_of_ble_eq_true rfl)) (hR.le (Nat.le_of_ble_eq_true rfl))  (xs (s.1 + 1).toNatClampNeg) (xs (s.1 + 2).toNatClampNeg) (xs (s.1 + 3).toNatClampNeg) s.2.1 s.2.2.1 s.2.2.2 h275 hq) (g_istore (Nat.le_of_ble_eq_true rfl) rfl ?_)
                                refine g_weak ?_ (g_cl (cg_622_1283 hd hS hR L xs s.1 ((cf_172_0 (xs (s.1 + 1).toNatClampNeg) (xs (s.1 + 2).toNatClampNeg) (xs (s.1 + 3).toNatClampNeg) s.2.1 s.2.2.1 s.2.2.2).1) ((cf_172_0 (xs (s.1 + 1).toNatClampNeg) (xs (s.1 + 2).toNatClampNeg) (xs (s.1 + 3).toNatClampNeg) s.2.1 s.2.2.1 s.2.2.2).2.1) s.2.2.1 ((cf_172_0 (xs (s.1 + 1).toNatClampNeg) (xs (s.1 + 2).toNatClampNeg) (xs (s.1 + 3).toNatClampNeg) s.2.1 s.2.2.1 s.2.2.2).2.2) hr hc1 hx1 hp hC))
                                exact ⟨rfl, rfl, rfl, rfl, rfl, rfl, trivial⟩
                              · have hp := hp.2 h16
                                refine mz_cs hC (fun h17 hC => ?_) (fun h17 hC => ?_)
                                · have hp := hp.1 h17
                                  refine g_br (tg := 1338) (by rw [h17]; rfl) ms_622_1338 ?_
                                  refine g_aload_n rfl (g_aload_n rfl (g_iload rfl (g_iconst mzi_1 (g_iadd ?_))))
                                  obtain ⟨h269, hp⟩ := hp
                                  refine g_iald1002 h269 (g_aload_n rfl (g_iload rfl (g_iconst mzi_2 (g_iadd ?_))))
                                  obtain ⟨h270, hp⟩ := hp
                                  refine g_iald1002 h270 (g_aload_n rfl ?_)
                                  obtain ⟨h271, hp⟩ := hp
                                  refine g_s4v (Nat.le_of_ble_eq_true rfl) (fun _ hq => cs_174 (Nat.le_trans (Nat.le_of_ble_eq_true rfl) hd) (hS.le (Nat.le_of_ble_eq_true rfl)) (hR.le (Nat.le_of_ble_eq_true rfl))  (xs (s.1 + 1).toNatClampNeg) (xs (s.1 + 2).toNatClampNeg) s.2.1 s.2.2.1 s.2.2.2 h271 hq) (g_istore (Nat.le_of_ble_eq_true rfl) rfl ?_)
                                  refine g_weak ?_ (g_cl (cg_622_1357 hd hS hR L xs s.1 ((cf_174_0 (xs (s.1 + 1).toNatClampNeg) (xs (s.1 + 2).toNatClampNeg) s.2.1 s.2.2.1 s.2.2.2).1) ((cf_174_0 (xs (s.1 + 1).toNatClampNeg) (xs (s.1 + 2).toNatClampNeg) s.2.1 s.2.2.1 s.2.2.2).2.1) s.2.2.1 ((cf_174_0 (xs (s.1 + 1).toNatClampNeg) (xs (s.1 + 2).toNatClampNeg) s.2.1 s.2.2.1 s.2.2.2).2.2) hr hc1 hx1 hp hC))
                                  exact ⟨rfl, rfl, rfl, rfl, rfl, rfl, trivial⟩
                                · have hp := hp.2 h17
                                  refine mz_cs hC (fun h18 hC => ?_) (fun h18 hC => ?_)
                                  · have hp := hp.1 h18
                                    refine g_br (tg := 1406) (by rw [h18]; rfl) ms_622_1406 ?_
                                    refine g_aload_n rfl (g_aload_n rfl (g_iload rfl (g_iconst mzi_1 (g_iadd ?_))))
                                    obtain ⟨h265, hp⟩ := hp
                                    refine g_iald1002 h265 (g_aload_n rfl (g_iload rfl (g_iconst mzi_2 (g_iadd ?_))))
                                    obtain ⟨h266, hp⟩ := hp
                                    refine g_iald1002 h266 (g_aload_n rfl (g_iload rfl (g_iconst mzi_3 (g_iadd ?_))))
                                    obtain ⟨h267, hp⟩ := hp
                                    refine g_iald1002 h267 (g_aload_n rfl ?_)
                                    obtain ⟨h268, hp⟩ := hp
                                    refine g_s5v (Nat.le_of_ble_eq_true rfl) (fun _ hq => cs_176 (Nat.le_trans (Nat.le_of_ble_eq_true rfl) hd) (hS.le (Nat.le_of_ble_eq_true rfl)) (hR.le (Nat.le_of_ble_eq_true rfl))  (xs (s.1 + 1).toNatClampNeg) (xs (s.1 + 2).toNatClampNeg) (xs (s.1 + 3).toNatClampNeg) s.2.1 s.2.2.1 s.2.2.2 h268 hq) (g_istore (Nat.le_of_ble_eq_true rfl) rfl ?_)
                                    refine g_weak ?_ (g_cl (cg_622_1431 hd hS hR L xs s.1 ((cf_176_0 (xs (s.1 + 1).toNatClampNeg) (xs (s.1 + 2).toNatClampNeg) (xs (s.1 + 3).toNatClampNeg) s.2.1 s.2.2.1 s.2.2.2).1) ((cf_176_0 (xs (s.1 + 1).toNatClampNeg) (xs (s.1 + 2).toNatClampNeg) (xs (s.1 + 3).toNatClampNeg) s.2.1 s.2.2.1 s.2.2.2).2.1) s.2.2.1 ((cf_176_0 (xs (s.1 + 1).toNatClampNeg) (xs (s.1 + 2).toNatClampNeg) (xs (s.1 + 3).toNatClampNeg) s.2.1 s.2.2.1 s.2.2.2).2.2) hr hc1 hx1 hp hC))
                                    exact ⟨rfl, rfl, rfl, rfl, rfl, rfl, trivial⟩
                                  · have hp := hp.2 h18
                                    refine mz_cs hC (fun h19 hC => ?_) (fun h19 hC => ?_)
                                    · have hp := hp.1 h19
                                      refine g_br (tg := 1486) (by rw [h19]; rfl) ms_622_1486 ?_
                                      refine g_aload_n rfl (g_aload_n rfl (g_iload rfl (g_iconst mzi_1 (g_iadd ?_))))
                                      obtain ⟨h261, hp⟩ := hp
                                      refine g_iald1002 h261 (g_aload_n rfl (g_iload rfl (g_iconst mzi_2 (g_iadd ?_))))
                                      obtain ⟨h262, hp⟩ := hp
                                      refine g_iald1002 h262 (g_aload_n rfl (g_iload rfl (g_iconst mzi_3 (g_iadd ?_))))
                                      obtain ⟨h263, hp⟩ := hp
                                      refine g_iald1002 h263 (g_aload_n rfl ?_)
                                      obtain ⟨h264, hp⟩ := hp
                                      refine g_s5v (Nat.le_of_ble_eq_true rfl) (fun _ hq => cs_178 (Nat.le_trans (Nat.le_of_ble_eq_true rfl) hd) (hS.le (Nat.le_of_ble_eq_true rfl)) (hR.le (Nat.le_of_ble_eq_true rfl))  (xs (s.1 + 1).toNatClampNeg) (xs (s.1 + 2).toNatClampNeg) (xs (s.1 + 3).toNatClampNeg) s.2.1 s.2.2.1 s.2.2.2 h264 hq) (g_istore (Nat.le_of_ble_eq_true rfl) rfl ?_)
                                      refine g_weak ?_ (g_cl (cg_622_1511 hd hS hR L xs s.1 ((cf_178_0 (xs (s.1 + 1).toNatClampNeg) (xs (s.1 + 2).toNatClampNeg) (xs (s.1 + 3).toNatClampNeg) s.2.1 s.2.2.1 s.2.2.2).1) ((cf_178_0 (xs (s.1 + 1).toNatClampNeg) (xs (s.1 + 2).toNatClampNeg) (xs (s.1 + 3).toNatClampNeg) s.2.1 s.2.2.1 s.2.2.2).2.1) s.2.2.1 ((cf_178_0 (xs (s.1 + 1).toNatClampNeg) (xs (s.1 + 2).toNatClampNeg) (xs (s.1 + 3).toNatClampNeg) s.2.1 s.2.2.1 s.2.2.2).2.2) hr hc1 hx1 hp hC))
                                      exact ⟨rfl, rfl, rfl, rfl, rfl, rfl, trivial⟩
                                    · have hp := hp.2 h19
                                      refine mz_cs hC (fun h20 hC => ?_) (fun h20 hC => ?_)
                                      · have hp := hp.1 h20
                                        refine g_br (tg := 1566) (by rw [h20]; rfl) ms_622_1566 ?_
                                        refine g_aload_n rfl (g_aload_n rfl (g_iload rfl (g_iconst mzi_1 (g_iadd ?_))))
                                        obtain ⟨h258, hp⟩ := hp
                                        refine g_iald1002 h258 (g_aload_n rfl (g_iload rfl (g_iconst mzi_2 (g_iadd ?_))))
                                        obtain ⟨h259, hp⟩ := hp
                                        refine g_iald1002 h259 (g_aload_n rfl ?_)
                                        obtain ⟨h260, hp⟩ := hp
                                        refine g_s4v (Nat.le_of_ble_eq_true rfl) (fun _ hq => cs_180 (Nat.le_trans (Nat.le_of_ble_eq_true rfl) hd) (hS.le (Nat.le_of_ble_eq_true rfl)) (hR.le (Nat.le_of_ble_eq_true rfl))  (xs (s.1 + 1).toNatClampNeg) (xs (s.1 + 2).toNatClampNeg) s.2.1 s.2.2.1 s.2.2.2 h260 hq) (g_istore (Nat.le_of_ble_eq_true rfl) rfl ?_)
                                        refine g_weak ?_ (g_cl (cg_622_1585 hd hS hR L xs s.1 ((cf_180_0 (xs (s.1 + 1).toNatClampNeg) (xs (s.1 + 2).toNatClampNeg) s.2.1 s.2.2.1 s.2.2.2).1) ((cf_180_0 (xs (s.1 + 1).toNatClampNeg) (xs (s.1 + 2).toNatClampNeg) s.2.1 s.2.2.1 s.2.2.2).2.1) s.2.2.1 ((cf_180_0 (xs (s.1 + 1).toNatClampNeg) (xs (s.1 + 2).toNatClampNeg) s.2.1 s.2.2.1 s.2.2.2).2.2) hr hc1 hx1 hp hC))
                                        exact ⟨rfl, rfl, rfl, rfl, rfl, rfl, trivial⟩
                                      · have hp := hp.2 h20
                                        refine mz_cs hC (fun h21 hC => ?_) (fun h21 hC => ?_)
                                        · have hp := hp.1 h21
                                          refine g_br (tg := 1634) (by rw [h21]; rfl) ms_622_1634 ?_
                                          refine g_aload_n rfl (g_aload_n rfl (g_iload rfl (g_iconst mzi_1 (g_iadd ?_))))
                                          obtain ⟨h255, hp⟩ := hp
                                          refine g_iald1002 h255 (g_aload_n rfl (g_iload rfl (g_iconst mzi_2 (g_iadd ?_))))
                                          obtain ⟨h256, hp⟩ := hp
                                          refine g_iald1002 h256 (g_aload_n rfl ?_)
                                          obtain ⟨h257, hp⟩ := hp
                                          refine g_s4v (Nat.le_of_ble_eq_true rfl) (fun _ hq => cs_183 (Nat.le_trans (Nat.le_of_ble_eq_true rfl) hd) (hS.le (Nat.le_of_ble_eq_true rfl)) (hR.le (Nat.le_of_ble_eq_true rfl))  (xs (s.1 + 1).toNatClampNeg) (xs (s.1 + 2).toNatClampNeg) s.2.1 s.2.2.1 s.2.2.2 h257 hq) (g_istore (Nat.le_of_ble_eq_true rfl) rfl ?_)
                                          refine g_weak ?_ (g_cl (cg_622_1653 hd hS hR L xs s.1 ((cf_183_0 (xs (s.1 + 1).toNatClampNeg) (xs (s.1 + 2).toNatClampNeg) s.2.1 s.2.2.1 s.2.2.2).1) ((cf_183_0 (xs (s.1 + 1).toNatClampNeg) (xs (s.1 + 2).toNatClampNeg) s.2.1 s.2.2.1 s.2.2.2).2.1) s.2.2.1 ((cf_183_0 (xs (s.1 + 1).toNatClampNeg) (xs (s.1 + 2).toNatClampNeg) s.2.1 s.2.2.1 s.2.2.2).2.2) hr hc1 hx1 hp hC))
                                          exact ⟨rfl, rfl, rfl, rfl, rfl, rfl, trivial⟩
                                        · have hp := hp.2 h21
                                          refine mz_cs hC (fun h22 hC => ?_) (fun h22 hC => ?_)
                                          · have hp := hp.1 h22
                                            refine g_br (tg := 1702) (by rw [h22]; rfl) ms_622_1702 ?_
                                            refine g_aload_n rfl (g_aload_n rfl (g_iload rfl (g_iconst mzi_1 (g_iadd ?_))))
                                            obtain ⟨h251, hp⟩ := hp
                                            refine g_iald1002 h251 (g_aload_n rfl ?_)
                                            obtain ⟨h252, hp⟩ := hp
                                            refine g_s3v (Nat.le_of_ble_eq_true rfl) (fun _ hq => cs_185 (Nat.le_trans (Nat.le_of_ble_eq_true rfl) hd) (hS.le (Nat.le_of_ble_eq_true rfl)) (hR.le (Nat.le_of_ble_eq_true rfl))  (xs (s.1 + 1).toNatClampNeg) s.2.1 s.2.2.2 h252 hq) (g_istore (Nat.le_of_ble_eq_true rfl) rfl (g_aload_n rfl (g_aload_n rfl (g_iload rfl (g_iconst mzi_1 (g_iadd ?_))))))
                                            obtain ⟨h253, hp⟩ := hp
                                            refine g_iald1002 h253 ?_
                                            obtain ⟨h254, hp⟩ := hp
                                            refine g_v2v (Nat.le_of_ble_eq_true rfl) (mz_at hS (Nat.le_of_ble_eq_true rfl) mzcS_232) (fun _ hq => cs_501 (Nat.le_trans (Nat.le_of_ble_eq_true rfl) hd) (hS.le (Nat.le_of_ble_eq_true rfl)) (hR.le (Nat.le_of_ble_eq_true rfl))  (xs (s.1 + 1).toNatClampNeg) ((cf_185_0 (xs (s.1 + 1).toNatClampNeg) s.2.1 s.2.2.2).2.1) h254 hq) (g_istore (Nat.le_of_ble_eq_true rfl) rfl ?_)
                                            refine g_weak ?_ (g_cl (cg_622_1727 hd hS hR L xs s.1 ((cf_185_0 (xs (s.1 + 1).toNatClampNeg) s.2.1 s.2.2.2).1) ((cf_501_0 (xs (s.1 + 1).toNatClampNeg) ((cf_185_0 (xs (s.1 + 1).toNatClampNeg) s.2.1 s.2.2.2).2.1)).1) ((cf_501_0 (xs (s.1 + 1).toNatClampNeg) ((cf_185_0 (xs (s.1 + 1).toNatClampNeg) s.2.1 s.2.2.2).2.1)).2) s.2.2.1 ((cf_185_0 (xs (s.1 + 1).toNatClampNeg) s.2.1 s.2.2.2).2.2) hr hc1 hx1 hp hC))
                                            exact ⟨rfl, rfl, rfl, rfl, rfl, rfl, rfl, trivial⟩
                                          · have hp := hp.2 h22
                                            refine mz_cs hC (fun h23 hC => ?_) (fun h23 hC => ?_)
                                            · have hp := hp.1 h23
                                              refine g_br (tg := 1758) (by rw [h23]; rfl) ms_622_1758 ?_
                                              refine g_aload_n rfl (g_aload_n rfl ?_)
                                              obtain ⟨h245, hp⟩ := hp
                                              refine g_s2v (Nat.le_of_ble_eq_true rfl) (fun _ hq => cs_188 (Nat.le_trans (Nat.le_of_ble_eq_true rfl) hd) (hS.le (Nat.le_of_ble_eq_true rfl)) (hR.le (Nat.le_of_ble_eq_true rfl))  s.2.1 s.2.2.2 h245 hq) (g_istore (Nat.le_of_ble_eq_true rfl) rfl (g_aload_n rfl ?_))
                                              obtain ⟨h246, hp⟩ := hp
                                              refine g_v1v (Nat.le_of_ble_eq_true rfl) (mz_at hS (Nat.le_of_ble_eq_true rfl) mzcS_232) (fun _ hq => cs_502 (Nat.le_trans (Nat.le_of_ble_eq_true rfl) hd) (hS.le (Nat.le_of_ble_eq_true rfl)) (hR.le (Nat.le_of_ble_eq_true rfl))  ((cf_188_0 s.2.1 s.2.2.2).2.1) h246 hq) (g_istore (Nat.le_of_ble_eq_true rfl) rfl (g_aload_n rfl ?_))
                                              refine g_v1v (Nat.le_of_ble_eq_true rfl) (mz_at hS (Nat.le_of_ble_eq_true rfl) mzcS_232) (fun _ hq => cs_459 (Nat.le_trans (Nat.le_of_ble_eq_true rfl) hd) (hS.le (Nat.le_of_ble_eq_true rfl)) (hR.le (Nat.le_of_ble_eq_true rfl))  ((cf_502_0 ((cf_188_0 s.2.1 s.2.2.2).2.1)).2) trivial hq) (g_iload rfl ?_)
                                              refine g_iceq (tg := 1782) rfl ms_622_1782 hC (fun h248 hC => ?_) (fun h248 hC => ?_)
                                              · have hp := hp.1 h248
                                                refine g_iload rfl ?_
                                                refine g_ifne (tg := 1799) rfl ms_622_1799 hC (fun h249 hC => ?_) (fun h249 hC => ?_)
                                                · have hp := hp.1 h249
                                                  refine g_aload_n rfl (g_iconst mzi_0 (g_lald (mz_at hS (Nat.le_of_ble_eq_true rfl) mzcS_342) (mz_ibd (by decide)) (g_iload rfl (g_i2l (g_lcmp ?_)))))
                                                  refine g_leq (tg := 1799) rfl ms_622_1799 hC (fun h250 hC => ?_) (fun h250 hC => ?_)
                                                  · have hp := hp.1 h250
                                                    refine g_weak ?_ (g_cl (cg_622_1799 hd hS hR L xs s.1 ((cf_502_0 ((cf_188_0 s.2.1 s.2.2.2).2.1)).2) s.2.2.1 ((cf_188_0 s.2.1 s.2.2.2).2.2) hr hc1 hx1 hp hC))
                                                    exact ⟨rfl, rfl, rfl, rfl, rfl, trivial⟩
                                                  · have hp := hp.2 h250
                                                    refine g_iconst mzi_0 ?_
                                                    exact g_zret (z := false) rfl (hr _ _ _ _ (hx1 _ hC))
                                                · have hp := hp.2 h249
                                                  refine g_weak ?_ (g_cl (cg_622_1799 hd hS hR L xs s.1 ((cf_502_0 ((cf_188_0 s.2.1 s.2.2.2).2.1)).2) s.2.2.1 ((cf_188_0 s.2.1 s.2.2.2).2.2) hr hc1 hx1 hp hC))
                                                  exact ⟨rfl, rfl, rfl, rfl, rfl, trivial⟩
                                              · have hp := hp.2 h248
                                                refine g_iconst mzi_0 ?_
                                                exact g_zret (z := false) rfl (hr _ _ _ _ (hx1 _ hC))
                                            · have hp := hp.2 h23
                                              refine mz_cs hC (fun h24 hC => ?_) (fun h24 hC => ?_)
                                              · have hp := hp.1 h24
                                                refine g_br (tg := 1802) (by rw [h24]; rfl) ms_622_1802 ?_
                                                refine g_aload_n rfl (g_aload_n rfl ?_)
                                                obtain ⟨h239, hp⟩ := hp
                                                refine g_s2v (Nat.le_of_ble_eq_true rfl) (fun _ hq => cs_190 (Nat.le_trans (Nat.le_of_ble_eq_true rfl) hd) (hS.le (Nat.le_of_ble_eq_true rfl)) (hR.le (Nat.le_of_ble_eq_true rfl))  s.2.1 s.2.2.1 s.2.2.2 h239 hq) (g_istore (Nat.le_of_ble_eq_true rfl) rfl (g_aload_n rfl ?_))
                                                obtain ⟨h240, hp⟩ := hp
                                                refine g_v1v (Nat.le_of_ble_eq_true rfl) (mz_at hS (Nat.le_of_ble_eq_true rfl) mzcS_232) (fun _ hq => cs_503 (Nat.le_trans (Nat.le_of_ble_eq_true rfl) hd) (hS.le (Nat.le_of_ble_eq_true rfl)) (hR.le (Nat.le_of_ble_eq_true rfl))  ((cf_190_0 s.2.1 s.2.2.1 s.2.2.2).2.1) h240 hq) (g_istore (Nat.le_of_ble_eq_true rfl) rfl (g_aload_n rfl ?_))
                                                refine g_v1v (Nat.le_of_ble_eq_true rfl) (mz_at hS (Nat.le_of_ble_eq_true rfl) mzcS_232) (fun _ hq => cs_459 (Nat.le_trans (Nat.le_of_ble_eq_true rfl) hd) (hS.le (Nat.le_of_ble_eq_true rfl)) (hR.le (Nat.le_of_ble_eq_true rfl))  ((cf_503_0 ((cf_190_0 s.2.1 s.2.2.1 s.2.2.2).2.1)).2) trivial hq) (g_iload rfl ?_)
                                                refine g_iceq (tg := 1826) rfl ms_622_1826 hC (fun h242 hC => ?_) (fun h242 hC => ?_)
                                                · have hp := hp.1 h242
                                                  refine g_iload rfl ?_
                                                  refine g_ifne (tg := 1843) rfl ms_622_1843 hC (fun h243 hC => ?_) (fun h243 hC => ?_)
                                                  · have hp := hp.1 h243
                                                    refine g_aload_n rfl (g_iconst mzi_0 (g_lald (mz_at hS (Nat.le_of_ble_eq_true rfl) mzcS_342) (mz_ibd (by decide)) (g_iload rfl (g_i2l (g_lcmp ?_)))))
                                                    refine g_leq (tg := 1843) rfl ms_622_1843 hC (fun h244 hC => ?_) (fun h244 hC => ?_)
                                                    · have hp := hp.1 h244
                                                      refine g_weak ?_ (g_cl (cg_622_1843 hd hS hR L xs s.1 ((cf_503_0 ((cf_190_0 s.2.1 s.2.2.1 s.2.2.2).2.1)).2) ((cf_190_0 s.2.1 s.2.2.1 s.2.2.2).2.2.1) ((cf_190_0 s.2.1 s.2.2.1 s.2.2.2).2.2.2) hr hc1 hx1 hp hC))
                                                      exact ⟨rfl, rfl, rfl, rfl, rfl, trivial⟩
                                                    · have hp := hp.2 h244
                                                      refine g_iconst mzi_0 ?_
                                                      exact g_zret (z := false) rfl (hr _ _ _ _ (hx1 _ hC))
                                                  · have hp := hp.2 h243
                                                    refine g_weak ?_ (g_cl (cg_622_1843 hd hS hR L xs s.1 ((cf_503_0 ((cf_190_0 s.2.1 s.2.2.1 s.2.2.2).2.1)).2) ((cf_190_0 s.2.1 s.2.2.1 s.2.2.2).2.2.1) ((cf_190_0 s.2.1 s.2.2.1 s.2.2.2).2.2.2) hr hc1 hx1 hp hC))
                                                    exact ⟨rfl, rfl, rfl, rfl, rfl, trivial⟩
                                                · have hp := hp.2 h242
                                                  refine g_iconst mzi_0 ?_
                                                  exact g_zret (z := false) rfl (hr _ _ _ _ (hx1 _ hC))
                                              · have hp := hp.2 h24
                                                refine mz_cs hC (fun h25 hC => ?_) (fun h25 hC => ?_)
                                                · have hp := hp.1 h25
                                                  refine g_br (tg := 1846) (by rw [h25]; rfl) ms_622_1846 ?_
                                                  refine g_aload_n rfl (g_aload_n rfl (g_iload rfl (g_iconst mzi_1 (g_iadd ?_))))
                                                  obtain ⟨h235, hp⟩ := hp
                                                  refine g_iald1002 h235 (g_aload_n rfl ?_)
                                                  obtain ⟨h236, hp⟩ := hp
                                                  refine g_s3v (Nat.le_of_ble_eq_true rfl) (fun _ hq => cs_193 (Nat.le_trans (Nat.le_of_ble_eq_true rfl) hd) (hS.le (Nat.le_of_ble_eq_true rfl)) (hR.le (Nat.le_of_ble_eq_true rfl))  (xs (s.1 + 1).toNatClampNeg) s.2.1 s.2.2.2 h236 hq) (g_istore (Nat.le_of_ble_eq_true rfl) rfl (g_aload_n rfl (g_aload_n rfl (g_iload rfl (g_iconst mzi_1 (g_iadd ?_))))))
                                                  obtain ⟨h237, hp⟩ := hp
                                                  refine g_iald1002 h237 ?_
                                                  obtain ⟨h238, hp⟩ := hp
                                                  refine g_v2v (Nat.le_of_ble_eq_true rfl) (mz_at hS (Nat.le_of_ble_eq_true rfl) mzcS_232) (fun _ hq => cs_504 (Nat.le_trans (Nat.le_of_ble_eq_true rfl) hd) (hS.le (Nat.le_of_ble_eq_true rfl)) (hR.le (Nat.le_of_ble_eq_true rfl))  (xs (s.1 + 1).toNatClampNeg) ((cf_193_0 (xs (s.1 + 1).toNatClampNeg) s.2.1 s.2.2.2).2.1) h238 hq) (g_istore (Nat.le_of_ble_eq_true rfl) rfl ?_)
                                                  refine g_weak ?_ (g_cl (cg_622_1871 hd hS hR L xs s.1 ((cf_193_0 (xs (s.1 + 1).toNatClampNeg) s.2.1 s.2.2.2).1) ((cf_504_0 (xs (s.1 + 1).toNatClampNeg) ((cf_193_0 (xs (s.1 + 1).toNatClampNeg) s.2.1 s.2.2.2).2.1)).1) ((cf_504_0 (xs (s.1 + 1).toNatClampNeg) ((cf_193_0 (xs (s.1 + 1).toNatClampNeg) s.2.1 s.2.2.2).2.1)).2) s.2.2.1 ((cf_193_0 (xs (s.1 + 1).toNatClampNeg) s.2.1 s.2.2.2).2.2) hr hc1 hx1 hp hC))
                                                  exact ⟨rfl, rfl, rfl, rfl, rfl, rfl, rfl, trivial⟩
                                                · have hp := hp.2 h25
                                                  refine mz_cs hC (fun h26 hC => ?_) (fun h26 hC => ?_)
                                                  · have hp := hp.1 h26
                                                    refine g_br (tg := 1902) (by rw [h26]; rfl) ms_622_1902 ?_
                                                    refine g_aload_n rfl (g_aload_n rfl (g_iload rfl (g_iconst mzi_1 (g_iadd ?_))))
                                                    obtain ⟨h231, hp⟩ := hp
                                                    refine g_iald1002 h231 (g_aload_n rfl ?_)
                                                    obtain ⟨h232, hp⟩ := hp
                                                    refine g_s3v (Nat.le_of_ble_eq_true rfl) (fun _ hq => cs_195 (Nat.le_trans (Nat.le_of_ble_eq_true rfl) hd) (hS.le (Nat.le_of_ble_eq_true rfl)) (hR.le (Nat.le_of_ble_eq_true rfl))  (xs (s.1 + 1).toNatClampNeg) s.2.1 s.2.2.2 h232 hq) (g_istore (Nat.le_of_ble_eq_true rfl) rfl (g_aload_n rfl (g_aload_n rfl (g_iload rfl (g_iconst mzi_1 (g_iadd ?_))))))
                                                    obtain ⟨h233, hp⟩ := hp
                                                    refine g_iald1002 h233 ?_
                                                    obtain ⟨h234, hp⟩ := hp
                                                    refine g_v2v (Nat.le_of_ble_eq_true rfl) (mz_at hS (Nat.le_of_ble_eq_true rfl) mzcS_232) (fun _ hq => cs_505 (Nat.le_trans (Nat.le_of_ble_eq_true rfl) hd) (hS.le (Nat.le_of_ble_eq_true rfl)) (hR.le (Nat.le_of_ble_eq_true rfl))  (xs (s.1 + 1).toNatClampNeg) ((cf_195_0 (xs (s.1 + 1).toNatClampNeg) s.2.1 s.2.2.2).2.1) h234 hq) (g_istore (Nat.le_of_ble_eq_true rfl) rfl ?_)
                                                    refine g_weak ?_ (g_cl (cg_622_1927 hd hS hR L xs s.1 ((cf_195_0 (xs (s.1 + 1).toNatClampNeg) s.2.1 s.2.2.2).1) ((cf_505_0 (xs (s.1 + 1).toNatClampNeg) ((cf_195_0 (xs (s.1 + 1).toNatClampNeg) s.2.1 s.2.2.2).2.1)).1) ((cf_505_0 (xs (s.1 + 1).toNatClampNeg) ((cf_195_0 (xs (s.1 + 1).toNatClampNeg) s.2.1 s.2.2.2).2.1)).2) s.2.2.1 ((cf_195_0 (xs (s.1 + 1).toNatClampNeg) s.2.1 s.2.2.2).2.2) hr hc1 hx1 hp hC))
                                                    exact ⟨rfl, rfl, rfl, rfl, rfl, rfl, rfl, trivial⟩
                                                  · have hp := hp.2 h26
                                                    refine mz_cs hC (fun h27 hC => ?_) (fun h27 hC => ?_)
                                                    · have hp := hp.1 h27
                                                      refine g_br (tg := 1958) (by rw [h27]; rfl) ms_622_1958 ?_
                                                      refine g_aload_n rfl (g_aload_n rfl (g_iload rfl (g_iconst mzi_1 (g_iadd ?_))))
                                                      obtain ⟨h227, hp⟩ := hp
                                                      refine g_iald1002 h227 (g_aload_n rfl ?_)
                                                      obtain ⟨h228, hp⟩ := hp
                                                      refine g_s3v (Nat.le_of_ble_eq_true rfl) (fun _ hq => cs_197 (Nat.le_trans (Nat.le_of_ble_eq_true rfl) hd) (hS.le (Nat.le_of_ble_eq_true rfl)) (hR.le (Nat.le_of_ble_eq_true rfl))  (xs (s.1 + 1).toNatClampNeg) s.2.1 s.2.2.1 s.2.2.2 h228 hq) (g_istore (Nat.le_of_ble_eq_true rfl) rfl (g_aload_n rfl (g_aload_n rfl (g_iload rfl (g_iconst mzi_1 (g_iadd ?_))))))
                                                      obtain ⟨h229, hp⟩ := hp
                                                      refine g_iald1002 h229 ?_
                                                      obtain ⟨h230, hp⟩ := hp
                                                      refine g_v2v (Nat.le_of_ble_eq_true rfl) (mz_at hS (Nat.le_of_ble_eq_true rfl) mzcS_232) (fun _ hq => cs_506 (Nat.le_trans (Nat.le_of_ble_eq_true rfl) hd) (hS.le (Nat.le_of_ble_eq_true rfl)) (hR.le (Nat.le_of_ble_eq_true rfl))  (xs (s.1 + 1).toNatClampNeg) ((cf_197_0 (xs (s.1 + 1).toNatClampNeg) s.2.1 s.2.2.1 s.2.2.2).2.1) h230 hq) (g_istore (Nat.le_of_ble_eq_true rfl) rfl ?_)
                                                      refine g_weak ?_ (g_cl (cg_622_1983 hd hS hR L xs s.1 ((cf_197_0 (xs (s.1 + 1).toNatClampNeg) s.2.1 s.2.2.1 s.2.2.2).1) ((cf_506_0 (xs (s.1 + 1).toNatClampNeg) ((cf_197_0 (xs (s.1 + 1).toNatClampNeg) s.2.1 s.2.2.1 s.2.2.2).2.1)).1) ((cf_506_0 (xs (s.1 + 1).toNatClampNeg) ((cf_197_0 (xs (s.1 + 1).toNatClampNeg) s.2.1 s.2.2.1 s.2.2.2).2.1)).2) s.2.2.1 ((cf_197_0 (xs (s.1 + 1).toNatClampNeg) s.2.1 s.2.2.1 s.2.2.2).2.2) hr hc1 hx1 hp hC))
                                                      exact ⟨rfl, rfl, rfl, rfl, rfl, rfl, rfl, trivial⟩
                                                    · have hp := hp.2 h27
                                                      refine mz_cs hC (fun h28 hC => ?_) (fun h28 hC => ?_)
                                                      · have hp := hp.1 h28
                                                        refine g_br (tg := 2014) (by rw [h28]; rfl) ms_622_2014 ?_
                                                        refine g_aload_n rfl (g_aload_n rfl (g_iload rfl (g_iconst mzi_1 (g_iadd ?_))))
                                                        obtain ⟨h225, hp⟩ := hp
                                                        refine g_iald1002 h225 ?_
                                                        refine g_ifeq (tg := 2028) rfl ms_622_2028 hC (fun h226 hC => ?_) (fun h226 hC => ?_)
                                                        · have hp := hp.1 h226
                                                          refine g_iconst mzi_0 ?_
                                                          refine g_weak ?_ (g_cl (cg_622_2029 hd hS hR L xs false s.1 s.2.1 s.2.2.1 s.2.2.2 hr hc1 hx1 hp hC))
                                                          exact ⟨rfl, rfl, rfl, rfl, rfl, trivial⟩
                                                        · have hp := hp.2 h226
                                                          refine g_iconst mzi_1 (g_goto (tg := 2029) rfl ms_622_2029 ?_)
                                                          refine g_weak ?_ (g_cl (cg_622_2029 hd hS hR L xs true s.1 s.2.1 s.2.2.1 s.2.2.2 hr hc1 hx1 hp hC))
                                                          exact ⟨rfl, rfl, rfl, rfl, rfl, trivial⟩
                                                      · have hp := hp.2 h28
                                                        refine mz_cs hC (fun h29 hC => ?_) (fun h29 hC => ?_)
                                                        · have hp := hp.1 h29
                                                          refine g_br (tg := 2093) (by rw [h29]; rfl) ms_622_2093 ?_
                                                          refine g_aload_n rfl (g_aload_n rfl (g_iload rfl (g_iconst mzi_1 (g_iadd ?_))))
                                                          obtain ⟨h221, hp⟩ := hp
                                                          refine g_iald1002 h221 (g_aload_n rfl ?_)
                                                          obtain ⟨h222, hp⟩ := hp
                                                          refine g_s3v (Nat.le_of_ble_eq_true rfl) (fun _ hq => cs_280 (Nat.le_trans (Nat.le_of_ble_eq_true rfl) hd) (hS.le (Nat.le_of_ble_eq_true rfl)) (hR.le (Nat.le_of_ble_eq_true rfl))  (xs (s.1 + 1).toNatClampNeg) s.2.1 s.2.2.2 h222 hq) (g_istore (Nat.le_of_ble_eq_true rfl) rfl (g_aload_n rfl (g_aload_n rfl (g_iload rfl (g_iconst mzi_1 (g_iadd ?_))))))
                                                          obtain ⟨h223, hp⟩ := hp
                                                          refine g_iald1002 h223 ?_
                                                          obtain ⟨h224, hp⟩ := hp
                                                          refine g_v2v (Nat.le_of_ble_eq_true rfl) (mz_at hS (Nat.le_of_ble_eq_true rfl) mzcS_232) (fun _ hq => cs_549 (Nat.le_trans (Nat.le_of_ble_eq_true rfl) hd) (hS.le (Nat.le_of_ble_eq_true rfl)) (hR.le (Nat.le_of_ble_eq_true rfl))  (xs (s.1 + 1).toNatClampNeg) ((cf_280_0 (xs (s.1 + 1).toNatClampNeg) s.2.1 s.2.2.2).2.1) h224 hq) (g_istore (Nat.le_of_ble_eq_true rfl) rfl ?_)
                                                          refine g_weak ?_ (g_cl (cg_622_2118 hd hS hR L xs s.1 ((cf_280_0 (xs (s.1 + 1).toNatClampNeg) s.2.1 s.2.2.2).1) ((cf_549_0 (xs (s.1 + 1).toNatClampNeg) ((cf_280_0 (xs (s.1 + 1).toNatClampNeg) s.2.1 s.2.2.2).2.1)).1) ((cf_549_0 (xs (s.1 + 1).toNatClampNeg) ((cf_280_0 (xs (s.1 + 1).toNatClampNeg) s.2.1 s.2.2.2).2.1)).2) s.2.2.1 ((cf_280_0 (xs (s.1 + 1).toNatClampNeg) s.2.1 s.2.2.2).2.2) hr hc1 hx1 hp hC))
                                                          exact ⟨rfl, rfl, rfl, rfl, rfl, rfl, rfl, trivial⟩
                                                        · have hp := hp.2 h29
                                                          refine mz_cs hC (fun h30 hC => ?_) (fun h30 hC => ?_)
                                                          · have hp := hp.1 h30
                                                            refine g_br (tg := 2149) (by rw [h30]; rfl) ms_622_2149 ?_
                                                            refine g_aload_n rfl (g_aload_n rfl (g_iload rfl (g_iconst mzi_1 (g_iadd ?_))))
                                                            obtain ⟨h217, hp⟩ := hp
                                                            refine g_iald1002 h217 (g_aload_n rfl ?_)
                                                            obtain ⟨h218, hp⟩ := hp
                                                            refine g_s3v (Nat.le_of_ble_eq_true rfl) (fun _ hq => cs_282 (Nat.le_trans (Nat.le_of_ble_eq_true rfl) hd) (hS.le (Nat.le_of_ble_eq_true rfl)) (hR.le (Nat.le_of_ble_eq_true rfl))  (xs (s.1 + 1).toNatClampNeg) s.2.1 s.2.2.2 h218 hq) (g_istore (Nat.le_of_ble_eq_true rfl) rfl (g_aload_n rfl (g_aload_n rfl (g_iload rfl (g_iconst mzi_1 (g_iadd ?_))))))
                                                            obtain ⟨h219, hp⟩ := hp
                                                            refine g_iald1002 h219 ?_
                                                            obtain ⟨h220, hp⟩ := hp
                                                            refine g_v2v (Nat.le_of_ble_eq_true rfl) (mz_at hS (Nat.le_of_ble_eq_true rfl) mzcS_232) (fun _ hq => cs_550 (Nat.le_trans (Nat.le_of_ble_eq_true rfl) hd) (hS.le (Nat.le_of_ble_eq_true rfl)) (hR.le (Nat.le_of_ble_eq_true rfl))  (xs (s.1 + 1).toNatClampNeg) ((cf_282_0 (xs (s.1 + 1).toNatClampNeg) s.2.1 s.2.2.2).2.1) h220 hq) (g_istore (Nat.le_of_ble_eq_true rfl) rfl ?_)
                                                            refine g_weak ?_ (g_cl (cg_622_2174 hd hS hR L xs s.1 ((cf_282_0 (xs (s.1 + 1).toNatClampNeg) s.2.1 s.2.2.2).1) ((cf_550_0 (xs (s.1 + 1).toNatClampNeg) ((cf_282_0 (xs (s.1 + 1).toNatClampNeg) s.2.1 s.2.2.2).2.1)).1) ((cf_550_0 (xs (s.1 + 1).toNatClampNeg) ((cf_282_0 (xs (s.1 + 1).toNatClampNeg) s.2.1 s.2.2.2).2.1)).2) s.2.2.1 ((cf_282_0 (xs (s.1 + 1).toNatClampNeg) s.2.1 s.2.2.2).2.2) hr hc1 hx1 hp hC))
                                                            exact ⟨rfl, rfl, rfl, rfl, rfl, rfl, rfl, trivial⟩
                                                          · have hp := hp.2 h30
                                                            refine mz_cs hC (fun h31 hC => ?_) (fun h31 hC => ?_)
                                                            · have hp := hp.1 h31
                                                              refine g_br (tg := 2212) (by rw [h31]; rfl) ms_622_2212 ?_
                                                              refine g_aload_n rfl (g_aload_n rfl (g_iload rfl (g_iconst mzi_1 (g_iadd ?_))))
                                                              obtain ⟨h214, hp⟩ := hp
                                                              refine g_iald1002 h214 (g_aload_n rfl (g_iload rfl (g_iconst mzi_2 (g_iadd ?_))))
                                                              obtain ⟨h215, hp⟩ := hp
                                                              refine g_iald1002 h215 (g_aload_n rfl ?_)
                                                              obtain ⟨h216, hp⟩ := hp
                                                              refine g_s4v (Nat.le_of_ble_eq_true rfl) (fun _ hq => cs_284 (Nat.le_trans (Nat.le_of_ble_eq_true rfl) hd) (hS.le (Nat.le_of_ble_eq_true rfl)) (hR.le (Nat.le_of_ble_eq_true rfl))  (xs (s.1 + 1).toNatClampNeg) (xs (s.1 + 2).toNatClampNeg) s.2.1 s.2.2.2 h216 hq) (g_istore (Nat.le_of_ble_eq_true rfl) rfl ?_)
                                                              refine g_weak ?_ (g_cl (cg_622_2231 hd hS hR L xs s.1 ((cf_284_0 (xs (s.1 + 1).toNatClampNeg) (xs (s.1 + 2).toNatClampNeg) s.2.1 s.2.2.2).1) ((cf_284_0 (xs (s.1 + 1).toNatClampNeg) (xs (s.1 + 2).toNatClampNeg) s.2.1 s.2.2.2).2.1) s.2.2.1 ((cf_284_0 (xs (s.1 + 1).toNatClampNeg) (xs (s.1 + 2).toNatClampNeg) s.2.1 s.2.2.2).2.2) hr hc1 hx1 hp hC))
                                                              exact ⟨rfl, rfl, rfl, rfl, rfl, rfl, trivial⟩
                                                            · have hp := hp.2 h31
                                                              refine mz_cs hC (fun h32 hC => ?_) (fun h32 hC => ?_)
                                                              · have hp := hp.1 h32
                                                                refine g_br (tg := 2280) (by rw [h32]; rfl) ms_622_2280 ?_
                                                                refine g_aload_n rfl (g_aload_n rfl (g_iload rfl (g_iconst mzi_1 (g_iadd ?_))))
                                                                obtain ⟨h210, hp⟩ := hp
                                                                refine g_iald1002 h210 (g_aload_n rfl ?_)
                                                                obtain ⟨h211, hp⟩ := hp
                                                                refine g_s3v (Nat.le_of_ble_eq_true rfl) (fun _ hq => cs_286 (Nat.le_trans (Nat.le_of_ble_eq_true rfl) hd) (hS.le (Nat.le_of_ble_eq_true rfl)) (hR.le (Nat.le_of_ble_eq_true rfl))  (xs (s.1 + 1).toNatClampNeg) s.2.1 s.2.2.2 h211 hq) (g_istore (Nat.le_of_ble_eq_true rfl) rfl (g_aload_n rfl (g_aload_n rfl (g_iload rfl (g_iconst mzi_1 (g_iadd ?_))))))
                                                                obtain ⟨h212, hp⟩ := hp
                                                                refine g_iald1002 h212 ?_
                                                                obtain ⟨h213, hp⟩ := hp
                                                                refine g_v2v (Nat.le_of_ble_eq_true rfl) (mz_at hS (Nat.le_of_ble_eq_true rfl) mzcS_232) (fun _ hq => cs_552 (Nat.le_trans (Nat.le_of_ble_eq_true rfl) hd) (hS.le (Nat.le_of_ble_eq_true rfl)) (hR.le (Nat.le_of_ble_eq_true rfl))  (xs (s.1 + 1).toNatClampNeg) ((cf_286_0 (xs (s.1 + 1).toNatClampNeg) s.2.1 s.2.2.2).2.1) h213 hq) (g_istore (Nat.le_of_ble_eq_true rfl) rfl ?_)
                                                                refine g_weak ?_ (g_cl (cg_622_2305 hd hS hR L xs s.1 ((cf_286_0 (xs (s.1 + 1).toNatClampNeg) s.2.1 s.2.2.2).1) ((cf_552_0 (xs (s.1 + 1).toNatClampNeg) ((cf_286_0 (xs (s.1 + 1).toNatClampNeg) s.2.1 s.2.2.2).2.1)).1) ((cf_552_0 (xs (s.1 + 1).toNatClampNeg) ((cf_286_0 (xs (s.1 + 1).toNatClampNeg) s.2.1 s.2.2.2).2.1)).2) s.2.2.1 ((cf_286_0 (xs (s.1 + 1).toNatClampNeg) s.2.1 s.2.2.2).2.2) hr hc1 hx1 hp hC))
                                                                exact ⟨rfl, rfl, rfl, rfl, rfl, rfl, rfl, trivial⟩
                                                              · have hp := hp.2 h32
                                                                refine mz_cs hC (fun h33 hC => ?_) (fun h33 hC => ?_)
                                                                · have hp := hp.1 h33
                                                                  refine g_br (tg := 2336) (by rw [h33]; rfl) ms_622_2336 ?_
                                                                  refine g_aload_n rfl (g_aload_n rfl (g_iload rfl (g_iconst mzi_1 (g_iadd ?_))))
                                                                  obtain ⟨h206, hp⟩ := hp
                                                                  refine g_iald1002 h206 (g_aload_n rfl (g_iload rfl (g_iconst mzi_2 (g_iadd ?_))))
                                                                  obtain ⟨h207, hp⟩ := hp
                                                                  refine g_iald1002 h207 (g_aload_n rfl (g_iload rfl (g_iconst mzi_3 (g_iadd ?_))))
                                                                  obtain ⟨h208, hp⟩ := hp
                                                                  refine g_iald1002 h208 (g_aload_n rfl ?_)
                                                                  obtain ⟨h209, hp⟩ := hp
                                                                  refine g_s5v (Nat.le_of_ble_eq_true rfl) (fun _ hq => cs_288 (Nat.le_trans (Nat.le_of_ble_eq_true rfl) hd) (hS.le (Nat.le_of_ble_eq_true rfl)) (hR.le (Nat.le_of_ble_eq_true rfl))  (xs (s.1 + 1).toNatClampNeg) (xs (s.1 + 2).toNatClampNeg) (xs (s.1 + 3).toNatClampNeg) s.2.1 s.2.2.2 h209 hq) (g_istore (Nat.le_of_ble_eq_true rfl) rfl ?_)
                                                                  refine g_weak ?_ (g_cl (cg_622_2361 hd hS hR L xs s.1 ((cf_288_0 (xs (s.1 + 1).toNatClampNeg) (xs (s.1 + 2).toNatClampNeg) (xs (s.1 + 3).toNatClampNeg) s.2.1 s.2.2.2).1) ((cf_288_0 (xs (s.1 + 1).toNatClampNeg) (xs (s.1 + 2).toNatClampNeg) (xs (s.1 + 3).toNatClampNeg) s.2.1 s.2.2.2).2.1) s.2.2.1 ((cf_288_0 (xs (s.1 + 1).toNatClampNeg) (xs (s.1 + 2).toNatClampNeg) (xs (s.1 + 3).toNatClampNeg) s.2.1 s.2.2.2).2.2) hr hc1 hx1 hp hC))
                                                                  exact ⟨rfl, rfl, rfl, rfl, rfl, rfl, trivial⟩
                                                                · have hp := hp.2 h33
                                                                  refine mz_cs hC (fun h34 hC => ?_) (fun h34 hC => ?_)
                                                                  · have hp := hp.1 h34
                                                                    refine g_br (tg := 2415) (by rw [h34]; rfl) ms_622_2415 ?_
                                                                    refine g_aload_n rfl (g_aload_n rfl (g_iload rfl (g_iconst mzi_1 (g_iadd ?_))))
                                                                    obtain ⟨h203, hp⟩ := hp
                                                                    refine g_iald1002 h203 (g_aload_n rfl (g_iload rfl (g_iconst mzi_2 (g_iadd ?_))))
                                                                    obtain ⟨h204, hp⟩ := hp
                                                                    refine g_iald1002 h204 (g_aload_n rfl ?_)
                                                                    obtain ⟨h205, hp⟩ := hp
                                                                    refine g_s4v (Nat.le_of_ble_eq_true rfl) (fun _ hq => cs_290 (Nat.le_trans (Nat.le_of_ble_eq_true rfl) hd) (hS.le (Nat.le_of_ble_eq_true rfl)) (hR.le (Nat.le_of_ble_eq_true rfl))  (xs (s.1 + 1).toNatClampNeg) (xs (s.1 + 2).toNatClampNeg) s.2.1 s.2.2.2 h205 hq) (g_istore (Nat.le_of_ble_eq_true rfl) rfl ?_)
                                                                    refine g_weak ?_ (g_cl (cg_622_2434 hd hS hR L xs s.1 ((cf_290_0 (xs (s.1 + 1).toNatClampNeg) (xs (s.1 + 2).toNatClampNeg) s.2.1 s.2.2.2).1) ((cf_290_0 (xs (s.1 + 1).toNatClampNeg) (xs (s.1 + 2).toNatClampNeg) s.2.1 s.2.2.2).2.1) s.2.2.1 ((cf_290_0 (xs (s.1 + 1).toNatClampNeg) (xs (s.1 + 2).toNatClampNeg) s.2.1 s.2.2.2).2.2) hr hc1 hx1 hp hC))
                                                                    exact ⟨rfl, rfl, rfl, rfl, rfl, rfl, trivial⟩
                                                                  · have hp := hp.2 h34
                                                                    refine mz_cs hC (fun h35 hC => ?_) (fun h35 hC => ?_)
                                                                    · have hp := hp.1 h35
                                                                      refine g_br (tg := 2490) (by rw [h35]; rfl) ms_622_2490 ?_
                                                                      refine g_aload_n rfl (g_aload_n rfl (g_iload rfl (g_iconst mzi_1 (g_iadd ?_))))
                                                                      obtain ⟨h199, hp⟩ := hp
                                                                      refine g_iald1002 h199 (g_aload_n rfl ?_)
                                                                      obtain ⟨h200, hp⟩ := hp
                                                                      refine g_s3v (Nat.le_of_ble_eq_true rfl) (fun _ hq => cs_292 (Nat.le_trans (Nat.le_of_ble_eq_true rfl) hd) (hS.le (Nat.le_of_ble_eq_true rfl)) (hR.le (Nat.le_of_ble_eq_true rfl))  (xs (s.1 + 1).toNatClampNeg) s.2.1 s.2.2.2 h200 hq) (g_istore (Nat.le_of_ble_eq_true rfl) rfl (g_aload_n rfl (g_aload_n rfl (g_iload rfl (g_iconst mzi_1 (g_iadd ?_))))))
                                                                      obtain ⟨h201, hp⟩ := hp
                                                                      refine g_iald1002 h201 ?_
                                                                      obtain ⟨h202, hp⟩ := hp
                                                                      refine g_v2v (Nat.le_of_ble_eq_true rfl) (mz_at hS (Nat.le_of_ble_eq_true rfl) mzcS_232) (fun _ hq => cs_555 (Nat.le_trans (Nat.le_of_ble_eq_true rfl) hd) (hS.le (Nat.le_of_ble_eq_true rfl)) (hR.le (Nat.le_of_ble_eq_true rfl))  (xs (s.1 + 1).toNatClampNeg) ((cf_292_0 (xs (s.1 + 1).toNatClampNeg) s.2.1 s.2.2.2).2.1) h202 hq) (g_istore (Nat.le_of_ble_eq_true rfl) rfl ?_)
                                                                      refine g_weak ?_ (g_cl (cg_622_2515 hd hS hR L xs s.1 ((cf_292_0 (xs (s.1 + 1).toNatClampNeg) s.2.1 s.2.2.2).1) ((cf_555_0 (xs (s.1 + 1).toNatClampNeg) ((cf_292_0 (xs (s.1 + 1).toNatClampNeg) s.2.1 s.2.2.2).2.1)).1) ((cf_555_0 (xs (s.1 + 1).toNatClampNeg) ((cf_292_0 (xs (s.1 + 1).toNatClampNeg) s.2.1 s.2.2.2).2.1)).2) s.2.2.1 ((cf_292_0 (xs (s.1 + 1).toNatClampNeg) s.2.1 s.2.2.2).2.2) hr hc1 hx1 hp hC))
                                                                      exact ⟨rfl, rfl, rfl, rfl, rfl, rfl, rfl, trivial⟩
                                                                    · have hp := hp.2 h35
                                                                      refine mz_cs hC (fun h36 hC => ?_) (fun h36 hC => ?_)
                                                                      · have hp := hp.1 h36
                                                                        refine g_br (tg := 2553) (by rw [h36]; rfl) ms_622_2553 ?_
                                                                        refine g_aload_n rfl (g_aload_n rfl ?_)
                                                                        obtain ⟨h193, hp⟩ := hp
                                                                        refine g_s2v (Nat.le_of_ble_eq_true rfl) (fun _ hq => cs_294 (Nat.le_trans (Nat.le_of_ble_eq_true rfl) hd) (hS.le (Nat.le_of_ble_eq_true rfl)) (hR.le (Nat.le_of_ble_eq_true rfl))  s.2.1 s.2.2.2 h193 hq) (g_istore (Nat.le_of_ble_eq_true rfl) rfl (g_aload_n rfl ?_))
                                                                        obtain ⟨h194, hp⟩ := hp
                                                                        refine g_v1v (Nat.le_of_ble_eq_true rfl) (mz_at hS (Nat.le_of_ble_eq_true rfl) mzcS_232) (fun _ hq => cs_545 (Nat.le_trans (Nat.le_of_ble_eq_true rfl) hd) (hS.le (Nat.le_of_ble_eq_true rfl)) (hR.le (Nat.le_of_ble_eq_true rfl))  ((cf_294_0 s.2.1 s.2.2.2).2.1) h194 hq) (g_istore (Nat.le_of_ble_eq_true rfl) rfl (g_aload_n rfl ?_))
                                                                        refine g_v1v (Nat.le_of_ble_eq_true rfl) (mz_at hS (Nat.le_of_ble_eq_true rfl) mzcS_232) (fun _ hq => cs_459 (Nat.le_trans (Nat.le_of_ble_eq_true rfl) hd) (hS.le (Nat.le_of_ble_eq_true rfl)) (hR.le (Nat.le_of_ble_eq_true rfl))  ((cf_545_0 ((cf_294_0 s.2.1 s.2.2.2).2.1)).2) trivial hq) (g_iload rfl ?_)
                                                                        refine g_iceq (tg := 2577) rfl ms_622_2577 hC (fun h196 hC => ?_) (fun h196 hC => ?_)
                                                                        · have hp := hp.1 h196
                                                                          refine g_iload rfl ?_
                                                                          refine g_ifne (tg := 2594) rfl ms_622_2594 hC (fun h197 hC => ?_) (fun h197 hC => ?_)
                                                                          · have hp := hp.1 h197
                                                                            refine g_aload_n rfl (g_iconst mzi_0 (g_lald (mz_at hS (Nat.le_of_ble_eq_true rfl) mzcS_342) (mz_ibd (by decide)) (g_iload rfl (g_i2l (g_lcmp ?_)))))
                                                                            refine g_leq (tg := 2594) rfl ms_622_2594 hC (fun h198 hC => ?_) (fun h198 hC => ?_)
                                                                            · have hp := hp.1 h198
                                                                              refine g_weak ?_ (g_cl (cg_622_2594 hd hS hR L xs s.1 ((cf_545_0 ((cf_294_0 s.2.1 s.2.2.2).2.1)).2) s.2.2.1 ((cf_294_0 s.2.1 s.2.2.2).2.2) hr hc1 hx1 hp hC))
                                                                              exact ⟨rfl, rfl, rfl, rfl, rfl, trivial⟩
                                                                            · have hp := hp.2 h198
                                                                              refine g_iconst mzi_0 ?_
                                                                              exact g_zret (z := false) rfl (hr _ _ _ _ (hx1 _ hC))
                                                                          · have hp := hp.2 h197
                                                                            refine g_weak ?_ (g_cl (cg_622_2594 hd hS hR L xs s.1 ((cf_545_0 ((cf_294_0 s.2.1 s.2.2.2).2.1)).2) s.2.2.1 ((cf_294_0 s.2.1 s.2.2.2).2.2) hr hc1 hx1 hp hC))
                                                                            exact ⟨rfl, rfl, rfl, rfl, rfl, trivial⟩
                                                                        · have hp := hp.2 h196
                                                                          refine g_iconst mzi_0 ?_
                                                                          exact g_zret (z := false) rfl (hr _ _ _ _ (hx1 _ hC))
                                                                      · have hp := hp.2 h36
                                                                        refine mz_cs hC (fun h37 hC => ?_) (fun h37 hC => ?_)
                                                                        · have hp := hp.1 h37
                                                                          refine g_br (tg := 2597) (by rw [h37]; rfl) ms_622_2597 ?_
                                                                          refine g_aload_n rfl (g_aload_n rfl (g_iload rfl (g_iconst mzi_1 (g_iadd ?_))))
                                                                          obtain ⟨h190, hp⟩ := hp
                                                                          refine g_iald1002 h190 (g_aload_n rfl (g_iload rfl (g_iconst mzi_2 (g_iadd ?_))))
                                                                          obtain ⟨h191, hp⟩ := hp
                                                                          refine g_iald1002 h191 (g_aload_n rfl ?_)
                                                                          obtain ⟨h192, hp⟩ := hp
                                                                          refine g_s4v (Nat.le_of_ble_eq_true rfl) (fun _ hq => cs_296 (Nat.le_trans (Nat.le_of_ble_eq_true rfl) hd) (hS.le (Nat.le_of_ble_eq_true rfl)) (hR.le (Nat.le_of_ble_eq_true rfl))  (xs (s.1 + 1).toNatClampNeg) (xs (s.1 + 2).toNatClampNeg) s.2.1 s.2.2.2 h192 hq) (g_istore (Nat.le_of_ble_eq_true rfl) rfl ?_)
                                                                          refine g_weak ?_ (g_cl (cg_622_2616 hd hS hR L xs s.1 ((cf_296_0 (xs (s.1 + 1).toNatClampNeg) (xs (s.1 + 2).toNatClampNeg) s.2.1 s.2.2.2).1) ((cf_296_0 (xs (s.1 + 1).toNatClampNeg) (xs (s.1 + 2).toNatClampNeg) s.2.1 s.2.2.2).2.1) s.2.2.1 ((cf_296_0 (xs (s.1 + 1).toNatClampNeg) (xs (s.1 + 2).toNatClampNeg) s.2.1 s.2.2.2).2.2) hr hc1 hx1 hp hC))
                                                                          exact ⟨rfl, rfl, rfl, rfl, rfl, rfl, trivial⟩
                                                                        · have hp := hp.2 h37
                                                                          refine mz_cs hC (fun h38 hC => ?_) (fun h38 hC => ?_)
                                                                          · have hp := hp.1 h38
                                                                            refine g_br (tg := 2665) (by rw [h38]; rfl) ms_622_2665 ?_
                                                                            refine g_aload_n rfl (g_aload_n rfl (g_iload rfl (g_iconst mzi_1 (g_iadd ?_))))
                                                                            obtain ⟨h187, hp⟩ := hp
                                                                            refine g_iald1002 h187 (g_aload_n rfl (g_iload rfl (g_iconst mzi_2 (g_iadd ?_))))
                                                                            obtain ⟨h188, hp⟩ := hp
                                                                            refine g_iald1002 h188 (g_aload_n rfl ?_)
                                                                            obtain ⟨h189, hp⟩ := hp
                                                                            refine g_s4v (Nat.le_of_ble_eq_true rfl) (fun _ hq => cs_298 (Nat.le_trans (Nat.le_of_ble_eq_true rfl) hd) (hS.le (Nat.le_of_ble_eq_true rfl)) (hR.le (Nat.le_of_ble_eq_true rfl))  (xs (s.1 + 1).toNatClampNeg) (xs (s.1 + 2).toNatClampNeg) s.2.1 s.2.2.1 s.2.2.2 h189 hq) (g_istore (Nat.le_of_ble_eq_true rfl) rfl ?_)
                                                                            refine g_weak ?_ (g_cl (cg_622_2684 hd hS hR L xs s.1 ((cf_298_0 (xs (s.1 + 1).toNatClampNeg) (xs (s.1 + 2).toNatClampNeg) s.2.1 s.2.2.1 s.2.2.2).1) ((cf_298_0 (xs (s.1 + 1).toNatClampNeg) (xs (s.1 + 2).toNatClampNeg) s.2.1 s.2.2.1 s.2.2.2).2.1) s.2.2.1 ((cf_298_0 (xs (s.1 + 1).toNatClampNeg) (xs (s.1 + 2).toNatClampNeg) s.2.1 s.2.2.1 s.2.2.2).2.2) hr hc1 hx1 hp hC))
                                                                            exact ⟨rfl, rfl, rfl, rfl, rfl, rfl, trivial⟩
                                                                          · have hp := hp.2 h38
                                                                            refine mz_cs hC (fun h39 hC => ?_) (fun h39 hC => ?_)
                                                                            · have hp := hp.1 h39
                                                                              refine g_br (tg := 2733) (by rw [h39]; rfl) ms_622_2733 ?_
                                                                              refine g_aload_n rfl (g_aload_n rfl (g_iload rfl (g_iconst mzi_1 (g_iadd ?_))))
                                                                              obtain ⟨h181, hp⟩ := hp
                                                                              refine g_iald1002 h181 (g_aload_n rfl (g_iload rfl (g_iconst mzi_2 (g_iadd ?_))))
                                                                              obtain ⟨h182, hp⟩ := hp
                                                                              refine g_iald1002 h182 (g_aload_n rfl (g_iload rfl (g_iconst mzi_3 (g_iadd ?_))))
                                                                              obtain ⟨h183, hp⟩ := hp
                                                                              refine g_iald1002 h183 (g_aload_n rfl (g_iload rfl (g_iconst mzi_4 (g_iadd ?_))))
                                                                              obtain ⟨h184, hp⟩ := hp
                                                                              refine g_iald1002 h184 (g_aload_n rfl (g_iload rfl (g_iconst mzi_5 (g_iadd ?_))))
                                                                              obtain ⟨h185, hp⟩ := hp
                                                                              refine g_iald1002 h185 ?_
                                                                              refine g_ifeq (tg := 2771) rfl ms_622_2771 hC (fun h186 hC => ?_) (fun h186 hC => ?_)
                                                                              · have hp := hp.1 h186
                                                                                refine g_iconst mzi_0 ?_
                                                                                refine g_weak ?_ (g_cl (cg_622_2772 hd hS hR L xs (xs (s.1 + 1).toNatClampNeg) (xs (s.1 + 2).toNatClampNeg) (xs (s.1 + 3).toNatClampNeg) (xs (s.1 + 4).toNatClampNeg) false s.1 s.2.1 s.2.2.1 s.2.2.2 hr hc1 hx1 hp hC))
                                                                                exact ⟨rfl, rfl, rfl, rfl, rfl, trivial⟩
                                                                              · have hp := hp.2 h186
                                                                                refine g_iconst mzi_1 (g_goto (tg := 2772) rfl ms_622_2772 ?_)
                                                                                refine g_weak ?_ (g_cl (cg_622_2772 hd hS hR L xs (xs (s.1 + 1).toNatClampNeg) (xs (s.1 + 2).toNatClampNeg) (xs (s.1 + 3).toNatClampNeg) (xs (s.1 + 4).toNatClampNeg) true s.1 s.2.1 s.2.2.1 s.2.2.2 hr hc1 hx1 hp hC))
                                                                                exact ⟨rfl, rfl, rfl, rfl, rfl, trivial⟩
                                                                            · have hp := hp.2 h39
                                                                              refine mz_cs hC (fun h40 hC => ?_) (fun h40 hC => ?_)
                                                                              · have hp := hp.1 h40
                                                                                refine g_br (tg := 2853) (by rw [h40]; rfl) ms_622_2853 ?_
                                                                                refine g_aload_n rfl (g_aload_n rfl (g_iload rfl (g_iconst mzi_1 (g_iadd ?_))))
                                                                                obtain ⟨h178, hp⟩ := hp
                                                                                refine g_iald1002 h178 (g_aload_n rfl (g_iload rfl (g_iconst mzi_2 (g_iadd ?_))))
                                                                                obtain ⟨h179, hp⟩ := hp
                                                                                refine g_iald1002 h179 (g_aload_n rfl ?_)
                                                                                obtain ⟨h180, hp⟩ := hp
                                                                                refine g_s4v (Nat.le_of_ble_eq_true rfl) (fun _ hq => cs_304 (Nat.le_trans (Nat.le_of_ble_eq_true rfl) hd) (hS.le (Nat.le_of_ble_eq_true rfl)) (hR.le (Nat.le_of_ble_eq_true rfl))  (xs (s.1 + 1).toNatClampNeg) (xs (s.1 + 2).toNatClampNeg) s.2.1 s.2.2.2 h180 hq) (g_istore (Nat.le_of_ble_eq_true rfl) rfl ?_)
                                                                                refine g_weak ?_ (g_cl (cg_622_2872 hd hS hR L xs s.1 ((cf_304_0 (xs (s.1 + 1).toNatClampNeg) (xs (s.1 + 2).toNatClampNeg) s.2.1 s.2.2.2).1) ((cf_304_0 (xs (s.1 + 1).toNatClampNeg) (xs (s.1 + 2).toNatClampNeg) s.2.1 s.2.2.2).2.1) s.2.2.1 ((cf_304_0 (xs (s.1 + 1).toNatClampNeg) (xs (s.1 + 2).toNatClampNeg) s.2.1 s.2.2.2).2.2) hr hc1 hx1 hp hC))
                                                                                exact ⟨rfl, rfl, rfl, rfl, rfl, rfl, trivial⟩
                                                                              · have hp := hp.2 h40
                                                                                refine mz_cs hC (fun h41 hC => ?_) (fun h41 hC => ?_)
                                                                                · have hp := hp.1 h41
                                                                                  refine g_br (tg := 2921) (by rw [h41]; rfl) ms_622_2921 ?_
                                                                                  refine g_aload_n rfl (g_aload_n rfl (g_iload rfl (g_iconst mzi_1 (g_iadd ?_))))
                                                                                  obtain ⟨h174, hp⟩ := hp
                                                                                  refine g_iald1002 h174 (g_aload_n rfl ?_)
                                                                                  obtain ⟨h175, hp⟩ := hp
                                                                                  refine g_s3v (Nat.le_of_ble_eq_true rfl) (fun _ hq => cs_315 (Nat.le_trans (Nat.le_of_ble_eq_true rfl) hd) (hS.le (Nat.le_of_ble_eq_true rfl)) (hR.le (Nat.le_of_ble_eq_true rfl))  (xs (s.1 + 1).toNatClampNeg) s.2.1 s.2.2.2 h175 hq) (g_istore (Nat.le_of_ble_eq_true rfl) rfl (g_aload_n rfl (g_aload_n rfl (g_iload rfl (g_iconst mzi_1 (g_iadd ?_))))))
                                                                                  obtain ⟨h176, hp⟩ := hp
                                                                                  refine g_iald1002 h176 ?_
                                                                                  obtain ⟨h177, hp⟩ := hp
                                                                                  refine g_v2v (Nat.le_of_ble_eq_true rfl) (mz_at hS (Nat.le_of_ble_eq_true rfl) mzcS_232) (fun _ hq => cs_583 (Nat.le_trans (Nat.le_of_ble_eq_true rfl) hd) (hS.le (Nat.le_of_ble_eq_true rfl)) (hR.le (Nat.le_of_ble_eq_true rfl))  (xs (s.1 + 1).toNatClampNeg) ((cf_315_0 (xs (s.1 + 1).toNatClampNeg) s.2.1 s.2.2.2).2.1) h177 hq) (g_istore (Nat.le_of_ble_eq_true rfl) rfl ?_)
                                                                                  refine g_weak ?_ (g_cl (cg_622_2946 hd hS hR L xs s.1 ((cf_315_0 (xs (s.1 + 1).toNatClampNeg) s.2.1 s.2.2.2).1) ((cf_583_0 (xs (s.1 + 1).toNatClampNeg) ((cf_315_0 (xs (s.1 + 1).toNatClampNeg) s.2.1 s.2.2.2).2.1)).1) ((cf_583_0 (xs (s.1 + 1).toNatClampNeg) ((cf_315_0 (xs (s.1 + 1).toNatClampNeg) s.2.1 s.2.2.2).2.1)).2) s.2.2.1 ((cf_315_0 (xs (s.1 + 1).toNatClampNeg) s.2.1 s.2.2.2).2.2) hr hc1 hx1 hp hC))
                                                                                  exact ⟨rfl, rfl, rfl, rfl, rfl, rfl, rfl, trivial⟩
                                                                                · have hp := hp.2 h41
                                                                                  refine mz_cs hC (fun h42 hC => ?_) (fun h42 hC => ?_)
                                                                                  · have hp := hp.1 h42
                                                                                    refine g_br (tg := 2977) (by rw [h42]; rfl) ms_622_2977 ?_
                                                                                    refine g_aload_n rfl (g_aload_n rfl (g_iload rfl (g_iconst mzi_1 (g_iadd ?_))))
                                                                                    obtain ⟨h170, hp⟩ := hp
                                                                                    refine g_iald1002 h170 (g_aload_n rfl ?_)
                                                                                    obtain ⟨h171, hp⟩ := hp
                                                                                    refine g_s3v (Nat.le_of_ble_eq_true rfl) (fun _ hq => cs_317 (Nat.le_trans (Nat.le_of_ble_eq_true rfl) hd) (hS.le (Nat.le_of_ble_eq_true rfl)) (hR.le (Nat.le_of_ble_eq_true rfl))  (xs (s.1 + 1).toNatClampNeg) s.2.1 s.2.2.2 h171 hq) (g_istore (Nat.le_of_ble_eq_true rfl) rfl (g_aload_n rfl (g_aload_n rfl (g_iload rfl (g_iconst mzi_1 (g_iadd ?_))))))
                                                                                    obtain ⟨h172, hp⟩ := hp
                                                                                    refine g_iald1002 h172 ?_
                                                                                    obtain ⟨h173, hp⟩ := hp
                                                                                    refine g_v2v (Nat.le_of_ble_eq_true rfl) (mz_at hS (Nat.le_of_ble_eq_true rfl) mzcS_232) (fun _ hq => cs_584 (Nat.le_trans (Nat.le_of_ble_eq_true rfl) hd) (hS.le (Nat.le_of_ble_eq_true rfl)) (hR.le (Nat.le_of_ble_eq_true rfl))  (xs (s.1 + 1).toNatClampNeg) ((cf_317_0 (xs (s.1 + 1).toNatClampNeg) s.2.1 s.2.2.2).2.1) h173 hq) (g_istore (Nat.le_of_ble_eq_true rfl) rfl ?_)
                                                                                    refine g_weak ?_ (g_cl (cg_622_3002 hd hS hR L xs s.1 ((cf_317_0 (xs (s.1 + 1).toNatClampNeg) s.2.1 s.2.2.2).1) ((cf_584_0 (xs (s.1 + 1).toNatClampNeg) ((cf_317_0 (xs (s.1 + 1).toNatClampNeg) s.2.1 s.2.2.2).2.1)).1) ((cf_584_0 (xs (s.1 + 1).toNatClampNeg) ((cf_317_0 (xs (s.1 + 1).toNatClampNeg) s.2.1 s.2.2.2).2.1)).2) s.2.2.1 ((cf_317_0 (xs (s.1 + 1).toNatClampNeg) s.2.1 s.2.2.2).2.2) hr hc1 hx1 hp hC))
                                                                                    exact ⟨rfl, rfl, rfl, rfl, rfl, rfl, rfl, trivial⟩
                                                                                  · have hp := hp.2 h42
                                                                                    refine mz_cs hC (fun h43 hC => ?_) (fun h43 hC => ?_)
                                                                                    · have hp := hp.1 h43
                                                                                      refine g_br (tg := 3033) (by rw [h43]; rfl) ms_622_3033 ?_
                                                                                      refine g_aload_n rfl (g_aload_n rfl (g_iload rfl (g_iconst mzi_1 (g_iadd ?_))))
                                                                                      obtain ⟨h167, hp⟩ := hp
                                                                                      refine g_iald1002 h167 (g_aload_n rfl (g_iload rfl (g_iconst mzi_2 (g_iadd ?_))))
                                                                                      obtain ⟨h168, hp⟩ := hp
                                                                                      refine g_iald1002 h168 (g_aload_n rfl ?_)
                                                                                      obtain ⟨h169, hp⟩ := hp
                                                                                      refine g_s4v (Nat.le_of_ble_eq_true rfl) (fun _ hq => cs_320 (Nat.le_trans (Nat.le_of_ble_eq_true rfl) hd) (hS.le (Nat.le_of_ble_eq_true rfl)) (hR.le (Nat.le_of_ble_eq_true rfl))  (xs (s.1 + 1).toNatClampNeg) (xs (s.1 + 2).toNatClampNeg) s.2.1 s.2.2.2 h169 hq) (g_istore (Nat.le_of_ble_eq_true rfl) rfl ?_)
                                                                                      refine g_weak ?_ (g_cl (cg_622_3052 hd hS hR L xs s.1 ((cf_320_0 (xs (s.1 + 1).toNatClampNeg) (xs (s.1 + 2).toNatClampNeg) s.2.1 s.2.2.2).1) ((cf_320_0 (xs (s.1 + 1).toNatClampNeg) (xs (s.1 + 2).toNatClampNeg) s.2.1 s.2.2.2).2.1) s.2.2.1 ((cf_320_0 (xs (s.1 + 1).toNatClampNeg) (xs (s.1 + 2).toNatClampNeg) s.2.1 s.2.2.2).2.2) hr hc1 hx1 hp hC))
                                                                                      exact ⟨rfl, rfl, rfl, rfl, rfl, rfl, trivial⟩
                                                                                    · have hp := hp.2 h43
                                                                                      refine mz_cs hC (fun h44 hC => ?_) (fun h44 hC => ?_)
                                                                                      · have hp := hp.1 h44
                                                                                        refine g_br (tg := 3101) (by rw [h44]; rfl) ms_622_3101 ?_
                                                                                        refine g_aload_n rfl (g_aload_n rfl (g_iload rfl (g_iconst mzi_1 (g_iadd ?_))))
                                                                                        obtain ⟨h163, hp⟩ := hp
                                                                                        refine g_iald1002 h163 (g_aload_n rfl (g_iload rfl (g_iconst mzi_2 (g_iadd ?_))))
                                                                                        obtain ⟨h164, hp⟩ := hp
                                                                                        refine g_iald1002 h164 (g_aload_n rfl (g_iload rfl (g_iconst mzi_3 (g_iadd ?_))))
                                                                                        obtain ⟨h165, hp⟩ := hp
                                                                                        refine g_iald1002 h165 (g_aload_n rfl ?_)
                                                                                        obtain ⟨h166, hp⟩ := hp
                                                                                        refine g_s5v (Nat.le_of_ble_eq_true rfl) (fun _ hq => cs_322 (Nat.le_trans (Nat.le_of_ble_eq_true rfl) hd) (hS.le (Nat.le_of_ble_eq_true rfl)) (hR.le (Nat.le_of_ble_eq_true rfl))  (xs (s.1 + 1).toNatClampNeg) (xs (s.1 + 2).toNatClampNeg) (xs (s.1 + 3).toNatClampNeg) s.2.1 s.2.2.1 s.2.2.2 h166 hq) (g_istore (Nat.le_of_ble_eq_true rfl) rfl ?_)
                                                                                        refine g_weak ?_ (g_cl (cg_622_3126 hd hS hR L xs s.1 ((cf_322_0 (xs (s.1 + 1).toNatClampNeg) (xs (s.1 + 2).toNatClampNeg) (xs (s.1 + 3).toNatClampNeg) s.2.1 s.2.2.1 s.2.2.2).1) ((cf_322_0 (xs (s.1 + 1).toNatClampNeg) (xs (s.1 + 2).toNatClampNeg) (xs (s.1 + 3).toNatClampNeg) s.2.1 s.2.2.1 s.2.2.2).2.1) s.2.2.1 ((cf_322_0 (xs (s.1 + 1).toNatClampNeg) (xs (s.1 + 2).toNatClampNeg) (xs (s.1 + 3).toNatClampNeg) s.2.1 s.2.2.1 s.2.2.2).2.2) hr hc1 hx1 hp hC))
                                                                                        exact ⟨rfl, rfl, rfl, rfl, rfl, rfl, trivial⟩
                                                                                      · have hp := hp.2 h44
                                                                                        refine mz_cs hC (fun h45 hC => ?_) (fun h45 hC => ?_)
                                                                                        · have hp := hp.1 h45
                                                                                          refine g_br (tg := 3181) (by rw [h45]; rfl) ms_622_3181 ?_
                                                                                          refine g_aload_n rfl (g_aload_n rfl (g_iload rfl (g_iconst mzi_1 (g_iadd ?_))))
                                                                                          obtain ⟨h160, hp⟩ := hp
                                                                                          refine g_iald1002 h160 (g_aload_n rfl (g_iload rfl (g_iconst mzi_2 (g_iadd ?_))))
                                                                                          obtain ⟨h161, hp⟩ := hp
                                                                                          refine g_iald1002 h161 (g_aload_n rfl ?_)
                                                                                          obtain ⟨h162, hp⟩ := hp
                                                                                          refine g_s4v (Nat.le_of_ble_eq_true rfl) (fun _ hq => cs_325 (Nat.le_trans (Nat.le_of_ble_eq_true rfl) hd) (hS.le (Nat.le_of_ble_eq_true rfl)) (hR.le (Nat.le_of_ble_eq_true rfl))  (xs (s.1 + 1).toNatClampNeg) (xs (s.1 + 2).toNatClampNeg) s.2.1 s.2.2.2 h162 hq) (g_istore (Nat.le_of_ble_eq_true rfl) rfl ?_)
                                                                                          refine g_weak ?_ (g_cl (cg_622_3200 hd hS hR L xs s.1 ((cf_325_0 (xs (s.1 + 1).toNatClampNeg) (xs (s.1 + 2).toNatClampNeg) s.2.1 s.2.2.2).1) ((cf_325_0 (xs (s.1 + 1).toNatClampNeg) (xs (s.1 + 2).toNatClampNeg) s.2.1 s.2.2.2).2.1) s.2.2.1 ((cf_325_0 (xs (s.1 + 1).toNatClampNeg) (xs (s.1 + 2).toNatClampNeg) s.2.1 s.2.2.2).2.2) hr hc1 hx1 hp hC))
                                                                                          exact ⟨rfl, rfl, rfl, rfl, rfl, rfl, trivial⟩
                                                                                        · have hp := hp.2 h45
                                                                                          refine mz_cs hC (fun h46 hC => ?_) (fun h46 hC => ?_)
                                                                                          · have hp := hp.1 h46
                                                                                            refine g_br (tg := 3248) (by rw [h46]; rfl) ms_622_3248 ?_
                                                                                            refine g_aload_n rfl (g_aload_n rfl (g_iload rfl (g_iconst mzi_1 (g_iadd ?_))))
                                                                                            obtain ⟨h157, hp⟩ := hp
                                                                                            refine g_iald1002 h157 (g_aload_n rfl (g_iload rfl (g_iconst mzi_2 (g_iadd ?_))))
                                                                                            obtain ⟨h158, hp⟩ := hp
                                                                                            refine g_iald1002 h158 (g_aload_n rfl ?_)
                                                                                            obtain ⟨h159, hp⟩ := hp
                                                                                            refine g_s4v (Nat.le_of_ble_eq_true rfl) (fun _ hq => cs_327 (Nat.le_trans (Nat.le_of_ble_eq_true rfl) hd) (hS.le (Nat.le_of_ble_eq_true rfl)) (hR.le (Nat.le_of_ble_eq_true rfl))  (xs (s.1 + 1).toNatClampNeg) (xs (s.1 + 2).toNatClampNeg) s.2.1 s.2.2.1 s.2.2.2 h159 hq) (g_istore (Nat.le_of_ble_eq_true rfl) rfl ?_)
                                                                                            refine g_weak ?_ (g_cl (cg_622_3267 hd hS hR L xs s.1 ((cf_327_0 (xs (s.1 + 1).toNatClampNeg) (xs (s.1 + 2).toNatClampNeg) s.2.1 s.2.2.1 s.2.2.2).1) ((cf_327_0 (xs (s.1 + 1).toNatClampNeg) (xs (s.1 + 2).toNatClampNeg) s.2.1 s.2.2.1 s.2.2.2).2.1) s.2.2.1 ((cf_327_0 (xs (s.1 + 1).toNatClampNeg) (xs (s.1 + 2).toNatClampNeg) s.2.1 s.2.2.1 s.2.2.2).2.2) hr hc1 hx1 hp hC))
                                                                                            exact ⟨rfl, rfl, rfl, rfl, rfl, rfl, trivial⟩
                                                                                          · have hp := hp.2 h46
                                                                                            refine mz_cs hC (fun h47 hC => ?_) (fun h47 hC => ?_)
                                                                                            · have hp := hp.1 h47
                                                                                              refine g_br (tg := 3316) (by rw [h47]; rfl) ms_622_3316 ?_
                                                                                              refine g_aload_n rfl (g_aload_n rfl ?_)
                                                                                              obtain ⟨h151, hp⟩ := hp
                                                                                              refine g_s2v (Nat.le_of_ble_eq_true rfl) (fun _ hq => cs_329 (Nat.le_trans (Nat.le_of_ble_eq_true rfl) hd) (hS.le (Nat.le_of_ble_eq_true rfl)) (hR.le (Nat.le_of_ble_eq_true rfl))  s.2.1 s.2.2.2 h151 hq) (g_istore (Nat.le_of_ble_eq_true rfl) rfl (g_aload_n rfl ?_))
                                                                                              obtain ⟨h152, hp⟩ := hp
                                                                                              refine g_v1v (Nat.le_of_ble_eq_true rfl) (mz_at hS (Nat.le_of_ble_eq_true rfl) mzcS_232) (fun _ hq => cs_561 (Nat.le_trans (Nat.le_of_ble_eq_true rfl) hd) (hS.le (Nat.le_of_ble_eq_true rfl)) (hR.le (Nat.le_of_ble_eq_true rfl))  ((cf_329_0 s.2.1 s.2.2.2).2.1) h152 hq) (g_istore (Nat.le_of_ble_eq_true rfl) rfl (g_aload_n rfl ?_))
                                                                                              refine g_v1v (Nat.le_of_ble_eq_true rfl) (mz_at hS (Nat.le_of_ble_eq_true rfl) mzcS_232) (fun _ hq => cs_459 (Nat.le_trans (Nat.le_of_ble_eq_true rfl) hd) (hS.le (Nat.le_of_ble_eq_true rfl)) (hR.le (Nat.le_of_ble_eq_true rfl))  ((cf_561_0 ((cf_329_0 s.2.1 s.2.2.2).2.1)).2) trivial hq) (g_iload rfl ?_)
                                                                                              refine g_iceq (tg := 3340) rfl ms_622_3340 hC (fun h154 hC => ?_) (fun h154 hC => ?_)
                                                                                              · have hp := hp.1 h154
                                                                                                refine g_iload rfl ?_
                                                                                                refine g_ifne (tg := 3357) rfl ms_622_3357 hC (fun h155 hC => ?_) (fun h155 hC => ?_)
                                                                                                · have hp := hp.1 h155
                                                                                                  refine g_aload_n rfl (g_iconst mzi_0 (g_lald (mz_at hS (Nat.le_of_ble_eq_true rfl) mzcS_342) (mz_ibd (by decide)) (g_iload rfl (g_i2l (g_lcmp ?_)))))
                                                                                                  refine g_leq (tg := 3357) rfl ms_622_3357 hC (fun h156 hC => ?_) (fun h156 hC => ?_)
                                                                                                  · have hp := hp.1 h156
                                                                                                    refine g_weak ?_ (g_cl (cg_622_3357 hd hS hR L xs s.1 ((cf_561_0 ((cf_329_0 s.2.1 s.2.2.2).2.1)).2) s.2.2.1 ((cf_329_0 s.2.1 s.2.2.2).2.2) hr hc1 hx1 hp hC))
                                                                                                    exact ⟨rfl, rfl, rfl, rfl, rfl, trivial⟩
                                                                                                  · have hp := hp.2 h156
                                                                                                    refine g_iconst mzi_0 ?_
                                                                                                    exact g_zret (z := false) rfl (hr _ _ _ _ (hx1 _ hC))
                                                                                                · have hp := hp.2 h155
                                                                                                  refine g_weak ?_ (g_cl (cg_622_3357 hd hS hR L xs s.1 ((cf_561_0 ((cf_329_0 s.2.1 s.2.2.2).2.1)).2) s.2.2.1 ((cf_329_0 s.2.1 s.2.2.2).2.2) hr hc1 hx1 hp hC))
                                                                                                  exact ⟨rfl, rfl, rfl, rfl, rfl, trivial⟩
                                                                                              · have hp := hp.2 h154
                                                                                                refine g_iconst mzi_0 ?_
                                                                                                exact g_zret (z := false) rfl (hr _ _ _ _ (hx1 _ hC))
                                                                                            · have hp := hp.2 h47
                                                                                              refine mz_cs hC (fun h48 hC => ?_) (fun h48 hC => ?_)
                                                                                              · have hp := hp.1 h48
                                                                                                refine g_br (tg := 3360) (by rw [h48]; rfl) ms_622_3360 ?_
                                                                                                refine g_aload_n rfl (g_aload_n rfl (g_iload rfl (g_iconst mzi_1 (g_iadd ?_))))
                                                                                                obtain ⟨h148, hp⟩ := hp
                                                                                                refine g_iald1002 h148 (g_aload_n rfl (g_iload rfl (g_iconst mzi_2 (g_iadd ?_))))
                                                                                                obtain ⟨h149, hp⟩ := hp
                                                                                                refine g_iald1002 h149 (g_aload_n rfl ?_)
                                                                                                obtain ⟨h150, hp⟩ := hp
                                                                                                refine g_s4v (Nat.le_of_ble_eq_true rfl) (fun _ hq => cs_332 (Nat.le_trans (Nat.le_of_ble_eq_true rfl) hd) (hS.le (Nat.le_of_ble_eq_true rfl)) (hR.le (Nat.le_of_ble_eq_true rfl))  (xs (s.1 + 1).toNatClampNeg) (xs (s.1 + 2).toNatClampNeg) s.2.1 s.2.2.2 h150 hq) (g_istore (Nat.le_of_ble_eq_true rfl) rfl ?_)
                                                                                                refine g_weak ?_ (g_cl (cg_622_3379 hd hS hR L xs s.1 ((cf_332_0 (xs (s.1 + 1).toNatClampNeg) (xs (s.1 + 2).toNatClampNeg) s.2.1 s.2.2.2).1) ((cf_332_0 (xs (s.1 + 1).toNatClampNeg) (xs (s.1 + 2).toNatClampNeg) s.2.1 s.2.2.2).2.1) s.2.2.1 ((cf_332_0 (xs (s.1 + 1).toNatClampNeg) (xs (s.1 + 2).toNatClampNeg) s.2.1 s.2.2.2).2.2) hr hc1 hx1 hp hC))
                                                                                                exact ⟨rfl, rfl, rfl, rfl, rfl, rfl, trivial⟩
                                                                                              · have hp := hp.2 h48
                                                                                                refine mz_cs hC (fun h49 hC => ?_) (fun h49 hC => ?_)
                                                                                                · have hp := hp.1 h49
                                                                                                  refine g_br (tg := 3428) (by rw [h49]; rfl) ms_622_3428 ?_
                                                                                                  refine g_aload_n rfl (g_aload_n rfl (g_iload rfl (g_iconst mzi_1 (g_iadd ?_))))
                                                                                                  obtain ⟨h144, hp⟩ := hp
                                                                                                  refine g_iald1002 h144 (g_aload_n rfl ?_)
                                                                                                  obtain ⟨h145, hp⟩ := hp
                                                                                                  refine g_s3v (Nat.le_of_ble_eq_true rfl) (fun _ hq => cs_336 (Nat.le_trans (Nat.le_of_ble_eq_true rfl) hd) (hS.le (Nat.le_of_ble_eq_true rfl)) (hR.le (Nat.le_of_ble_eq_true rfl))  (xs (s.1 + 1).toNatClampNeg) s.2.1 s.2.2.2 h145 hq) (g_istore (Nat.le_of_ble_eq_true rfl) rfl (g_aload_n rfl (g_aload_n rfl (g_iload rfl (g_iconst mzi_1 (g_iadd ?_))))))
                                                                                                  obtain ⟨h146, hp⟩ := hp
                                                                                                  refine g_iald1002 h146 ?_
                                                                                                  obtain ⟨h147, hp⟩ := hp
                                                                                                  refine g_v2v (Nat.le_of_ble_eq_true rfl) (mz_at hS (Nat.le_of_ble_eq_true rfl) mzcS_232) (fun _ hq => cs_565 (Nat.le_trans (Nat.le_of_ble_eq_true rfl) hd) (hS.le (Nat.le_of_ble_eq_true rfl)) (hR.le (Nat.le_of_ble_eq_true rfl))  (xs (s.1 + 1).toNatClampNeg) ((cf_336_0 (xs (s.1 + 1).toNatClampNeg) s.2.1 s.2.2.2).2.1) h147 hq) (g_istore (Nat.le_of_ble_eq_true rfl) rfl ?_)
                                                                                                  refine g_weak ?_ (g_cl (cg_622_3453 hd hS hR L xs s.1 ((cf_336_0 (xs (s.1 + 1).toNatClampNeg) s.2.1 s.2.2.2).1) ((cf_565_0 (xs (s.1 + 1).toNatClampNeg) ((cf_336_0 (xs (s.1 + 1).toNatClampNeg) s.2.1 s.2.2.2).2.1)).1) ((cf_565_0 (xs (s.1 + 1).toNatClampNeg) ((cf_336_0 (xs (s.1 + 1).toNatClampNeg) s.2.1 s.2.2.2).2.1)).2) s.2.2.1 ((cf_336_0 (xs (s.1 + 1).toNatClampNeg) s.2.1 s.2.2.2).2.2) hr hc1 hx1 hp hC))
                                                                                                  exact ⟨rfl, rfl, rfl, rfl, rfl, rfl, rfl, trivial⟩
                                                                                                · have hp := hp.2 h49
                                                                                                  refine mz_cs hC (fun h50 hC => ?_) (fun h50 hC => ?_)
                                                                                                  · have hp := hp.1 h50
                                                                                                    refine g_br (tg := 3484) (by rw [h50]; rfl) ms_622_3484 ?_
                                                                                                    refine g_aload_n rfl (g_aload_n rfl (g_iload rfl (g_iconst mzi_1 (g_iadd ?_))))
                                                                                                    obtain ⟨h141, hp⟩ := hp
                                                                                                    refine g_iald1002 h141 (g_aload_n rfl (g_iload rfl (g_iconst mzi_2 (g_iadd ?_))))
                                                                                                    obtain ⟨h142, hp⟩ := hp
                                                                                                    refine g_iald1002 h142 (g_aload_n rfl ?_)
                                                                                                    obtain ⟨h143, hp⟩ := hp
                                                                                                    refine g_s4v (Nat.le_of_ble_eq_true rfl) (fun _ hq => cs_347 (Nat.le_trans (Nat.le_of_ble_eq_true rfl) hd) (hS.le (Nat.le_of_ble_eq_true rfl)) (hR.le (Nat.le_of_ble_eq_true rfl))  (xs (s.1 + 1).toNatClampNeg) (xs (s.1 + 2).toNatClampNeg) s.2.1 s.2.2.2 h143 hq) (g_istore (Nat.le_of_ble_eq_true rfl) rfl ?_)
                                                                                                    refine g_weak ?_ (g_cl (cg_622_3503 hd hS hR L xs s.1 ((cf_347_0 (xs (s.1 + 1).toNatClampNeg) (xs (s.1 + 2).toNatClampNeg) s.2.1 s.2.2.2).1) ((cf_347_0 (xs (s.1 + 1).toNatClampNeg) (xs (s.1 + 2).toNatClampNeg) s.2.1 s.2.2.2).2.1) s.2.2.1 ((cf_347_0 (xs (s.1 + 1).toNatClampNeg) (xs (s.1 + 2).toNatClampNeg) s.2.1 s.2.2.2).2.2) hr hc1 hx1 hp hC))
                                                                                                    exact ⟨rfl, rfl, rfl, rfl, rfl, rfl, trivial⟩
                                                                                                  · have hp := hp.2 h50
                                                                                                    refine mz_cs hC (fun h51 hC => ?_) (fun h51 hC => ?_)
                                                                                                    · have hp := hp.1 h51
                                                                                                      refine g_br (tg := 3552) (by rw [h51]; rfl) ms_622_3552 ?_
                                                                                                      refine g_aload_n rfl (g_aload_n rfl (g_iload rfl (g_iconst mzi_1 (g_iadd ?_))))
                                                                                                      obtain ⟨h138, hp⟩ := hp
                                                                                                      refine g_iald1002 h138 (g_aload_n rfl (g_iload rfl (g_iconst mzi_2 (g_iadd ?_))))
                                                                                                      obtain ⟨h139, hp⟩ := hp
                                                                                                      refine g_iald1002 h139 (g_aload_n rfl ?_)
                                                                                                      obtain ⟨h140, hp⟩ := hp
                                                                                                      refine g_s4v (Nat.le_of_ble_eq_true rfl) (fun _ hq => cs_350 (Nat.le_trans (Nat.le_of_ble_eq_true rfl) hd) (hS.le (Nat.le_of_ble_eq_true rfl)) (hR.le (Nat.le_of_ble_eq_true rfl))  (xs (s.1 + 1).toNatClampNeg) (xs (s.1 + 2).toNatClampNeg) s.2.1 s.2.2.2 h140 hq) (g_istore (Nat.le_of_ble_eq_true rfl) rfl ?_)
                                                                                                      refine g_weak ?_ (g_cl (cg_622_3571 hd hS hR L xs s.1 ((cf_350_0 (xs (s.1 + 1).toNatClampNeg) (xs (s.1 + 2).toNatClampNeg) s.2.1 s.2.2.2).1) ((cf_350_0 (xs (s.1 + 1).toNatClampNeg) (xs (s.1 + 2).toNatClampNeg) s.2.1 s.2.2.2).2.1) s.2.2.1 ((cf_350_0 (xs (s.1 + 1).toNatClampNeg) (xs (s.1 + 2).toNatClampNeg) s.2.1 s.2.2.2).2.2) hr hc1 hx1 hp hC))
                                                                                                      exact ⟨rfl, rfl, rfl, rfl, rfl, rfl, trivial⟩
                                                                                                    · have hp := hp.2 h51
                                                                                                      refine mz_cs hC (fun h52 hC => ?_) (fun h52 hC => ?_)
                                                                                                      · have hp := hp.1 h52
                                                                                                        refine g_br (tg := 3620) (by rw [h52]; rfl) ms_622_3620 ?_
                                                                                                        refine g_aload_n rfl (g_aload_n rfl (g_iload rfl (g_iconst mzi_1 (g_iadd ?_))))
                                                                                                        obtain ⟨h135, hp⟩ := hp
                                                                                                        refine g_iald1002 h135 (g_aload_n rfl (g_iload rfl (g_iconst mzi_2 (g_iadd ?_))))
                                                                                                        obtain ⟨h136, hp⟩ := hp
                                                                                                        refine g_iald1002 h136 (g_aload_n rfl ?_)
                                                                                                        obtain ⟨h137, hp⟩ := hp
                                                                                                        refine g_s4v (Nat.le_of_ble_eq_true rfl) (fun _ hq => cs_353 (Nat.le_trans (Nat.le_of_ble_eq_true rfl) hd) (hS.le (Nat.le_of_ble_eq_true rfl)) (hR.le (Nat.le_of_ble_eq_true rfl))  (xs (s.1 + 1).toNatClampNeg) (xs (s.1 + 2).toNatClampNeg) s.2.1 s.2.2.2 h137 hq) (g_istore (Nat.le_of_ble_eq_true rfl) rfl ?_)
                                                                                                        refine g_weak ?_ (g_cl (cg_622_3639 hd hS hR L xs s.1 ((cf_353_0 (xs (s.1 + 1).toNatClampNeg) (xs (s.1 + 2).toNatClampNeg) s.2.1 s.2.2.2).1) ((cf_353_0 (xs (s.1 + 1).toNatClampNeg) (xs (s.1 + 2).toNatClampNeg) s.2.1 s.2.2.2).2.1) s.2.2.1 ((cf_353_0 (xs (s.1 + 1).toNatClampNeg) (xs (s.1 + 2).toNatClampNeg) s.2.1 s.2.2.2).2.2) hr hc1 hx1 hp hC))
                                                                                                        exact ⟨rfl, rfl, rfl, rfl, rfl, rfl, trivial⟩
                                                                                                      · have hp := hp.2 h52
                                                                                                        refine mz_cs hC (fun h53 hC => ?_) (fun h53 hC => ?_)
                                                                                                        · have hp := hp.1 h53
                                                                                                          refine g_br (tg := 3688) (by rw [h53]; rfl) ms_622_3688 ?_
                                                                                                          refine g_aload_n rfl (g_aload_n rfl (g_iload rfl (g_iconst mzi_1 (g_iadd ?_))))
                                                                                                          obtain ⟨h132, hp⟩ := hp
                                                                                                          refine g_iald1002 h132 (g_aload_n rfl (g_iload rfl (g_iconst mzi_2 (g_iadd ?_))))
                                                                                                          obtain ⟨h133, hp⟩ := hp
                                                                                                          refine g_iald1002 h133 (g_aload_n rfl ?_)
                                                                                                          obtain ⟨h134, hp⟩ := hp
                                                                                                          refine g_s4v (Nat.le_of_ble_eq_true rfl) (fun _ hq => cs_355 (Nat.le_trans (Nat.le_of_ble_eq_true rfl) hd) (hS.le (Nat.le_of_ble_eq_true rfl)) (hR.le (Nat.le_of_ble_eq_true rfl))  (xs (s.1 + 1).toNatClampNeg) (xs (s.1 + 2).toNatClampNeg) s.2.1 s.2.2.2 h134 hq) (g_istore (Nat.le_of_ble_eq_true rfl) rfl ?_)
                                                                                                          refine g_weak ?_ (g_cl (cg_622_3707 hd hS hR L xs s.1 ((cf_355_0 (xs (s.1 + 1).toNatClampNeg) (xs (s.1 + 2).toNatClampNeg) s.2.1 s.2.2.2).1) ((cf_355_0 (xs (s.1 + 1).toNatClampNeg) (xs (s.1 + 2).toNatClampNeg) s.2.1 s.2.2.2).2.1) s.2.2.1 ((cf_355_0 (xs (s.1 + 1).toNatClampNeg) (xs (s.1 + 2).toNatClampNeg) s.2.1 s.2.2.2).2.2) hr hc1 hx1 hp hC))
                                                                                                          exact ⟨rfl, rfl, rfl, rfl, rfl, rfl, trivial⟩
                                                                                                        · have hp := hp.2 h53
                                                                                                          refine mz_cs hC (fun h54 hC => ?_) (fun h54 hC => ?_)
                                                                                                          · have hp := hp.1 h54
                                                                                                            refine g_br (tg := 3756) (by rw [h54]; rfl) ms_622_3756 ?_
                                                                                                            refine g_aload_n rfl (g_aload_n rfl (g_iload rfl (g_iconst mzi_1 (g_iadd ?_))))
                                                                                                            obtain ⟨h129, hp⟩ := hp
                                                                                                            refine g_iald1002 h129 (g_aload_n rfl (g_iload rfl (g_iconst mzi_2 (g_iadd ?_))))
                                                                                                            obtain ⟨h130, hp⟩ := hp
                                                                                                            refine g_iald1002 h130 (g_aload_n rfl ?_)
                                                                                                            obtain ⟨h131, hp⟩ := hp
                                                                                                            refine g_s4v (Nat.le_of_ble_eq_true rfl) (fun _ hq => cs_357 (Nat.le_trans (Nat.le_of_ble_eq_true rfl) hd) (hS.le (Nat.le_of_ble_eq_true rfl)) (hR.le (Nat.le_of_ble_eq_true rfl))  (xs (s.1 + 1).toNatClampNeg) (xs (s.1 + 2).toNatClampNeg) s.2.1 s.2.2.2 h131 hq) (g_istore (Nat.le_of_ble_eq_true rfl) rfl ?_)
                                                                                                            refine g_weak ?_ (g_cl (cg_622_3775 hd hS hR L xs s.1 ((cf_357_0 (xs (s.1 + 1).toNatClampNeg) (xs (s.1 + 2).toNatClampNeg) s.2.1 s.2.2.2).1) ((cf_357_0 (xs (s.1 + 1).toNatClampNeg) (xs (s.1 + 2).toNatClampNeg) s.2.1 s.2.2.2).2.1) s.2.2.1 ((cf_357_0 (xs (s.1 + 1).toNatClampNeg) (xs (s.1 + 2).toNatClampNeg) s.2.1 s.2.2.2).2.2) hr hc1 hx1 hp hC))
                                                                                                            exact ⟨rfl, rfl, rfl, rfl, rfl, rfl, trivial⟩
                                                                                                          · have hp := hp.2 h54
                                                                                                            refine mz_cs hC (fun h55 hC => ?_) (fun h55 hC => ?_)
                                                                                                            · have hp := hp.1 h55
                                                                                                              refine g_br (tg := 3823) (by rw [h55]; rfl) ms_622_3823 ?_
                                                                                                              refine g_aload_n rfl (g_aload_n rfl (g_iload rfl (g_iconst mzi_1 (g_iadd ?_))))
                                                                                                              obtain ⟨h125, hp⟩ := hp
                                                                                                              refine g_iald1002 h125 (g_aload_n rfl ?_)
                                                                                                              obtain ⟨h126, hp⟩ := hp
                                                                                                              refine g_s3v (Nat.le_of_ble_eq_true rfl) (fun _ hq => cs_359 (Nat.le_trans (Nat.le_of_ble_eq_true rfl) hd) (hS.le (Nat.le_of_ble_eq_true rfl)) (hR.le (Nat.le_of_ble_eq_true rfl))  (xs (s.1 + 1).toNatClampNeg) s.2.1 s.2.2.2 h126 hq) (g_istore (Nat.le_of_ble_eq_true rfl) rfl (g_aload_n rfl (g_aload_n rfl (g_iload rfl (g_iconst mzi_1 (g_iadd ?_))))))
                                                                                                              obtain ⟨h127, hp⟩ := hp
                                                                                                              refine g_iald1002 h127 ?_
                                                                                                              obtain ⟨h128, hp⟩ := hp
                                                                                                              refine g_v2v (Nat.le_of_ble_eq_true rfl) (mz_at hS (Nat.le_of_ble_eq_true rfl) mzcS_232) (fun _ hq => cs_588 (Nat.le_trans (Nat.le_of_ble_eq_true rfl) hd) (hS.le (Nat.le_of_ble_eq_true rfl)) (hR.le (Nat.le_of_ble_eq_true rfl))  (xs (s.1 + 1).toNatClampNeg) ((cf_359_0 (xs (s.1 + 1).toNatClampNeg) s.2.1 s.2.2.2).2.1) h128 hq) (g_lstore (Nat.le_of_ble_eq_true rfl) rfl rfl ?_)
                                                                                                              refine g_weak ?_ (g_cl (cg_622_3848 hd hS hR L xs s.1 ((cf_359_0 (xs (s.1 + 1).toNatClampNeg) s.2.1 s.2.2.2).1) ((cf_588_0 (xs (s.1 + 1).toNatClampNeg) ((cf_359_0 (xs (s.1 + 1).toNatClampNeg) s.2.1 s.2.2.2).2.1)).1) ((cf_588_0 (xs (s.1 + 1).toNatClampNeg) ((cf_359_0 (xs (s.1 + 1).toNatClampNeg) s.2.1 s.2.2.2).2.1)).2) s.2.2.1 ((cf_359_0 (xs (s.1 + 1).toNatClampNeg) s.2.1 s.2.2.2).2.2) hr hc1 hx1 hp hC))
                                                                                                              exact ⟨rfl, rfl, rfl, rfl, rfl, rfl, rfl, trivial⟩
                                                                                                            · have hp := hp.2 h55
                                                                                                              refine mz_cs hC (fun h56 hC => ?_) (fun h56 hC => ?_)
                                                                                                              · have hp := hp.1 h56
                                                                                                                refine g_br (tg := 3878) (by rw [h56]; rfl) ms_622_3878 ?_
                                                                                                                refine g_aload_n rfl (g_aload_n rfl (g_iload rfl (g_iconst mzi_1 (g_iadd ?_))))
                                                                                                                obtain ⟨h122, hp⟩ := hp
                                                                                                                refine g_iald1002 h122 (g_aload_n rfl (g_iload rfl (g_iconst mzi_2 (g_iadd ?_))))
                                                                                                                obtain ⟨h123, hp⟩ := hp
                                                                                                                refine g_iald1002 h123 (g_aload_n rfl ?_)
                                                                                                                obtain ⟨h124, hp⟩ := hp
                                                                                                                refine g_s4v (Nat.le_of_ble_eq_true rfl) (fun _ hq => cs_361 (Nat.le_trans (Nat.le_of_ble_eq_true rfl) hd) (hS.le (Nat.le_of_ble_eq_true rfl)) (hR.le (Nat.le_of_ble_eq_true rfl))  (xs (s.1 + 1).toNatClampNeg) (xs (s.1 + 2).toNatClampNeg) s.2.1 s.2.2.1 s.2.2.2 h124 hq) (g_istore (Nat.le_of_ble_eq_true rfl) rfl ?_)
                                                                                                                refine g_weak ?_ (g_cl (cg_622_3897 hd hS hR L xs s.1 ((cf_361_0 (xs (s.1 + 1).toNatClampNeg) (xs (s.1 + 2).toNatClampNeg) s.2.1 s.2.2.1 s.2.2.2).1) ((cf_361_0 (xs (s.1 + 1).toNatClampNeg) (xs (s.1 + 2).toNatClampNeg) s.2.1 s.2.2.1 s.2.2.2).2.1) s.2.2.1 ((cf_361_0 (xs (s.1 + 1).toNatClampNeg) (xs (s.1 + 2).toNatClampNeg) s.2.1 s.2.2.1 s.2.2.2).2.2) hr hc1 hx1 hp hC))
                                                                                                                exact ⟨rfl, rfl, rfl, rfl, rfl, rfl, trivial⟩
                                                                                                              · have hp := hp.2 h56
                                                                                                                refine mz_cs hC (fun h57 hC => ?_) (fun h57 hC => ?_)
                                                                                                                · have hp := hp.1 h57
                                                                                                                  refine g_br (tg := 3946) (by rw [h57]; rfl) ms_622_3946 ?_
                                                                                                                  refine g_aload_n rfl (g_aload_n rfl (g_iload rfl (g_iconst mzi_1 (g_iadd ?_))))
                                                                                                                  obtain ⟨h118, hp⟩ := hp
                                                                                                                  refine g_iald1002 h118 ?_
                                                                                                                  obtain ⟨h119, hp⟩ := hp
                                                                                                                  refine g_s2v (Nat.le_of_ble_eq_true rfl) (fun _ hq => cs_363 (Nat.le_trans (Nat.le_of_ble_eq_true rfl) hd) (hS.le (Nat.le_of_ble_eq_true rfl)) (hR.le (Nat.le_of_ble_eq_true rfl))  (xs (s.1 + 1).toNatClampNeg) s.2.1 s.2.2.2 h119 hq) (g_istore (Nat.le_of_ble_eq_true rfl) rfl (g_aload_n rfl (g_aload_n rfl (g_iload rfl (g_iconst mzi_1 (g_iadd ?_))))))
                                                                                                                  obtain ⟨h120, hp⟩ := hp
                                                                                                                  refine g_iald1002 h120 ?_
                                                                                                                  obtain ⟨h121, hp⟩ := hp
                                                                                                                  refine g_v2n (Nat.le_of_ble_eq_true rfl) (mz_at hS (Nat.le_of_ble_eq_true rfl) mzcS_232) (fun _ hq => cs_590 (Nat.le_trans (Nat.le_of_ble_eq_true rfl) hd) (hS.le (Nat.le_of_ble_eq_true rfl)) (hR.le (Nat.le_of_ble_eq_true rfl))  (xs (s.1 + 1).toNatClampNeg) ((cf_363_0 (xs (s.1 + 1).toNatClampNeg) s.2.1 s.2.2.2).2.1) h121 hq) ?_
                                                                                                                  refine g_weak ?_ (g_cl (cg_622_3968 hd hS hR L xs s.1 ((cf_363_0 (xs (s.1 + 1).toNatClampNeg) s.2.1 s.2.2.2).1) (cf_590_0 (xs (s.1 + 1).toNatClampNeg) ((cf_363_0 (xs (s.1 + 1).toNatClampNeg) s.2.1 s.2.2.2).2.1)) s.2.2.1 ((cf_363_0 (xs (s.1 + 1).toNatClampNeg) s.2.1 s.2.2.2).2.2) hr hc1 hx1 hp hC))
                                                                                                                  exact ⟨rfl, rfl, rfl, rfl, rfl, rfl, trivial⟩
                                                                                                                · have hp := hp.2 h57
                                                                                                                  refine mz_cs hC (fun h58 hC => ?_) (fun h58 hC => ?_)
                                                                                                                  · have hp := hp.1 h58
                                                                                                                    refine g_br (tg := 3982) (by rw [h58]; rfl) ms_622_3982 ?_
                                                                                                                    refine g_aload_n rfl ?_
                                                                                                                    obtain ⟨h115, hp⟩ := hp
                                                                                                                    refine g_v1v (Nat.le_of_ble_eq_true rfl) (mz_at hS (Nat.le_of_ble_eq_true rfl) mzcS_0) (fun _ hq => cs_91 (Nat.le_trans (Nat.le_of_ble_eq_true rfl) hd) (hS.le (Nat.le_of_ble_eq_true rfl)) (hR.le (Nat.le_of_ble_eq_true rfl))  s.2.1 s.2.2.1 h115 hq) (g_aload_n rfl ?_)
                                                                                                                    obtain ⟨h116, hp⟩ := hp
                                                                                                                    refine g_v1v (Nat.le_of_ble_eq_true rfl) (mz_at hS (Nat.le_of_ble_eq_true rfl) mzcS_232) (fun _ hq => cs_592 (Nat.le_trans (Nat.le_of_ble_eq_true rfl) hd) (hS.le (Nat.le_of_ble_eq_true rfl)) (hR.le (Nat.le_of_ble_eq_true rfl))  ((cf_91_0 s.2.1 s.2.2.1).2.1) h116 hq) ?_
                                                                                                                    refine g_iceq (tg := 4500) rfl ms_622_4500 hC (fun h117 hC => ?_) (fun h117 hC => ?_)
                                                                                                                    · have hp := hp.1 h117
                                                                                                                      refine g_weak ?_ (g_cl (cg_622_4500 hd hS hR L xs s.1 ((cf_592_0 ((cf_91_0 s.2.1 s.2.2.1).2.1)).2) ((cf_91_0 s.2.1 s.2.2.1).2.2) s.2.2.2 hr hc1 hx1 hp hC))
                                                                                                                      exact ⟨rfl, rfl, rfl, rfl, rfl, trivial⟩
                                                                                                                    · have hp := hp.2 h117
                                                                                                                      refine g_iconst mzi_0 ?_
                                                                                                                      exact g_zret (z := false) rfl (hr _ _ _ _ (hx1 _ hC))
                                                                                                                  · have hp := hp.2 h58
                                                                                                                    refine mz_cs hC (fun h59 hC => ?_) (fun h59 hC => ?_)
                                                                                                                    · have hp := hp.1 h59
                                                                                                                      refine g_br (tg := 3995) (by rw [h59]; rfl) ms_622_3995 ?_
                                                                                                                      refine g_aload_n rfl ?_
                                                                                                                      obtain ⟨h112, hp⟩ := hp
                                                                                                                      refine g_v1v (Nat.le_of_ble_eq_true rfl) (mz_at hS (Nat.le_of_ble_eq_true rfl) mzcS_0) (fun _ hq => cs_100 (Nat.le_trans (Nat.le_of_ble_eq_true rfl) hd) (hS.le (Nat.le_of_ble_eq_true rfl)) (hR.le (Nat.le_of_ble_eq_true rfl))  s.2.1 h112 hq) (g_aload_n rfl ?_)
                                                                                                                      obtain ⟨h113, hp⟩ := hp
                                                                                                                      refine g_v1v (Nat.le_of_ble_eq_true rfl) (mz_at hS (Nat.le_of_ble_eq_true rfl) mzcS_232) (fun _ hq => cs_591 (Nat.le_trans (Nat.le_of_ble_eq_true rfl) hd) (hS.le (Nat.le_of_ble_eq_true rfl)) (hR.le (Nat.le_of_ble_eq_true rfl))  s.2.1 h113 hq) ?_
                                                                                                                      refine g_iceq (tg := 4500) rfl ms_622_4500 hC (fun h114 hC => ?_) (fun h114 hC => ?_)
                                                                                                                      · have hp := hp.1 h114
                                                                                                                        refine g_weak ?_ (g_cl (cg_622_4500 hd hS hR L xs s.1 ((cf_591_0 s.2.1).2) s.2.2.1 s.2.2.2 hr hc1 hx1 hp hC))
                                                                                                                        exact ⟨rfl, rfl, rfl, rfl, rfl, trivial⟩
                                                                                                                      · have hp := hp.2 h114
                                                                                                                        refine g_iconst mzi_0 ?_
                                                                                                                        exact g_zret (z := false) rfl (hr _ _ _ _ (hx1 _ hC))
                                                                                                                    · have hp := hp.2 h59
                                                                                                                      refine mz_cs hC (fun h60 hC => ?_) (fun h60 hC => ?_)
                                                                                                                      · have hp := hp.1 h60
                                                                                                                        refine g_br (tg := 4008) (by rw [h60]; rfl) ms_622_4008 ?_
                                                                                                                        refine g_aload_n rfl (g_aload_n rfl (g_iload rfl (g_iconst mzi_1 (g_iadd ?_))))
                                                                                                                        obtain ⟨h108, hp⟩ := hp
                                                                                                                        refine g_iald1002 h108 (g_aload_n rfl ?_)
                                                                                                                        obtain ⟨h109, hp⟩ := hp
                                                                                                                        refine g_s3v (Nat.le_of_ble_eq_true rfl) (fun _ hq => cs_365 (Nat.le_trans (Nat.le_of_ble_eq_true rfl) hd) (hS.le (Nat.le_of_ble_eq_true rfl)) (hR.le (Nat.le_of_ble_eq_true rfl))  (xs (s.1 + 1).toNatClampNeg) s.2.1 s.2.2.2 h109 hq) (g_istore (Nat.le_of_ble_eq_true rfl) rfl (g_aload_n rfl (g_aload_n rfl (g_iload rfl (g_iconst mzi_1 (g_iadd ?_))))))
                                                                                                                        obtain ⟨h110, hp⟩ := hp
                                                                                                                        refine g_iald1002 h110 ?_
                                                                                                                        obtain ⟨h111, hp⟩ := hp
                                                                                                                        refine g_v2v (Nat.le_of_ble_eq_true rfl) (mz_at hS (Nat.le_of_ble_eq_true rfl) mzcS_232) (fun _ hq => cs_599 (Nat.le_trans (Nat.le_of_ble_eq_true rfl) hd) (hS.le (Nat.le_of_ble_eq_true rfl)) (hR.le (Nat.le_of_ble_eq_true rfl))  (xs (s.1 + 1).toNatClampNeg) ((cf_365_0 (xs (s.1 + 1).toNatClampNeg) s.2.1 s.2.2.2).2.1) h111 hq) (g_istore (Nat.le_of_ble_eq_true rfl) rfl ?_)
                                                                                                                        refine g_weak ?_ (g_cl (cg_622_4033 hd hS hR L xs s.1 ((cf_365_0 (xs (s.1 + 1).toNatClampNeg) s.2.1 s.2.2.2).1) ((cf_599_0 (xs (s.1 + 1).toNatClampNeg) ((cf_365_0 (xs (s.1 + 1).toNatClampNeg) s.2.1 s.2.2.2).2.1)).1) ((cf_599_0 (xs (s.1 + 1).toNatClampNeg) ((cf_365_0 (xs (s.1 + 1).toNatClampNeg) s.2.1 s.2.2.2).2.1)).2) s.2.2.1 ((cf_365_0 (xs (s.1 + 1).toNatClampNeg) s.2.1 s.2.2.2).2.2) hr hc1 hx1 hp hC))
                                                                                                                        exact ⟨rfl, rfl, rfl, rfl, rfl, rfl, rfl, trivial⟩
                                                                                                                      · have hp := hp.2 h60
                                                                                                                        refine mz_cs hC (fun h61 hC => ?_) (fun h61 hC => ?_)
                                                                                                                        · have hp := hp.1 h61
                                                                                                                          refine g_br (tg := 4064) (by rw [h61]; rfl) ms_622_4064 ?_
                                                                                                                          refine g_aload_n rfl (g_aload_n rfl (g_iload rfl (g_iconst mzi_1 (g_iadd ?_))))
                                                                                                                          obtain ⟨h104, hp⟩ := hp
                                                                                                                          refine g_iald1002 h104 (g_aload_n rfl (g_iload rfl (g_iconst mzi_2 (g_iadd ?_))))
                                                                                                                          obtain ⟨h105, hp⟩ := hp
                                                                                                                          refine g_iald1002 h105 (g_aload_n rfl (g_iload rfl (g_iconst mzi_3 (g_iadd ?_))))
                                                                                                                          obtain ⟨h106, hp⟩ := hp
                                                                                                                          refine g_iald1002 h106 (g_aload_n rfl ?_)
                                                                                                                          obtain ⟨h107, hp⟩ := hp
                                                                                                                          refine g_s5v (Nat.le_of_ble_eq_true rfl) (fun _ hq => cs_367 (Nat.le_trans (Nat.le_of_ble_eq_true rfl) hd) (hS.le (Nat.le_of_ble_eq_true rfl)) (hR.le (Nat.le_of_ble_eq_true rfl))  (xs (s.1 + 1).toNatClampNeg) (xs (s.1 + 2).toNatClampNeg) (xs (s.1 + 3).toNatClampNeg) s.2.1 s.2.2.2 h107 hq) (g_istore (Nat.le_of_ble_eq_true rfl) rfl ?_)
                                                                                                                          refine g_weak ?_ (g_cl (cg_622_4089 hd hS hR L xs s.1 ((cf_367_0 (xs (s.1 + 1).toNatClampNeg) (xs (s.1 + 2).toNatClampNeg) (xs (s.1 + 3).toNatClampNeg) s.2.1 s.2.2.2).1) ((cf_367_0 (xs (s.1 + 1).toNatClampNeg) (xs (s.1 + 2).toNatClampNeg) (xs (s.1 + 3).toNatClampNeg) s.2.1 s.2.2.2).2.1) s.2.2.1 ((cf_367_0 (xs (s.1 + 1).toNatClampNeg) (xs (s.1 + 2).toNatClampNeg) (xs (s.1 + 3).toNatClampNeg) s.2.1 s.2.2.2).2.2) hr hc1 hx1 hp hC))
                                                                                                                          exact ⟨rfl, rfl, rfl, rfl, rfl, rfl, trivial⟩
                                                                                                                        · have hp := hp.2 h61
                                                                                                                          refine mz_cs hC (fun h62 hC => ?_) (fun h62 hC => ?_)
                                                                                                                          · have hp := hp.1 h62
                                                                                                                            refine g_br (tg := 4144) (by rw [h62]; rfl) ms_622_4144 ?_
                                                                                                                            refine g_aload_n rfl (g_aload_n rfl ?_)
                                                                                                                            obtain ⟨h98, hp⟩ := hp
                                                                                                                            refine g_s2v (Nat.le_of_ble_eq_true rfl) (fun _ hq => cs_369 (Nat.le_trans (Nat.le_of_ble_eq_true rfl) hd) (hS.le (Nat.le_of_ble_eq_true rfl)) (hR.le (Nat.le_of_ble_eq_true rfl))  s.2.1 s.2.2.2 h98 hq) (g_istore (Nat.le_of_ble_eq_true rfl) rfl (g_aload_n rfl ?_))
                                                                                                                            obtain ⟨h99, hp⟩ := hp
                                                                                                                            refine g_v1v (Nat.le_of_ble_eq_true rfl) (mz_at hS (Nat.le_of_ble_eq_true rfl) mzcS_232) (fun _ hq => cs_601 (Nat.le_trans (Nat.le_of_ble_eq_true rfl) hd) (hS.le (Nat.le_of_ble_eq_true rfl)) (hR.le (Nat.le_of_ble_eq_true rfl))  ((cf_369_0 s.2.1 s.2.2.2).2.1) h99 hq) (g_istore (Nat.le_of_ble_eq_true rfl) rfl (g_aload_n rfl ?_))
                                                                                                                            refine g_v1v (Nat.le_of_ble_eq_true rfl) (mz_at hS (Nat.le_of_ble_eq_true rfl) mzcS_232) (fun _ hq => cs_459 (Nat.le_trans (Nat.le_of_ble_eq_true rfl) hd) (hS.le (Nat.le_of_ble_eq_true rfl)) (hR.le (Nat.le_of_ble_eq_true rfl))  ((cf_601_0 ((cf_369_0 s.2.1 s.2.2.2).2.1)).2) trivial hq) (g_iload rfl ?_)
                                                                                                                            refine g_iceq (tg := 4168) rfl ms_622_4168 hC (fun h101 hC => ?_) (fun h101 hC => ?_)
                                                                                                                            · have hp := hp.1 h101
                                                                                                                              refine g_iload rfl ?_
                                                                                                                              refine g_ifne (tg := 4185) rfl ms_622_4185 hC (fun h102 hC => ?_) (fun h102 hC => ?_)
                                                                                                                              · have hp := hp.1 h102
                                                                                                                                refine g_aload_n rfl (g_iconst mzi_0 (g_lald (mz_at hS (Nat.le_of_ble_eq_true rfl) mzcS_342) (mz_ibd (by decide)) (g_iload rfl (g_i2l (g_lcmp ?_)))))
                                                                                                                                refine g_leq (tg := 4185) rfl ms_622_4185 hC (fun h103 hC => ?_) (fun h103 hC => ?_)
                                                                                                                                · have hp := hp.1 h103
                                                                                                                                  refine g_weak ?_ (g_cl (cg_622_4185 hd hS hR L xs s.1 ((cf_601_0 ((cf_369_0 s.2.1 s.2.2.2).2.1)).2) s.2.2.1 ((cf_369_0 s.2.1 s.2.2.2).2.2) hr hc1 hx1 hp hC))
                                                                                                                                  exact ⟨rfl, rfl, rfl, rfl, rfl, trivial⟩
                                                                                                                                · have hp := hp.2 h103
                                                                                                                                  refine g_iconst mzi_0 ?_
                                                                                                                                  exact g_zret (z := false) rfl (hr _ _ _ _ (hx1 _ hC))
                                                                                                                              · have hp := hp.2 h102
                                                                                                                                refine g_weak ?_ (g_cl (cg_622_4185 hd hS hR L xs s.1 ((cf_601_0 ((cf_369_0 s.2.1 s.2.2.2).2.1)).2) s.2.2.1 ((cf_369_0 s.2.1 s.2.2.2).2.2) hr hc1 hx1 hp hC))
                                                                                                                                exact ⟨rfl, rfl, rfl, rfl, rfl, trivial⟩
                                                                                                                            · have hp := hp.2 h101
                                                                                                                              refine g_iconst mzi_0 ?_
                                                                                                                              exact g_zret (z := false) rfl (hr _ _ _ _ (hx1 _ hC))
                                                                                                                          · have hp := hp.2 h62
                                                                                                                            refine mz_cs hC (fun h63 hC => ?_) (fun h63 hC => ?_)
                                                                                                                            · have hp := hp.1 h63
                                                                                                                              refine g_br (tg := 4188) (by rw [h63]; rfl) ms_622_4188 ?_
                                                                                                                              refine g_aload_n rfl (g_aload_n rfl (g_iload rfl (g_iconst mzi_1 (g_iadd ?_))))
                                                                                                                              obtain ⟨h94, hp⟩ := hp
                                                                                                                              refine g_iald1002 h94 (g_aload_n rfl ?_)
                                                                                                                              obtain ⟨h95, hp⟩ := hp
                                                                                                                              refine g_s3v (Nat.le_of_ble_eq_true rfl) (fun _ hq => cs_372 (Nat.le_trans (Nat.le_of_ble_eq_true rfl) hd) (hS.le (Nat.le_of_ble_eq_true rfl)) (hR.le (Nat.le_of_ble_eq_true rfl))  (xs (s.1 + 1).toNatClampNeg) s.2.1 s.2.2.2 h95 hq) (g_istore (Nat.le_of_ble_eq_true rfl) rfl (g_aload_n rfl (g_aload_n rfl (g_iload rfl (g_iconst mzi_1 (g_iadd ?_))))))
                                                                                                                              obtain ⟨h96, hp⟩ := hp
                                                                                                                              refine g_iald1002 h96 ?_
                                                                                                                              obtain ⟨h97, hp⟩ := hp
                                                                                                                              refine g_v2v (Nat.le_of_ble_eq_true rfl) (mz_at hS (Nat.le_of_ble_eq_true rfl) mzcS_232) (fun _ hq => cs_602 (Nat.le_trans (Nat.le_of_ble_eq_true rfl) hd) (hS.le (Nat.le_of_ble_eq_true rfl)) (hR.le (Nat.le_of_ble_eq_true rfl))  (xs (s.1 + 1).toNatClampNeg) ((cf_372_0 (xs (s.1 + 1).toNatClampNeg) s.2.1 s.2.2.2).2.1) h97 hq) (g_istore (Nat.le_of_ble_eq_true rfl) rfl ?_)
                                                                                                                              refine g_weak ?_ (g_cl (cg_622_4213 hd hS hR L xs s.1 ((cf_372_0 (xs (s.1 + 1).toNatClampNeg) s.2.1 s.2.2.2).1) ((cf_602_0 (xs (s.1 + 1).toNatClampNeg) ((cf_372_0 (xs (s.1 + 1).toNatClampNeg) s.2.1 s.2.2.2).2.1)).1) ((cf_602_0 (xs (s.1 + 1).toNatClampNeg) ((cf_372_0 (xs (s.1 + 1).toNatClampNeg) s.2.1 s.2.2.2).2.1)).2) s.2.2.1 ((cf_372_0 (xs (s.1 + 1).toNatClampNeg) s.2.1 s.2.2.2).2.2) hr hc1 hx1 hp hC))
                                                                                                                              exact ⟨rfl, rfl, rfl, rfl, rfl, rfl, rfl, trivial⟩
                                                                                                                            · have hp := hp.2 h63
                                                                                                                              refine mz_cs hC (fun h64 hC => ?_) (fun h64 hC => ?_)
                                                                                                                              · have hp := hp.1 h64
                                                                                                                                refine g_br (tg := 4244) (by rw [h64]; rfl) ms_622_4244 ?_
                                                                                                                                refine g_aload_n rfl (g_aload_n rfl (g_iload rfl (g_iconst mzi_1 (g_iadd ?_))))
                                                                                                                                obtain ⟨h90, hp⟩ := hp
                                                                                                                                refine g_iald1002 h90 (g_aload_n rfl ?_)
                                                                                                                                obtain ⟨h91, hp⟩ := hp
                                                                                                                                refine g_s3v (Nat.le_of_ble_eq_true rfl) (fun _ hq => cs_374 (Nat.le_trans (Nat.le_of_ble_eq_true rfl) hd) (hS.le (Nat.le_of_ble_eq_true rfl)) (hR.le (Nat.le_of_ble_eq_true rfl))  (xs (s.1 + 1).toNatClampNeg) s.2.1 s.2.2.2 h91 hq) (g_istore (Nat.le_of_ble_eq_true rfl) rfl (g_aload_n rfl (g_aload_n rfl (g_iload rfl (g_iconst mzi_1 (g_iadd ?_))))))
                                                                                                                                obtain ⟨h92, hp⟩ := hp
                                                                                                                                refine g_iald1002 h92 ?_
                                                                                                                                obtain ⟨h93, hp⟩ := hp
                                                                                                                                refine g_v2v (Nat.le_of_ble_eq_true rfl) (mz_at hS (Nat.le_of_ble_eq_true rfl) mzcS_232) (fun _ hq => cs_603 (Nat.le_trans (Nat.le_of_ble_eq_true rfl) hd) (hS.le (Nat.le_of_ble_eq_true rfl)) (hR.le (Nat.le_of_ble_eq_true rfl))  (xs (s.1 + 1).toNatClampNeg) ((cf_374_0 (xs (s.1 + 1).toNatClampNeg) s.2.1 s.2.2.2).2.1) h93 hq) (g_istore (Nat.le_of_ble_eq_true rfl) rfl ?_)
                                                                                                                                refine g_weak ?_ (g_cl (cg_622_4269 hd hS hR L xs s.1 ((cf_374_0 (xs (s.1 + 1).toNatClampNeg) s.2.1 s.2.2.2).1) ((cf_603_0 (xs (s.1 + 1).toNatClampNeg) ((cf_374_0 (xs (s.1 + 1).toNatClampNeg) s.2.1 s.2.2.2).2.1)).1) ((cf_603_0 (xs (s.1 + 1).toNatClampNeg) ((cf_374_0 (xs (s.1 + 1).toNatClampNeg) s.2.1 s.2.2.2).2.1)).2) s.2.2.1 ((cf_374_0 (xs (s.1 + 1).toNatClampNeg) s.2.1 s.2.2.2).2.2) hr hc1 hx1 hp hC))
                                                                                                                                exact ⟨rfl, rfl, rfl, rfl, rfl, rfl, rfl, trivial⟩
                                                                                                                              · have hp := hp.2 h64
                                                                                                                                refine mz_cs hC (fun h65 hC => ?_) (fun h65 hC => ?_)
                                                                                                                                · have hp := hp.1 h65
                                                                                                                                  refine g_br (tg := 4300) (by rw [h65]; rfl) ms_622_4300 ?_
                                                                                                                                  refine g_aload_n rfl (g_aload_n rfl ?_)
                                                                                                                                  obtain ⟨h84, hp⟩ := hp
                                                                                                                                  refine g_s2v (Nat.le_of_ble_eq_true rfl) (fun _ hq => cs_376 (Nat.le_trans (Nat.le_of_ble_eq_true rfl) hd) (hS.le (Nat.le_of_ble_eq_true rfl)) (hR.le (Nat.le_of_ble_eq_true rfl))  s.2.1 s.2.2.2 h84 hq) (g_istore (Nat.le_of_ble_eq_true rfl) rfl (g_aload_n rfl ?_))
                                                                                                                                  obtain ⟨h85, hp⟩ := hp
                                                                                                                                  refine g_v1v (Nat.le_of_ble_eq_true rfl) (mz_at hS (Nat.le_of_ble_eq_true rfl) mzcS_232) (fun _ hq => cs_604 (Nat.le_trans (Nat.le_of_ble_eq_true rfl) hd) (hS.le (Nat.le_of_ble_eq_true rfl)) (hR.le (Nat.le_of_ble_eq_true rfl))  ((cf_376_0 s.2.1 s.2.2.2).2.1) h85 hq) (g_istore (Nat.le_of_ble_eq_true rfl) rfl (g_aload_n rfl ?_))
                                                                                                                                  refine g_v1v (Nat.le_of_ble_eq_true rfl) (mz_at hS (Nat.le_of_ble_eq_true rfl) mzcS_232) (fun _ hq => cs_459 (Nat.le_trans (Nat.le_of_ble_eq_true rfl) hd) (hS.le (Nat.le_of_ble_eq_true rfl)) (hR.le (Nat.le_of_ble_eq_true rfl))  ((cf_604_0 ((cf_376_0 s.2.1 s.2.2.2).2.1)).2) trivial hq) (g_iload rfl ?_)
                                                                                                                                  refine g_iceq (tg := 4324) rfl ms_622_4324 hC (fun h87 hC => ?_) (fun h87 hC => ?_)
                                                                                                                                  · have hp := hp.1 h87
                                                                                                                                    refine g_iload rfl ?_
                                                                                                                                    refine g_ifne (tg := 4341) rfl ms_622_4341 hC (fun h88 hC => ?_) (fun h88 hC => ?_)
                                                                                                                                    · have hp := hp.1 h88
                                                                                                                                      refine g_aload_n rfl (g_iconst mzi_0 (g_lald (mz_at hS (Nat.le_of_ble_eq_true rfl) mzcS_342) (mz_ibd (by decide)) (g_iload rfl (g_i2l (g_lcmp ?_)))))
                                                                                                                                      refine g_leq (tg := 4341) rfl ms_622_4341 hC (fun h89 hC => ?_) (fun h89 hC => ?_)
                                                                                                                                      · have hp := hp.1 h89
                                                                                                                                        refine g_weak ?_ (g_cl (cg_622_4341 hd hS hR L xs s.1 ((cf_604_0 ((cf_376_0 s.2.1 s.2.2.2).2.1)).2) s.2.2.1 ((cf_376_0 s.2.1 s.2.2.2).2.2) hr hc1 hx1 hp hC))
                                                                                                                                        exact ⟨rfl, rfl, rfl, rfl, rfl, trivial⟩
                                                                                                                                      · have hp := hp.2 h89
                                                                                                                                        refine g_iconst mzi_0 ?_
                                                                                                                                        exact g_zret (z := false) rfl (hr _ _ _ _ (hx1 _ hC))
                                                                                                                                    · have hp := hp.2 h88
                                                                                                                                      refine g_weak ?_ (g_cl (cg_622_4341 hd hS hR L xs s.1 ((cf_604_0 ((cf_376_0 s.2.1 s.2.2.2).2.1)).2) s.2.2.1 ((cf_376_0 s.2.1 s.2.2.2).2.2) hr hc1 hx1 hp hC))
                                                                                                                                      exact ⟨rfl, rfl, rfl, rfl, rfl, trivial⟩
                                                                                                                                  · have hp := hp.2 h87
                                                                                                                                    refine g_iconst mzi_0 ?_
                                                                                                                                    exact g_zret (z := false) rfl (hr _ _ _ _ (hx1 _ hC))
                                                                                                                                · have hp := hp.2 h65
                                                                                                                                  refine mz_cs hC (fun h66 hC => ?_) (fun h66 hC => ?_)
                                                                                                                                  · have hp := hp.1 h66
                                                                                                                                    refine g_br (tg := 4344) (by rw [h66]; rfl) ms_622_4344 ?_
                                                                                                                                    refine g_aload_n rfl (g_aload_n rfl (g_iload rfl (g_iconst mzi_1 (g_iadd ?_))))
                                                                                                                                    obtain ⟨h81, hp⟩ := hp
                                                                                                                                    refine g_iald1002 h81 (g_aload_n rfl (g_iload rfl (g_iconst mzi_2 (g_iadd ?_))))
                                                                                                                                    obtain ⟨h82, hp⟩ := hp
                                                                                                                                    refine g_iald1002 h82 (g_aload_n rfl ?_)
                                                                                                                                    obtain ⟨h83, hp⟩ := hp
                                                                                                                                    refine g_s4v (Nat.le_of_ble_eq_true rfl) (fun _ hq => cs_379 (Nat.le_trans (Nat.le_of_ble_eq_true rfl) hd) (hS.le (Nat.le_of_ble_eq_true rfl)) (hR.le (Nat.le_of_ble_eq_true rfl))  (xs (s.1 + 1).toNatClampNeg) (xs (s.1 + 2).toNatClampNeg) s.2.1 s.2.2.2 h83 hq) (g_istore (Nat.le_of_ble_eq_true rfl) rfl ?_)
                                                                                                                                    refine g_weak ?_ (g_cl (cg_622_4363 hd hS hR L xs s.1 ((cf_379_0 (xs (s.1 + 1).toNatClampNeg) (xs (s.1 + 2).toNatClampNeg) s.2.1 s.2.2.2).1) ((cf_379_0 (xs (s.1 + 1).toNatClampNeg) (xs (s.1 + 2).toNatClampNeg) s.2.1 s.2.2.2).2.1) s.2.2.1 ((cf_379_0 (xs (s.1 + 1).toNatClampNeg) (xs (s.1 + 2).toNatClampNeg) s.2.1 s.2.2.2).2.2) hr hc1 hx1 hp hC))
                                                                                                                                    exact ⟨rfl, rfl, rfl, rfl, rfl, rfl, trivial⟩
                                                                                                                                  · have hp := hp.2 h66
                                                                                                                                    refine mz_cs hC (fun h67 hC => ?_) (fun h67 hC => ?_)
                                                                                                                                    · have hp := hp.1 h67
                                                                                                                                      refine g_br (tg := 4412) (by rw [h67]; rfl) ms_622_4412 ?_
                                                                                                                                      refine g_aload_n rfl (g_aload_n rfl ?_)
                                                                                                                                      obtain ⟨h75, hp⟩ := hp
                                                                                                                                      refine g_s2v (Nat.le_of_ble_eq_true rfl) (fun _ hq => cs_381 (Nat.le_trans (Nat.le_of_ble_eq_true rfl) hd) (hS.le (Nat.le_of_ble_eq_true rfl)) (hR.le (Nat.le_of_ble_eq_true rfl))  s.2.1 s.2.2.2 h75 hq) (g_istore (Nat.le_of_ble_eq_true rfl) rfl (g_aload_n rfl ?_))
                                                                                                                                      obtain ⟨h76, hp⟩ := hp
                                                                                                                                      refine g_v1v (Nat.le_of_ble_eq_true rfl) (mz_at hS (Nat.le_of_ble_eq_true rfl) mzcS_232) (fun _ hq => cs_606 (Nat.le_trans (Nat.le_of_ble_eq_true rfl) hd) (hS.le (Nat.le_of_ble_eq_true rfl)) (hR.le (Nat.le_of_ble_eq_true rfl))  ((cf_381_0 s.2.1 s.2.2.2).2.1) h76 hq) (g_istore (Nat.le_of_ble_eq_true rfl) rfl (g_aload_n rfl ?_))
                                                                                                                                      refine g_v1v (Nat.le_of_ble_eq_true rfl) (mz_at hS (Nat.le_of_ble_eq_true rfl) mzcS_232) (fun _ hq => cs_459 (Nat.le_trans (Nat.le_of_ble_eq_true rfl) hd) (hS.le (Nat.le_of_ble_eq_true rfl)) (hR.le (Nat.le_of_ble_eq_true rfl))  ((cf_606_0 ((cf_381_0 s.2.1 s.2.2.2).2.1)).2) trivial hq) (g_iload rfl ?_)
                                                                                                                                      refine g_iceq (tg := 4436) rfl ms_622_4436 hC (fun h78 hC => ?_) (fun h78 hC => ?_)
                                                                                                                                      · have hp := hp.1 h78
                                                                                                                                        refine g_iload rfl ?_
                                                                                                                                        refine g_ifne (tg := 4453) rfl ms_622_4453 hC (fun h79 hC => ?_) (fun h79 hC => ?_)
                                                                                                                                        · have hp := hp.1 h79
                                                                                                                                          refine g_aload_n rfl (g_iconst mzi_0 (g_lald (mz_at hS (Nat.le_of_ble_eq_true rfl) mzcS_342) (mz_ibd (by decide)) (g_iload rfl (g_i2l (g_lcmp ?_)))))
                                                                                                                                          refine g_leq (tg := 4453) rfl ms_622_4453 hC (fun h80 hC => ?_) (fun h80 hC => ?_)
                                                                                                                                          · have hp := hp.1 h80
                                                                                                                                            refine g_weak ?_ (g_cl (cg_622_4453 hd hS hR L xs s.1 ((cf_606_0 ((cf_381_0 s.2.1 s.2.2.2).2.1)).2) s.2.2.1 ((cf_381_0 s.2.1 s.2.2.2).2.2) hr hc1 hx1 hp hC))
                                                                                                                                            exact ⟨rfl, rfl, rfl, rfl, rfl, trivial⟩
                                                                                                                                          · have hp := hp.2 h80
                                                                                                                                            refine g_iconst mzi_0 ?_
                                                                                                                                            exact g_zret (z := false) rfl (hr _ _ _ _ (hx1 _ hC))
                                                                                                                                        · have hp := hp.2 h79
                                                                                                                                          refine g_weak ?_ (g_cl (cg_622_4453 hd hS hR L xs s.1 ((cf_606_0 ((cf_381_0 s.2.1 s.2.2.2).2.1)).2) s.2.2.1 ((cf_381_0 s.2.1 s.2.2.2).2.2) hr hc1 hx1 hp hC))
                                                                                                                                          exact ⟨rfl, rfl, rfl, rfl, rfl, trivial⟩
                                                                                                                                      · have hp := hp.2 h78
                                                                                                                                        refine g_iconst mzi_0 ?_
                                                                                                                                        exact g_zret (z := false) rfl (hr _ _ _ _ (hx1 _ hC))
                                                                                                                                    · have hp := hp.2 h67
                                                                                                                                      refine mz_cs hC (fun h68 hC => ?_) (fun h68 hC => ?_)
                                                                                                                                      · have hp := hp.1 h68
                                                                                                                                        refine g_br (tg := 4456) (by rw [h68]; rfl) ms_622_4456 ?_
                                                                                                                                        refine g_aload_n rfl (g_aload_n rfl ?_)
                                                                                                                                        obtain ⟨h69, hp⟩ := hp
                                                                                                                                        refine g_s2v (Nat.le_of_ble_eq_true rfl) (fun _ hq => cs_383 (Nat.le_trans (Nat.le_of_ble_eq_true rfl) hd) (hS.le (Nat.le_of_ble_eq_true rfl)) (hR.le (Nat.le_of_ble_eq_true rfl))  s.2.1 s.2.2.1 s.2.2.2 h69 hq) (g_istore (Nat.le_of_ble_eq_true rfl) rfl (g_aload_n rfl ?_))
                                                                                                                                        obtain ⟨h70, hp⟩ := hp
                                                                                                                                        refine g_v1v (Nat.le_of_ble_eq_true rfl) (mz_at hS (Nat.le_of_ble_eq_true rfl) mzcS_232) (fun _ hq => cs_607 (Nat.le_trans (Nat.le_of_ble_eq_true rfl) hd) (hS.le (Nat.le_of_ble_eq_true rfl)) (hR.le (Nat.le_of_ble_eq_true rfl))  ((cf_383_0 s.2.1 s.2.2.1 s.2.2.2).2.1) h70 hq) (g_istore (Nat.le_of_ble_eq_true rfl) rfl (g_aload_n rfl ?_))
                                                                                                                                        refine g_v1v (Nat.le_of_ble_eq_true rfl) (mz_at hS (Nat.le_of_ble_eq_true rfl) mzcS_232) (fun _ hq => cs_459 (Nat.le_trans (Nat.le_of_ble_eq_true rfl) hd) (hS.le (Nat.le_of_ble_eq_true rfl)) (hR.le (Nat.le_of_ble_eq_true rfl))  ((cf_607_0 ((cf_383_0 s.2.1 s.2.2.1 s.2.2.2).2.1)).2) trivial hq) (g_iload rfl ?_)
                                                                                                                                        refine g_iceq (tg := 4480) rfl ms_622_4480 hC (fun h72 hC => ?_) (fun h72 hC => ?_)
                                                                                                                                        · have hp := hp.1 h72
                                                                                                                                          refine g_iload rfl ?_
                                                                                                                                          refine g_ifne (tg := 4497) rfl ms_622_4497 hC (fun h73 hC => ?_) (fun h73 hC => ?_)
                                                                                                                                          · have hp := hp.1 h73
                                                                                                                                            refine g_aload_n rfl (g_iconst mzi_0 (g_lald (mz_at hS (Nat.le_of_ble_eq_true rfl) mzcS_342) (mz_ibd (by decide)) (g_iload rfl (g_i2l (g_lcmp ?_)))))
                                                                                                                                            refine g_leq (tg := 4497) rfl ms_622_4497 hC (fun h74 hC => ?_) (fun h74 hC => ?_)
                                                                                                                                            · have hp := hp.1 h74
                                                                                                                                              refine g_weak ?_ (g_cl (cg_622_4497 hd hS hR L xs s.1 ((cf_607_0 ((cf_383_0 s.2.1 s.2.2.1 s.2.2.2).2.1)).2) ((cf_383_0 s.2.1 s.2.2.1 s.2.2.2).2.2.1) ((cf_383_0 s.2.1 s.2.2.1 s.2.2.2).2.2.2) hr hc1 hx1 hp hC))
                                                                                                                                              exact ⟨rfl, rfl, rfl, rfl, rfl, trivial⟩
                                                                                                                                            · have hp := hp.2 h74
                                                                                                                                              refine g_iconst mzi_0 ?_
                                                                                                                                              exact g_zret (z := false) rfl (hr _ _ _ _ (hx1 _ hC))
                                                                                                                                          · have hp := hp.2 h73
                                                                                                                                            refine g_weak ?_ (g_cl (cg_622_4497 hd hS hR L xs s.1 ((cf_607_0 ((cf_383_0 s.2.1 s.2.2.1 s.2.2.2).2.1)).2) ((cf_383_0 s.2.1 s.2.2.1 s.2.2.2).2.2.1) ((cf_383_0 s.2.1 s.2.2.1 s.2.2.2).2.2.2) hr hc1 hx1 hp hC))
                                                                                                                                            exact ⟨rfl, rfl, rfl, rfl, rfl, trivial⟩
                                                                                                                                        · have hp := hp.2 h72
                                                                                                                                          refine g_iconst mzi_0 ?_
                                                                                                                                          exact g_zret (z := false) rfl (hr _ _ _ _ (hx1 _ hC))
                                                                                                                                      · have hp := hp.2 h68
                                                                                                                                        refine g_br (tg := 4500) ((mz_tsw_d (l := [0, 1, 2, 3, 4, 5, 6, 7, 8, 9, 10, 11, 12, 13, 14, 15, 16, 17, 18, 19, 20, 21, 22, 23, 24, 25, 26, 27, 28, 29, 30, 31, 32, 33, 34, 35, 36, 37, 38, 39, 40, 41, 42, 43, 44, 45, 46, 47, 48, 49, 50, 51, 52, 53, 54, 55, 56, 57, 58, 59, 60, 61, 62, 63, 64, 65]) (mz_rng 0 65) ⟨h3, h4, h5, h6, h7, h8, h9, h10, h11, h12, h13, h14, h15, h16, h17, h18, h19, h20, h21, h22, h23, h24, h25, h26, h27, h28, h29, h30, h31, h32, h33, h34, h35, h36, h37, h38, h39, h40, h41, h42, h43, h44, h45, h46, h47, h48, h49, h50, h51, h52, h53, h54, h55, h56, h57, h58, h59, h60, h61, h62, h63, h64, h65, h66, h67, h68, trivial⟩).trans (mz_tg_t rfl)) ms_622_4500 ?_
                                                                                                                                        refine g_weak ?_ (g_cl (cg_622_4500 hd hS hR L xs s.1 s.2.1 s.2.2.1 s.2.2.2 hr hc1 hx1 hp hC))
                                                                                                                                        exact ⟨rfl, rfl, rfl, rfl, rfl, trivial⟩
theorem cg_622_35 (hd : 12 ≤ d) (hS : mz_extR S 343) (hR : mz_rok R 343) (L : Nat) (xs : Nat → Int32) (v4 : Int32) (N : mz_N) (b : Bool) (t : Nat) {C0 : (Bool × mz_N × Bool × Nat) → Prop} (hr : ∀ (w : Bool) (N2 : mz_N) (b2 : Bool) (t2 : Nat), C0 (w, N2, b2, t2) → Q (.inl (some (.int (mz_b01 w)))) (mz_k S R N2 b2 t2)) (hp : cp_622_35 L xs v4 N b t) (hC : C0 (cf_622_35 L xs v4 N b t)) : mz_G (d, mz_X0 L xs, some .boolean, [], mk_622, 8, Q) 35 mt_622_35 [(0, .ref 1002), (1, .ref 0), (2, .ref 232), (3, .ref 342), (4, .int v4)] [] false (mz_k S R N b t) := by
  obtain ⟨n, hn⟩ := hp
  exact g_loop (G := fun s => mz_G (d, mz_X0 L xs, some .boolean, [], mk_622, 8, Q) 35 mt_622_35 [(0, .ref 1002), (1, .ref 0), (2, .ref 232), (3, .ref 342), (4, .int s.1)] [] false (mz_k S R s.2.1 s.2.2.1 s.2.2.2)) (C := C0) (fun C2 hc hx s hP hC => cb_622_35 hd hS hR L xs s hr hc hx hP hC) n (v4, N, b, t) hn hC
end Fn39
