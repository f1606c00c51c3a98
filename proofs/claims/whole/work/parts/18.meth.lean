/-- a method's words by their places -/
def am_mchk (k pc pi p1 p2 : Nat) : Bool := am_word pc (am_cw am_M1 k) && goodWord (am_cw am_M1 k) && am_word pi (.initialized (am_M1 k).1.cls) && decide ((am_M1 k).2.2.1 ≤ 40) && plainName (am_M1 k).1.cls && decide ((am_M1 k).1.cls ≠ "java/lang/invoke/MethodHandle") && decide ((am_M1 k).1.cls ≠ "java/lang/invoke/VarHandle") &&
  (match am_kd k with
  | 0 => am_word p1 (.instanceMethod (am_M1 k).1) && am_word p2 (.selects (am_M1 k).1.cls (am_M1 k).1 (am_M1 k).1) && (am_M1 k).2.2.2.2.isEmpty
  | 1 => am_word p1 (.static (am_M1 k).1)
  | 2 => am_word p1 (.instanceMethod (am_M1 k).1) && decide ((am_M1 k).1.name = "<init>") && decide ((am_M1 k).2.2.2.1 = none) && (am_M1 k).2.2.2.2.isEmpty
  | _ => false)
theorem am_mchk_ok {k pc pi p1 p2 : Nat} (h : am_mchk k pc pi p1 p2 = true) : am_mok am_M1 am_kd k := by
  unfold am_mchk at h
  simp only [Bool.and_eq_true, decide_eq_true_eq] at h
  obtain ⟨⟨⟨⟨⟨⟨⟨h1, hg⟩, h2⟩, h3⟩, h4⟩, h5⟩, h6⟩, h7⟩ := h
  refine ⟨am_word_gw h1 hg, am_word_gw h2 rfl, h3, h4, ⟨h5, h6⟩, fun e0 => ?_, fun e0 => ?_, fun e0 => ?_⟩
  · rw [e0] at h7
    simp only [Bool.and_eq_true] at h7
    exact ⟨am_word_gw h7.1.1 rfl, am_word_gw h7.1.2 rfl, List.isEmpty_iff.mp h7.2⟩
  · rw [e0] at h7
    exact am_word_gw h7 rfl
  · rw [e0] at h7
    simp only [Bool.and_eq_true, decide_eq_true_eq] at h7
    exact ⟨am_word_gw h7.1.1.1 rfl, h7.1.1.2, h7.1.2, List.isEmpty_iff.mp h7.2⟩
/-! every method that is called: its words stand in the tables -/
theorem am_mk0 : am_mchk 0 149 78 148 0 = true := by decide +kernel
theorem am_mk1 : am_mchk 1 713 78 711 712 = true := by decide +kernel
theorem am_mk2 : am_mchk 2 718 78 716 717 = true := by decide +kernel
theorem am_mk3 : am_mchk 3 772 78 770 771 = true := by decide +kernel
theorem am_mk4 : am_mchk 4 777 78 776 13 = true := by decide +kernel
theorem am_mk5 : am_mchk 5 229 81 228 0 = true := by decide +kernel
theorem am_mk6 : am_mchk 6 631 81 629 630 = true := by decide +kernel
theorem am_mk7 : am_mchk 7 646 81 644 645 = true := by decide +kernel
theorem am_mk8 : am_mchk 8 693 81 692 4 = true := by decide +kernel
theorem am_mk9 : am_mchk 9 705 81 704 5 = true := by decide +kernel
theorem am_mk10 : am_mchk 10 709 81 708 6 = true := by decide +kernel
theorem am_mk11 : am_mchk 11 665 81 663 664 = true := by decide +kernel
theorem am_mk12 : am_mchk 12 697 81 695 696 = true := by decide +kernel
theorem am_mk13 : am_mchk 13 701 81 699 700 = true := by decide +kernel
theorem am_mk14 : am_mchk 14 766 81 764 765 = true := by decide +kernel
theorem am_mk15 : am_mchk 15 781 81 779 780 = true := by decide +kernel
theorem am_mk16 : am_mchk 16 518 81 516 517 = true := by decide +kernel
theorem am_mk17 : am_mchk 17 340 83 339 0 = true := by decide +kernel
theorem am_mk18 : am_mchk 18 482 83 480 481 = true := by decide +kernel
theorem am_mk19 : am_mchk 19 873 83 871 872 = true := by decide +kernel
theorem am_mk20 : am_mchk 20 877 83 876 16 = true := by decide +kernel
theorem am_mk21 : am_mchk 21 881 83 880 17 = true := by decide +kernel
theorem am_mk22 : am_mchk 22 885 83 884 18 = true := by decide +kernel
theorem am_mk23 : am_mchk 23 889 83 888 19 = true := by decide +kernel
theorem am_mk24 : am_mchk 24 893 83 892 20 = true := by decide +kernel
theorem am_mk25 : am_mchk 25 897 83 896 21 = true := by decide +kernel
theorem am_mk26 : am_mchk 26 901 83 900 22 = true := by decide +kernel
theorem am_mk27 : am_mchk 27 906 83 904 905 = true := by decide +kernel
theorem am_mk28 : am_mchk 28 912 83 911 23 = true := by decide +kernel
theorem am_mk29 : am_mchk 29 397 85 396 0 = true := by decide +kernel
theorem am_mk30 : am_mchk 30 494 85 492 493 = true := by decide +kernel
theorem am_mk31 : am_mchk 31 526 85 524 525 = true := by decide +kernel
theorem am_mk32 : am_mchk 32 530 85 528 529 = true := by decide +kernel
theorem am_mk33 : am_mchk 33 185 79 184 0 = true := by decide +kernel
theorem am_mk34 : am_mchk 34 552 79 550 551 = true := by decide +kernel
theorem am_mk35 : am_mchk 35 560 79 558 559 = true := by decide +kernel
theorem am_mk36 : am_mchk 36 762 79 761 12 = true := by decide +kernel
theorem am_mk37 : am_mchk 37 816 79 814 815 = true := by decide +kernel
theorem am_mk38 : am_mchk 38 498 79 496 497 = true := by decide +kernel
theorem am_mk39 : am_mchk 39 510 79 509 0 = true := by decide +kernel
theorem am_mk40 : am_mchk 40 514 79 513 1 = true := by decide +kernel
theorem am_mk41 : am_mchk 41 106 77 105 0 = true := by decide +kernel
theorem am_mk42 : am_mchk 42 466 77 464 465 = true := by decide +kernel
theorem am_mk43 : am_mchk 43 548 77 546 547 = true := by decide +kernel
theorem am_mk44 : am_mchk 44 564 77 562 563 = true := by decide +kernel
theorem am_mk45 : am_mchk 45 638 77 636 637 = true := by decide +kernel
theorem am_mk46 : am_mchk 46 642 77 640 641 = true := by decide +kernel
theorem am_mk47 : am_mchk 47 677 77 675 676 = true := by decide +kernel
theorem am_mk48 : am_mchk 48 673 77 671 672 = true := by decide +kernel
theorem am_mk49 : am_mchk 49 658 77 656 657 = true := by decide +kernel
theorem am_mk50 : am_mchk 50 654 77 652 653 = true := by decide +kernel
theorem am_mk51 : am_mchk 51 650 77 648 649 = true := by decide +kernel
theorem am_mk52 : am_mchk 52 689 77 687 688 = true := by decide +kernel
theorem am_mk53 : am_mchk 53 744 77 742 743 = true := by decide +kernel
theorem am_mk54 : am_mchk 54 383 84 382 0 = true := by decide +kernel
theorem am_mk55 : am_mchk 55 934 84 932 933 = true := by decide +kernel
theorem am_mk56 : am_mchk 56 938 84 936 937 = true := by decide +kernel
theorem am_mk57 : am_mchk 57 942 84 940 941 = true := by decide +kernel
theorem am_mk58 : am_mchk 58 949 84 947 948 = true := by decide +kernel
theorem am_mk59 : am_mchk 59 236 82 235 0 = true := by decide +kernel
theorem am_mk60 : am_mchk 60 669 82 667 668 = true := by decide +kernel
theorem am_mk61 : am_mchk 61 684 82 683 3 = true := by decide +kernel
theorem am_mk62 : am_mchk 62 506 82 504 505 = true := by decide +kernel
theorem am_mk63 : am_mchk 63 193 80 192 0 = true := by decide +kernel
theorem am_mk64 : am_mchk 64 556 80 554 555 = true := by decide +kernel
theorem am_mk65 : am_mchk 65 727 80 726 7 = true := by decide +kernel
theorem am_mk66 : am_mchk 66 733 80 732 8 = true := by decide +kernel
theorem am_mk67 : am_mchk 67 755 80 754 11 = true := by decide +kernel
theorem am_mk68 : am_mchk 68 739 80 738 9 = true := by decide +kernel
theorem am_mk69 : am_mchk 69 750 80 749 10 = true := by decide +kernel
theorem am_mk70 : am_mchk 70 522 80 520 521 = true := by decide +kernel
theorem am_mk71 : am_mchk 71 502 80 500 501 = true := by decide +kernel
theorem am_mk72 : am_mchk 72 98 76 97 0 = true := by decide +kernel
theorem am_mk73 : am_mchk 73 462 76 460 461 = true := by decide +kernel
theorem am_mk74 : am_mchk 74 544 76 542 543 = true := by decide +kernel
theorem am_mk75 : am_mchk 75 470 76 468 469 = true := by decide +kernel
theorem am_mk76 : am_mchk 76 474 76 472 473 = true := by decide +kernel
theorem am_mk77 : am_mchk 77 793 76 791 792 = true := by decide +kernel
theorem am_mk78 : am_mchk 78 832 76 830 831 = true := by decide +kernel
theorem am_mk79 : am_mchk 79 840 76 838 839 = true := by decide +kernel
theorem am_mk80 : am_mchk 80 862 76 860 861 = true := by decide +kernel
theorem am_mk81 : am_mchk 81 478 76 476 477 = true := by decide +kernel
theorem am_mk82 : am_mchk 82 869 76 867 868 = true := by decide +kernel
theorem am_mk83 : am_mchk 83 486 76 484 485 = true := by decide +kernel
theorem am_mk84 : am_mchk 84 919 76 917 918 = true := by decide +kernel
theorem am_mk85 : am_mchk 85 926 76 924 925 = true := by decide +kernel
theorem am_mk86 : am_mchk 86 490 76 488 489 = true := by decide +kernel
theorem am_mk87 : am_mchk 87 959 76 957 958 = true := by decide +kernel
theorem am_mk88 : am_mchk 88 797 76 796 15 = true := by decide +kernel
theorem am_mk89 : am_mchk 89 785 76 784 14 = true := by decide +kernel
theorem am_mk90 : am_mchk 90 930 76 929 24 = true := by decide +kernel
theorem am_mk91 : am_mchk 91 964 86 963 0 = true := by decide +kernel
theorem am_mk92 : am_mchk 92 1144 86 1142 1143 = true := by decide +kernel
theorem am_mk93 : am_mchk 93 1278 86 1277 54 = true := by decide +kernel
theorem am_mk94 : am_mchk 94 1148 86 1146 1147 = true := by decide +kernel
theorem am_mk95 : am_mchk 95 1168 86 1167 28 = true := by decide +kernel
theorem am_mk96 : am_mchk 96 1160 86 1159 26 = true := by decide +kernel
theorem am_mk97 : am_mchk 97 1206 86 1205 37 = true := by decide +kernel
theorem am_mk98 : am_mchk 98 1192 86 1191 34 = true := by decide +kernel
theorem am_mk99 : am_mchk 99 1188 86 1187 33 = true := by decide +kernel
theorem am_mk100 : am_mchk 100 1172 86 1171 29 = true := by decide +kernel
theorem am_mk101 : am_mchk 101 1176 86 1175 30 = true := by decide +kernel
theorem am_mk102 : am_mchk 102 1202 86 1201 36 = true := by decide +kernel
theorem am_mk103 : am_mchk 103 1214 86 1213 39 = true := by decide +kernel
theorem am_mk104 : am_mchk 104 1244 86 1243 46 = true := by decide +kernel
theorem am_mk105 : am_mchk 105 1240 86 1239 45 = true := by decide +kernel
theorem am_mk106 : am_mchk 106 1236 86 1235 44 = true := by decide +kernel
theorem am_mk107 : am_mchk 107 1262 86 1261 50 = true := by decide +kernel
theorem am_mk108 : am_mchk 108 1232 86 1231 43 = true := by decide +kernel
theorem am_mk109 : am_mchk 109 1248 86 1247 47 = true := by decide +kernel
theorem am_mk110 : am_mchk 110 1252 86 1251 48 = true := by decide +kernel
theorem am_mk111 : am_mchk 111 1256 86 1255 49 = true := by decide +kernel
theorem am_mk112 : am_mchk 112 1152 86 1150 1151 = true := by decide +kernel
theorem am_mk113 : am_mchk 113 1164 86 1163 27 = true := by decide +kernel
theorem am_mk114 : am_mchk 114 1156 86 1155 25 = true := by decide +kernel
theorem am_mk115 : am_mchk 115 1184 86 1183 32 = true := by decide +kernel
theorem am_mk116 : am_mchk 116 1180 86 1179 31 = true := by decide +kernel
theorem am_mk117 : am_mchk 117 1197 86 1196 35 = true := by decide +kernel
theorem am_mk118 : am_mchk 118 1210 86 1209 38 = true := by decide +kernel
theorem am_mk119 : am_mchk 119 1218 86 1217 40 = true := by decide +kernel
theorem am_mk120 : am_mchk 120 1224 86 1223 41 = true := by decide +kernel
theorem am_mk121 : am_mchk 121 1228 86 1227 42 = true := by decide +kernel
theorem am_mk122 : am_mchk 122 1266 86 1265 51 = true := by decide +kernel
theorem am_mk123 : am_mchk 123 1274 86 1273 53 = true := by decide +kernel
theorem am_mk124 : am_mchk 124 1270 86 1269 52 = true := by decide +kernel
theorem am_mk125 : am_mchk 125 1282 86 1280 1281 = true := by decide +kernel
theorem am_mk126 : am_mchk 126 1286 86 1284 1285 = true := by decide +kernel
theorem am_mk127 : am_mchk 127 1294 86 1293 55 = true := by decide +kernel
theorem am_mk128 : am_mchk 128 1298 86 1297 56 = true := by decide +kernel
theorem am_mk129 : am_mchk 129 1305 86 1304 0 = true := by decide +kernel
theorem am_mk130 : am_mchk 130 1302 86 1301 57 = true := by decide +kernel
theorem am_mk131 : am_mchk 131 1290 86 1288 1289 = true := by decide +kernel
theorem am_mk132 : am_mchk 132 1334 86 1333 63 = true := by decide +kernel
theorem am_mk133 : am_mchk 133 1330 86 1329 62 = true := by decide +kernel
theorem am_mk134 : am_mchk 134 1322 86 1321 60 = true := by decide +kernel
theorem am_mk135 : am_mchk 135 1318 86 1317 59 = true := by decide +kernel
theorem am_mk136 : am_mchk 136 1326 86 1325 61 = true := by decide +kernel
theorem am_mk137 : am_mchk 137 1314 86 1313 58 = true := by decide +kernel
theorem am_mk138 : am_mchk 138 1310 86 1308 1309 = true := by decide +kernel
theorem am_mk139 : am_mchk 139 1342 86 1341 64 = true := by decide +kernel
theorem am_mk140 : am_mchk 140 1346 86 1345 65 = true := by decide +kernel
theorem am_mk141 : am_mchk 141 1338 86 1336 1337 = true := by decide +kernel
theorem am_mk142 : am_mchk 142 1351 86 1349 1350 = true := by decide +kernel
theorem am_mk143 : am_mchk 143 1355 86 1353 1354 = true := by decide +kernel
theorem am_mk144 : am_mchk 144 1367 86 1366 67 = true := by decide +kernel
theorem am_mk145 : am_mchk 145 1377 86 1376 0 = true := by decide +kernel
theorem am_mk146 : am_mchk 146 1374 86 1373 0 = true := by decide +kernel
theorem am_mk147 : am_mchk 147 1380 86 1379 0 = true := by decide +kernel
theorem am_mk148 : am_mchk 148 1363 86 1362 66 = true := by decide +kernel
theorem am_mk149 : am_mchk 149 1371 86 1370 68 = true := by decide +kernel
theorem am_mk150 : am_mchk 150 1389 86 1388 70 = true := by decide +kernel
theorem am_mk151 : am_mchk 151 1385 86 1384 69 = true := by decide +kernel
theorem am_mk152 : am_mchk 152 1359 86 1357 1358 = true := by decide +kernel
theorem am_mk153 : am_mchk 153 1393 86 1391 1392 = true := by decide +kernel
theorem am_mk154 : am_mchk 154 1397 86 1395 1396 = true := by decide +kernel
theorem am_mk155 : am_mchk 155 1405 86 1404 71 = true := by decide +kernel
theorem am_mk156 : am_mchk 156 1409 86 1408 72 = true := by decide +kernel
theorem am_mk157 : am_mchk 157 1401 86 1399 1400 = true := by decide +kernel
theorem am_mk158 : am_mchk 158 1417 86 1416 73 = true := by decide +kernel
theorem am_mk159 : am_mchk 159 1413 86 1411 1412 = true := by decide +kernel
theorem am_mk160 : am_mchk 160 1421 86 1420 74 = true := by decide +kernel
theorem am_mk161 : am_mchk 161 1425 86 1423 1424 = true := by decide +kernel
theorem am_mk162 : am_mchk 162 819 92 818 0 = true := by decide +kernel
theorem am_mk163 : am_mchk 163 823 92 822 0 = true := by decide +kernel
theorem am_mk164 : am_mchk 164 945 92 944 0 = true := by decide +kernel
theorem am_mk165 : am_mchk 165 536 92 535 0 = true := by decide +kernel
theorem am_mk166 : am_mchk 166 533 92 532 0 = true := by decide +kernel
theorem am_mk167 : am_mchk 167 539 75 538 0 = true := by decide +kernel
theorem am_mk168 : am_mchk 168 788 75 787 0 = true := by decide +kernel
theorem am_mk169 : am_mchk 169 828 75 827 0 = true := by decide +kernel
theorem am_mk170 : am_mchk 170 835 75 834 0 = true := by decide +kernel
theorem am_mk171 : am_mchk 171 858 75 857 0 = true := by decide +kernel
theorem am_mk172 : am_mchk 172 865 75 864 0 = true := by decide +kernel
theorem am_mk173 : am_mchk 173 915 75 914 0 = true := by decide +kernel
theorem am_mk174 : am_mchk 174 922 75 921 0 = true := by decide +kernel
theorem am_mk175 : am_mchk 175 955 75 954 0 = true := by decide +kernel
