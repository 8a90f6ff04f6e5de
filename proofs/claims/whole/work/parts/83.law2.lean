set_option maxRecDepth 20000 in
theorem in_wsL_law0_r15 : ∀ w ∈ wsL_law0_r15, w ∈ lw_tbl := mem_r _ [990, 991, 992, 994, 22, 995, 996, 998, 23, 999, 504, 505, 506, 507, 508, 509, 510, 511, 512, 513, 514, 1000, 1001, 1002] (by decide +kernel)
set_option maxRecDepth 20000 in
theorem in_wsL_law0_r16 : ∀ w ∈ wsL_law0_r16, w ∈ lw_tbl := mem_r _ [1003, 515, 516, 517, 518, 519, 520, 521, 1004, 1005, 1006, 1007, 522, 523, 524, 525, 526, 527, 528, 1008, 1009, 1010, 1011, 529] (by decide +kernel)
set_option maxRecDepth 20000 in
theorem in_wsL_law0_r17 : ∀ w ∈ wsL_law0_r17, w ∈ lw_tbl := mem_r _ [530, 531, 532, 533, 534, 535, 536, 537, 538, 539, 1012, 1013, 1014, 1015, 1016, 1018, 24, 1019, 540, 541, 542, 543, 544, 545] (by decide +kernel)
set_option maxRecDepth 20000 in
theorem in_wsL_law0_r18 : ∀ w ∈ wsL_law0_r18, w ∈ lw_tbl := mem_r _ [546, 1020, 1021, 1022, 1023, 1024, 1026, 25, 1027, 1028, 1030, 26, 1031, 547, 548, 549, 550, 551, 552, 553, 554, 1032, 1033, 1034] (by decide +kernel)
set_option maxRecDepth 20000 in
theorem in_wsL_law0_r19 : ∀ w ∈ wsL_law0_r19, w ∈ lw_tbl := mem_r _ [1035, 555, 556, 557, 558, 559, 560, 561, 562, 563, 564, 565, 1036, 1037, 1038, 1039, 566, 567, 568, 569, 570, 571, 572, 147] (by decide +kernel)
set_option maxRecDepth 20000 in
theorem in_wsL_law0_r20 : ∀ w ∈ wsL_law0_r20, w ∈ lw_tbl := mem_r _ [148, 149, 150, 1040, 1041, 1042, 1043, 1044, 1046, 27, 1047, 573, 574, 575, 576, 577, 578, 579, 1048, 1049, 1050, 1051, 580, 581] (by decide +kernel)
set_option maxRecDepth 20000 in
theorem in_wsL_law0_r21 : ∀ w ∈ wsL_law0_r21, w ∈ lw_tbl := mem_r _ [582, 583, 584, 585, 586, 588, 589, 590, 591, 1052, 1053, 1054, 1055, 1056, 592, 593, 594, 595, 596, 597, 598, 155, 156, 157] (by decide +kernel)
set_option maxRecDepth 20000 in
theorem in_wsL_law0_r22 : ∀ w ∈ wsL_law0_r22, w ∈ lw_tbl := mem_r _ [158, 159, 160, 161, 162, 1057, 1058, 1059, 1060, 1061, 1063, 28, 1064, 1065, 1067, 29, 1068, 599, 600, 601, 602, 603, 604, 605] (by decide +kernel)
set_option maxRecDepth 20000 in
theorem in_wsL_law0_r23 : ∀ w ∈ wsL_law0_r23, w ∈ lw_tbl := mem_r _ [606, 608, 60, 607, 1069, 1070, 1071, 1072, 624, 625, 626, 627, 628, 629, 630, 631, 632, 633, 634, 1073, 1074, 1075, 1076, 635] (by decide +kernel)
set_option maxRecDepth 20000 in
theorem in_wsL_law0_r24 : ∀ w ∈ wsL_law0_r24, w ∈ lw_tbl := mem_r _ [636, 637, 638, 639, 640, 641, 642, 209, 210, 211, 1077, 1078, 1079, 1080, 1081, 1083, 30, 1084, 643, 644, 645, 646, 647, 648] (by decide +kernel)
set_option maxRecDepth 20000 in
theorem in_wsL_law0_r25 : ∀ w ∈ wsL_law0_r25, w ∈ lw_tbl := mem_r _ [649, 650, 651, 652, 653, 1085, 1086, 1087, 1088, 654, 655, 656, 657, 658, 659, 660, 1089, 1090, 1091, 1092, 661, 662, 663, 664] (by decide +kernel)
set_option maxRecDepth 20000 in
theorem in_wsL_law0_r26 : ∀ w ∈ wsL_law0_r26, w ∈ lw_tbl := mem_r _ [665, 666, 667, 668, 669, 670, 671, 672, 674, 5, 675, 1093, 1094, 1095, 1096, 676, 677, 678, 679, 680, 681, 682, 683, 684] (by decide +kernel)
set_option maxRecDepth 20000 in
theorem in_wsL_law0_r27 : ∀ w ∈ wsL_law0_r27, w ∈ lw_tbl := mem_r _ [61, 685, 177, 178, 179, 180, 181, 1097, 1098, 1099, 1100, 1101, 1103, 31, 1104, 1105, 1107, 32, 1108, 1109, 1111, 33, 1112, 686] (by decide +kernel)
