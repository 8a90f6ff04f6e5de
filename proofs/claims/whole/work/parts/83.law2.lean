set_option maxRecDepth 20000 in
theorem in_wsL_law0_r15 : ∀ w ∈ wsL_law0_r15, w ∈ lw_tbl := mem_r _ [1001, 1003, 24, 1004, 1005, 1007, 25, 1008, 504, 505, 506, 507, 508, 509, 510, 511, 512, 513, 514, 1009, 1010, 1011, 1012, 515] (by decide +kernel)
set_option maxRecDepth 20000 in
theorem in_wsL_law0_r16 : ∀ w ∈ wsL_law0_r16, w ∈ lw_tbl := mem_r _ [516, 517, 518, 519, 520, 521, 1013, 1014, 1015, 1016, 522, 523, 524, 525, 526, 527, 528, 1017, 1018, 1019, 1020, 529, 530, 531] (by decide +kernel)
set_option maxRecDepth 20000 in
theorem in_wsL_law0_r17 : ∀ w ∈ wsL_law0_r17, w ∈ lw_tbl := mem_r _ [532, 533, 534, 535, 536, 537, 538, 539, 1021, 1022, 1023, 1024, 1025, 1027, 26, 1028, 540, 541, 542, 543, 544, 545, 546, 1029] (by decide +kernel)
set_option maxRecDepth 20000 in
theorem in_wsL_law0_r18 : ∀ w ∈ wsL_law0_r18, w ∈ lw_tbl := mem_r _ [1030, 1031, 1032, 1033, 1035, 27, 1036, 1037, 1039, 28, 1040, 547, 548, 549, 550, 551, 552, 553, 554, 1041, 1042, 1043, 1044, 555] (by decide +kernel)
set_option maxRecDepth 20000 in
theorem in_wsL_law0_r19 : ∀ w ∈ wsL_law0_r19, w ∈ lw_tbl := mem_r _ [556, 557, 558, 559, 560, 561, 562, 563, 564, 565, 1045, 1046, 1047, 1048, 566, 567, 568, 569, 570, 571, 572, 148, 149, 150] (by decide +kernel)
set_option maxRecDepth 20000 in
theorem in_wsL_law0_r20 : ∀ w ∈ wsL_law0_r20, w ∈ lw_tbl := mem_r _ [151, 1049, 1050, 1051, 1052, 1053, 1055, 29, 1056, 573, 574, 575, 576, 577, 578, 579, 1057, 1058, 1059, 1060, 580, 581, 582, 583] (by decide +kernel)
set_option maxRecDepth 20000 in
theorem in_wsL_law0_r21 : ∀ w ∈ wsL_law0_r21, w ∈ lw_tbl := mem_r _ [584, 585, 586, 588, 589, 590, 591, 1061, 1062, 1063, 1064, 1065, 592, 593, 594, 595, 596, 597, 598, 156, 157, 158, 159, 160] (by decide +kernel)
set_option maxRecDepth 20000 in
theorem in_wsL_law0_r22 : ∀ w ∈ wsL_law0_r22, w ∈ lw_tbl := mem_r _ [161, 162, 163, 1066, 1067, 1068, 1069, 1070, 1072, 30, 1073, 1074, 1076, 31, 1077, 599, 600, 601, 602, 603, 604, 605, 606, 608] (by decide +kernel)
set_option maxRecDepth 20000 in
theorem in_wsL_law0_r23 : ∀ w ∈ wsL_law0_r23, w ∈ lw_tbl := mem_r _ [61, 607, 1078, 1079, 1080, 1081, 624, 625, 626, 627, 628, 629, 630, 631, 632, 633, 634, 1082, 1083, 1084, 1085, 635, 636, 637] (by decide +kernel)
set_option maxRecDepth 20000 in
theorem in_wsL_law0_r24 : ∀ w ∈ wsL_law0_r24, w ∈ lw_tbl := mem_r _ [638, 639, 640, 641, 642, 210, 211, 212, 1086, 1087, 1088, 1089, 1090, 1092, 32, 1093, 643, 644, 645, 646, 647, 648, 649, 650] (by decide +kernel)
set_option maxRecDepth 20000 in
theorem in_wsL_law0_r25 : ∀ w ∈ wsL_law0_r25, w ∈ lw_tbl := mem_r _ [651, 652, 653, 1094, 1095, 1096, 1097, 654, 655, 656, 657, 658, 659, 660, 1098, 1099, 1100, 1101, 661, 662, 663, 664, 665, 666] (by decide +kernel)
set_option maxRecDepth 20000 in
theorem in_wsL_law0_r26 : ∀ w ∈ wsL_law0_r26, w ∈ lw_tbl := mem_r _ [667, 668, 669, 670, 671, 672, 674, 5, 675, 1102, 1103, 1104, 1105, 676, 677, 678, 679, 680, 681, 682, 683, 684, 62, 685] (by decide +kernel)
set_option maxRecDepth 20000 in
theorem in_wsL_law0_r27 : ∀ w ∈ wsL_law0_r27, w ∈ lw_tbl := mem_r _ [178, 179, 180, 181, 182, 1106, 1107, 1108, 1109, 1110, 1112, 33, 1113, 1114, 1116, 34, 1117, 1118, 1120, 35, 1121, 686, 687, 688] (by decide +kernel)
