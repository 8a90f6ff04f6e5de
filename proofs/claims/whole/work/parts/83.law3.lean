set_option maxRecDepth 20000 in
theorem in_wsL_law0_r28 : ∀ w ∈ wsL_law0_r28, w ∈ lw_tbl := mem_r _ [687, 688, 689, 690, 691, 692, 693, 694, 695, 1113, 1114, 1115, 1116, 697, 698, 699, 700, 701, 702, 703, 705, 706, 707, 708] (by decide +kernel)
set_option maxRecDepth 20000 in
theorem in_wsL_law0_r29 : ∀ w ∈ wsL_law0_r29, w ∈ lw_tbl := mem_r _ [709, 710, 712, 6, 713, 714, 716, 7, 717, 718, 719, 720, 721, 722, 1117, 1118, 1119, 1120, 1121, 1123, 34, 1124, 723, 724] (by decide +kernel)
set_option maxRecDepth 20000 in
theorem in_wsL_law0_r30 : ∀ w ∈ wsL_law0_r30, w ∈ lw_tbl := mem_r _ [725, 726, 727, 728, 729, 730, 731, 732, 733, 1125, 1126, 1127, 1128, 734, 735, 736, 737, 738, 739, 740, 741, 742, 743, 744] (by decide +kernel)
set_option maxRecDepth 20000 in
theorem in_wsL_law0_r31 : ∀ w ∈ wsL_law0_r31, w ∈ lw_tbl := mem_r _ [745, 746, 1129, 1130, 1131, 1132, 1133, 1135, 35, 1136, 1137, 1139, 36, 1140, 1141, 1143, 37, 1144, 747, 748, 749, 750, 751, 752] (by decide +kernel)
set_option maxRecDepth 20000 in
theorem in_wsL_law0_r32 : ∀ w ∈ wsL_law0_r32, w ∈ lw_tbl := mem_r _ [753, 1149, 1150, 1151, 1152, 754, 755, 756, 757, 758, 759, 760, 761, 762, 763, 764, 1145, 1146, 1147, 1148, 765, 766, 767, 768] (by decide +kernel)
set_option maxRecDepth 20000 in
theorem in_wsL_law0_r33 : ∀ w ∈ wsL_law0_r33, w ∈ lw_tbl := mem_r _ [769, 770, 771, 772, 198, 62, 199, 200, 201, 202, 203, 204, 1153, 1154, 1155, 1156, 1157, 1159, 38, 1160, 773, 774, 775, 776] (by decide +kernel)
set_option maxRecDepth 20000 in
theorem in_wsL_law0_r34 : ∀ w ∈ wsL_law0_r34, w ∈ lw_tbl := mem_r _ [777, 778, 779, 780, 206, 207, 193, 208, 212, 1161, 1162, 1163, 1164, 782, 783, 784, 785, 786, 787, 788, 789, 790, 791, 793] (by decide +kernel)
set_option maxRecDepth 20000 in
theorem in_wsL_law0_r35 : ∀ w ∈ wsL_law0_r35, w ∈ lw_tbl := mem_r _ [794, 795, 796, 797, 798, 799, 800, 801, 802, 1165, 1166, 1167, 1168, 1169, 1170, 1172, 39, 1173, 803, 804, 805, 806, 807, 808] (by decide +kernel)
set_option maxRecDepth 20000 in
theorem in_wsL_law0_r36 : ∀ w ∈ wsL_law0_r36, w ∈ lw_tbl := mem_r _ [809, 810, 811, 812, 813, 814, 816, 8, 817, 818, 820, 9, 821, 822, 823, 825, 10, 826, 1174, 1175, 1176, 1177, 1178, 1180] (by decide +kernel)
set_option maxRecDepth 20000 in
theorem in_wsL_law0_r37 : ∀ w ∈ wsL_law0_r37, w ∈ lw_tbl := mem_r _ [40, 1181, 1182, 1184, 41, 1185, 1186, 1188, 42, 1189, 827, 828, 829, 830, 844, 845, 846, 847, 848, 63, 1190, 1191, 1192, 1193] (by decide +kernel)
set_option maxRecDepth 20000 in
theorem in_wsL_law0_r38 : ∀ w ∈ wsL_law0_r38, w ∈ lw_tbl := mem_r _ [851, 852, 853, 854, 855, 856, 857, 859, 860, 861, 862, 1194, 1195, 1196, 1197, 137, 138, 139, 140, 141, 142, 1198, 1199, 1200] (by decide +kernel)
set_option maxRecDepth 20000 in
theorem in_wsL_law0_r39 : ∀ w ∈ wsL_law0_r39, w ∈ lw_tbl := mem_r _ [1201, 1202, 1203, 170, 171, 172, 173, 174, 175, 176, 182, 183, 184, 185, 186, 187, 188, 189, 190, 191, 192, 197, 205, 1204] (by decide +kernel)
set_option maxRecDepth 20000 in
theorem in_wsL_law0_r40 : ∀ w ∈ wsL_law0_r40, w ∈ lw_tbl := mem_r _ [1205, 1206, 1207] (by decide +kernel)
