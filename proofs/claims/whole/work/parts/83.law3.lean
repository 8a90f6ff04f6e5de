set_option maxRecDepth 20000 in
theorem in_wsL_law0_r28 : ∀ w ∈ wsL_law0_r28, w ∈ lw_tbl := mem_r _ [689, 690, 691, 692, 693, 694, 695, 1122, 1123, 1124, 1125, 697, 698, 699, 700, 701, 702, 703, 705, 706, 707, 708, 709, 710] (by decide +kernel)
set_option maxRecDepth 20000 in
theorem in_wsL_law0_r29 : ∀ w ∈ wsL_law0_r29, w ∈ lw_tbl := mem_r _ [712, 6, 713, 714, 716, 7, 717, 718, 720, 8, 721, 722, 723, 724, 725, 726, 727, 728, 729, 730, 1126, 1127, 1128, 1129] (by decide +kernel)
set_option maxRecDepth 20000 in
theorem in_wsL_law0_r30 : ∀ w ∈ wsL_law0_r30, w ∈ lw_tbl := mem_r _ [1130, 1132, 36, 1133, 731, 732, 733, 734, 735, 736, 737, 738, 1134, 1135, 1136, 1137, 739, 740, 741, 742, 743, 744, 745, 746] (by decide +kernel)
set_option maxRecDepth 20000 in
theorem in_wsL_law0_r31 : ∀ w ∈ wsL_law0_r31, w ∈ lw_tbl := mem_r _ [747, 748, 749, 750, 751, 1138, 1139, 1140, 1141, 1142, 1144, 37, 1145, 1146, 1148, 38, 1149, 1150, 1152, 39, 1153, 752, 753, 754] (by decide +kernel)
set_option maxRecDepth 20000 in
theorem in_wsL_law0_r32 : ∀ w ∈ wsL_law0_r32, w ∈ lw_tbl := mem_r _ [755, 756, 757, 758, 1158, 1159, 1160, 1161, 759, 760, 761, 762, 763, 764, 765, 766, 767, 768, 769, 1154, 1155, 1156, 1157, 770] (by decide +kernel)
set_option maxRecDepth 20000 in
theorem in_wsL_law0_r33 : ∀ w ∈ wsL_law0_r33, w ∈ lw_tbl := mem_r _ [771, 772, 773, 774, 775, 776, 777, 199, 63, 200, 201, 202, 203, 204, 205, 1162, 1163, 1164, 1165, 1166, 1168, 40, 1169, 778] (by decide +kernel)
set_option maxRecDepth 20000 in
theorem in_wsL_law0_r34 : ∀ w ∈ wsL_law0_r34, w ∈ lw_tbl := mem_r _ [779, 780, 781, 782, 783, 784, 785, 207, 208, 194, 209, 213, 1170, 1171, 1172, 1173, 787, 788, 789, 790, 791, 792, 793, 794] (by decide +kernel)
set_option maxRecDepth 20000 in
theorem in_wsL_law0_r35 : ∀ w ∈ wsL_law0_r35, w ∈ lw_tbl := mem_r _ [795, 796, 798, 799, 800, 801, 802, 803, 804, 805, 806, 807, 808, 810, 9, 811, 1174, 1175, 1176, 1177, 1178, 1179, 1181, 41] (by decide +kernel)
set_option maxRecDepth 20000 in
theorem in_wsL_law0_r36 : ∀ w ∈ wsL_law0_r36, w ∈ lw_tbl := mem_r _ [1182, 812, 813, 814, 815, 816, 817, 818, 819, 820, 821, 822, 823, 825, 10, 826, 827, 829, 11, 830, 831, 832, 834, 12] (by decide +kernel)
set_option maxRecDepth 20000 in
theorem in_wsL_law0_r37 : ∀ w ∈ wsL_law0_r37, w ∈ lw_tbl := mem_r _ [835, 1183, 1184, 1185, 1186, 1187, 1189, 42, 1190, 1191, 1193, 43, 1194, 1195, 1197, 44, 1198, 836, 837, 838, 839, 853, 854, 855] (by decide +kernel)
set_option maxRecDepth 20000 in
theorem in_wsL_law0_r38 : ∀ w ∈ wsL_law0_r38, w ∈ lw_tbl := mem_r _ [856, 857, 64, 1199, 1200, 1201, 1202, 860, 861, 862, 863, 864, 865, 866, 868, 869, 870, 871, 1203, 1204, 1205, 1206, 138, 139] (by decide +kernel)
set_option maxRecDepth 20000 in
theorem in_wsL_law0_r39 : ∀ w ∈ wsL_law0_r39, w ∈ lw_tbl := mem_r _ [140, 141, 142, 143, 1207, 1208, 1209, 1210, 1211, 1212, 171, 172, 173, 174, 175, 176, 177, 183, 184, 185, 186, 187, 188, 189] (by decide +kernel)
set_option maxRecDepth 20000 in
theorem in_wsL_law0_r40 : ∀ w ∈ wsL_law0_r40, w ∈ lw_tbl := mem_r _ [190, 191, 192, 193, 198, 206, 1213, 1214, 1215, 1216] (by decide +kernel)
