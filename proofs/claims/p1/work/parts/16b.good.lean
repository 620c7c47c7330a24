theorem zin_p {big ws : List Cond} (ps : List Nat) (hp : ws = ps.filterMap (fun i => big[i]?)) : ∀ w ∈ ws, w ∈ big := fun w hw => by
  rw [hp] at hw
  obtain ⟨i, -, hi⟩ := List.mem_filterMap.mp hw
  exact List.mem_of_getElem? hi
set_option maxRecDepth 40000 in
theorem zKB_in : ∀ w ∈ zKB, w ∈ lw_tbl := zin_p [575, 577, 579, 574, 642, 682, 719, 895, 1105] (by decide +kernel)
set_option maxRecDepth 40000 in
theorem zKN_in : ∀ w ∈ zKN, w ∈ lw_tbl := zin_p [102, 267, 166, 232] (by decide +kernel)
set_option maxRecDepth 40000 in
theorem gt_at0_RX8_164 : GoodIn lw_tbl ((vx_at0 RX8 164 "java/lang/IndexOutOfBoundsException" ["java/lang/RuntimeException", "java/lang/Exception"]).filter goodWord) := goodIn_r _ [69, 594, 603, 611, 614, 616, 595, 596, 98, 99, 597, 602, 612, 629, 584, 630, 586, 631, 588, 598, 600, 590, 903, 904, 905, 621, 621, 622, 623, 624, 624, 625, 626, 595, 902, 894, 896, 608, 897, 898, 899, 900, 593, 592, 901] (by decide +kernel) (by decide +kernel)
set_option maxRecDepth 40000 in
theorem gt_at0_RX8_206 : GoodIn lw_tbl ((vx_at0 RX8 206 "java/util/NoSuchElementException" ["java/lang/RuntimeException", "java/lang/Exception"]).filter goodWord) := goodIn_r _ [69, 594, 603, 611, 614, 616, 595, 596, 98, 99, 597, 602, 612, 629, 584, 630, 586, 631, 588, 598, 600, 590, 727, 728, 729, 621, 621, 622, 623, 624, 624, 625, 626, 595, 726, 718, 720, 610, 721, 722, 723, 724, 593, 592, 725] (by decide +kernel) (by decide +kernel)
set_option maxRecDepth 40000 in
theorem gt_at0_RX8_255 : GoodIn lw_tbl ((vx_at0 RX8 255 "java/lang/ArithmeticException" ["java/lang/RuntimeException", "java/lang/Exception"]).filter goodWord) := goodIn_r _ [69, 594, 603, 611, 614, 616, 595, 596, 98, 99, 597, 602, 612, 629, 584, 630, 586, 631, 588, 598, 600, 590, 1121, 1122, 1123, 621, 621, 622, 623, 624, 624, 625, 626, 595, 1120, 1094, 1106, 605, 1100, 1101, 1103, 1099, 593, 592, 1098] (by decide +kernel) (by decide +kernel)
set_option maxRecDepth 40000 in
theorem gt_at0_RX8_54 : GoodIn lw_tbl ((vx_at0 RX8 54 "java/lang/IllegalArgumentException" ["java/lang/RuntimeException", "java/lang/Exception"]).filter goodWord) := goodIn_r _ [69, 594, 603, 611, 614, 616, 595, 596, 98, 99, 597, 602, 612, 629, 584, 630, 586, 631, 588, 598, 600, 590, 618, 619, 620, 621, 621, 622, 623, 624, 624, 625, 626, 595, 617, 573, 581, 582, 583, 585, 587, 589, 593, 592, 591] (by decide +kernel) (by decide +kernel)
set_option maxRecDepth 40000 in
theorem gt_at0_RX8_61 : GoodIn lw_tbl ((vx_at0 RX8 61 "java/lang/IllegalStateException" ["java/lang/RuntimeException", "java/lang/Exception"]).filter goodWord) := goodIn_r _ [69, 594, 603, 611, 614, 616, 595, 596, 98, 99, 597, 602, 612, 629, 584, 630, 586, 631, 588, 598, 600, 590, 650, 651, 652, 621, 621, 622, 623, 624, 624, 625, 626, 595, 649, 641, 643, 607, 644, 645, 646, 647, 593, 592, 648] (by decide +kernel) (by decide +kernel)
set_option maxRecDepth 40000 in
theorem gt_at0_RX8_76 : GoodIn lw_tbl ((vx_at0 RX8 76 "java/lang/UnsupportedOperationException" ["java/lang/RuntimeException", "java/lang/Exception"]).filter goodWord) := goodIn_r _ [69, 594, 603, 611, 614, 616, 595, 596, 98, 99, 597, 602, 612, 629, 584, 630, 586, 631, 588, 598, 600, 590, 690, 691, 692, 621, 621, 622, 623, 624, 624, 625, 626, 595, 689, 681, 683, 609, 684, 685, 686, 687, 593, 592, 688] (by decide +kernel) (by decide +kernel)
set_option maxRecDepth 40000 in
theorem gt_atM : GoodIn lw_tbl ((vx_atM "java/lang/ArrayIndexOutOfBoundsException" ["java/lang/IndexOutOfBoundsException", "java/lang/RuntimeException", "java/lang/Exception"]).filter goodWord) := goodIn_r _ [69, 594, 603, 611, 614, 616, 595, 596, 98, 99, 597, 602, 612, 629, 584, 630, 586, 631, 588, 598, 600, 590, 870, 871, 628, 590, 858, 859, 860, 861, 861, 862, 863, 864, 864, 865, 866, 867, 867, 868, 869, 870, 79, 883, 884, 885, 887, 886, 888, 78, 857, 882, 606, 874, 875, 877, 873, 593, 592, 872] (by decide +kernel) (by decide +kernel)
set_option maxRecDepth 40000 in
theorem gt_wsJ00 : GoodIn lw_tbl wsJ00 := goodIn_r _ [885, 887, 1713, 1715] (by decide +kernel) (by decide +kernel)
set_option maxRecDepth 40000 in
theorem gt_wsJ40 : GoodIn lw_tbl wsJ40 := goodIn_r _ [1433, 1435, 1437, 1439] (by decide +kernel) (by decide +kernel)
set_option maxRecDepth 40000 in
theorem gt_wsJx000600 : GoodIn lw_tbl wsJx000600 := goodIn_r _ [872, 873, 874, 875, 876, 877] (by decide +kernel) (by decide +kernel)
set_option maxRecDepth 40000 in
theorem gt_wsX00 : GoodIn lw_tbl wsX00 := goodIn_r _ [252, 254, 256, 258, 260, 262] (by decide +kernel) (by decide +kernel)
set_option maxRecDepth 40000 in
theorem gt_wsX10 : GoodIn lw_tbl wsX10 := goodIn_r _ [149, 151, 153, 155] (by decide +kernel) (by decide +kernel)
set_option maxRecDepth 40000 in
theorem gt_wsX20 : GoodIn lw_tbl wsX20 := goodIn_r _ [276, 278, 280] (by decide +kernel) (by decide +kernel)
set_option maxRecDepth 40000 in
theorem gt_wsX30 : GoodIn lw_tbl wsX30 := goodIn_r _ [197, 199, 201, 203, 205, 207, 209, 211, 213, 215, 217, 219, 221] (by decide +kernel) (by decide +kernel)
set_option maxRecDepth 40000 in
theorem gt_wsX40 : GoodIn lw_tbl wsX40 := goodIn_r _ [113] (by decide +kernel) (by decide +kernel)
set_option maxRecDepth 40000 in
theorem gt_wsX50 : GoodIn lw_tbl wsX50 := goodIn_r _ [122, 124, 126, 128, 130] (by decide +kernel) (by decide +kernel)
set_option maxRecDepth 40000 in
theorem gt_wsX60 : GoodIn lw_tbl wsX60 := goodIn_r _ [238, 240] (by decide +kernel) (by decide +kernel)
set_option maxRecDepth 40000 in
theorem gt_wsX70 : GoodIn lw_tbl wsX70 := goodIn_r _ [175, 177, 179] (by decide +kernel) (by decide +kernel)
set_option maxRecDepth 40000 in
theorem gt_wsX80 : GoodIn lw_tbl wsX80 := goodIn_r _ [289, 291, 293, 295, 297, 299] (by decide +kernel) (by decide +kernel)
set_option maxRecDepth 40000 in
theorem gt_wsX90 : GoodIn lw_tbl wsX90 := goodIn_r _ [1180, 1182, 1184, 1186, 1188, 1190, 1192, 1194, 1196, 1198, 1200, 1202, 1204, 1206, 1208, 1210, 1212, 1214, 1216, 1218, 1220, 1222] (by decide +kernel) (by decide +kernel)
set_option maxRecDepth 40000 in
theorem gP_L_move : GoodIn lw_tbl wsL_move := (goodIn_ca (goodIn_ca (goodIn_ca (goodIn_ca (goodIn_ca (goodIn_ca (goodIn_ca (goodIn_ca (goodIn_ca (goodIn_ca (goodIn_r _ [707, 708, 565, 567, 709, 710, 711, 59, 712, 572, 72, 680, 74, 283, 285, 713, 715, 18, 716, 717, 76, 440, 441, 442, 60, 443, 118, 318, 319, 320, 61, 321, 112, 418, 311, 312, 313, 121, 668, 331, 332, 63, 333, 191, 334, 732, 384, 385, 386, 733, 734, 735, 736, 737, 676, 677, 678, 117, 679, 659, 661, 15, 662, 663, 142, 143, 144, 673, 367, 368, 369, 119, 738, 656, 657, 658, 664, 666, 16, 667, 468, 315, 316, 317, 669, 670, 671, 672, 674, 340, 341, 342, 120, 695, 697, 17, 698, 699, 700, 701, 702, 703, 704, 359, 360, 361, 184, 362, 364, 1, 365, 185, 187, 310, 314, 366, 370, 371, 372, 62, 373, 146, 374, 339, 343, 326, 327, 328, 329, 330, 375, 377, 2, 378, 190, 189, 188, 379, 380, 381, 382, 383, 387, 389, 3, 390, 344, 345, 346, 347, 391, 393, 4, 394, 403, 404, 75, 405, 186, 395, 396, 397, 398, 193, 399, 400, 401, 402, 192, 406, 407, 408, 409, 147, 410, 411, 412, 413, 353, 354, 64, 355, 174, 173, 172, 356, 335, 336, 337, 338] (by decide +kernel) (by decide +kernel)) gt_wsX80) gt_wsX50) gt_wsX40) gt_wsX30) gt_wsX10) gt_wsX70) gt_atM) gt_at0_RX8_54) gt_at0_RX8_76) gt_at0_RX8_206)
set_option maxRecDepth 40000 in
theorem gP_X9_move : GoodIn lw_tbl wsX9_move := (goodIn_ca (goodIn_ca (goodIn_r _ [1289, 1172, 1167, 1165, 1290, 1292, 44, 68, 1293, 1158, 1294, 1296, 45, 1297, 1171, 1234, 1235, 1236, 1237, 1239, 32, 1240, 1253, 1255, 36, 1256, 1166, 1241, 1243, 33, 1244, 1245, 1247, 34, 1248, 1162, 1249, 1251, 35, 1252, 1159, 1257, 1259, 37, 1260, 1261, 1263, 38, 1264, 1163, 1160, 1161, 1281, 404, 75, 405, 1164, 1265, 1267, 39, 1268, 1269, 1271, 40, 1272, 1273, 1275, 41, 1276, 1168, 1277, 1279, 42, 1280, 1282, 1284, 43, 1285, 1176, 1173, 1174, 1175, 1169] (by decide +kernel) (by decide +kernel)) gt_wsX90) gt_atM)
set_option maxRecDepth 40000 in
theorem gP_X9_thrown : GoodIn lw_tbl wsX9_thrown := (goodIn_ca (goodIn_r _ [1229, 1158] (by decide +kernel) (by decide +kernel)) gt_wsX90)
set_option maxRecDepth 40000 in
theorem gP_L_setLevel : GoodIn lw_tbl wsL_setLevel := (goodIn_ca (goodIn_ca (goodIn_ca (goodIn_ca (goodIn_ca (goodIn_ca (goodIn_ca (goodIn_ca (goodIn_ca (goodIn_ca (goodIn_r _ [741, 708, 565, 567, 742, 743, 744, 59, 745, 572, 72, 680, 74, 285, 283, 713, 715, 18, 716, 717, 76, 440, 441, 442, 60, 443, 118, 318, 319, 320, 61, 321, 112, 668, 331, 332, 63, 333, 191, 334, 469, 367, 368, 369, 119, 746, 747, 748, 749, 663, 142, 143, 144, 664, 666, 16, 667, 418, 311, 312, 313, 121, 468, 315, 316, 317, 117, 669, 670, 671, 672, 673, 674, 340, 341, 342, 120, 695, 697, 17, 698, 699, 700, 701, 702, 703, 704, 359, 360, 361, 184, 362, 364, 1, 365, 185, 187, 310, 314, 366, 370, 371, 372, 62, 373, 146, 374, 339, 343, 326, 327, 328, 329, 330, 375, 377, 2, 378, 190, 189, 188, 379, 380, 381, 382, 383, 384, 385, 386, 387, 389, 3, 390, 344, 345, 346, 347, 391, 393, 4, 394, 403, 404, 75, 405, 186, 395, 396, 397, 398, 193, 399, 400, 401, 402, 192, 406, 407, 408, 409, 147, 410, 411, 412, 413, 353, 354, 64, 355, 174, 173, 172, 356, 335, 336, 337, 338] (by decide +kernel) (by decide +kernel)) gt_wsX80) gt_wsX50) gt_wsX40) gt_wsX30) gt_wsX10) gt_wsX70) gt_atM) gt_at0_RX8_54) gt_at0_RX8_76) gt_at0_RX8_206)
set_option maxRecDepth 40000 in
theorem gP_X9_setLevel : GoodIn lw_tbl wsX9_setLevel := (goodIn_ca (goodIn_ca (goodIn_r _ [1301, 1167, 1159, 1290, 1292, 44, 68, 1293, 1158, 1294, 1296, 45, 1297, 1171, 1165, 1234, 1235, 1236, 1237, 1239, 32, 1240, 1245, 1247, 34, 1248, 1172, 1166, 1162, 1249, 1251, 35, 1252, 1257, 1259, 37, 1260, 1261, 1263, 38, 1264, 1163, 1160, 1161, 1281, 404, 75, 405, 1164, 1265, 1267, 39, 1268, 1269, 1271, 40, 1272, 1273, 1275, 41, 1276, 1168, 1277, 1279, 42, 1280, 1282, 1284, 43, 1285, 1176, 1173, 1174, 1175, 1169] (by decide +kernel) (by decide +kernel)) gt_wsX90) gt_atM)
set_option maxRecDepth 40000 in
theorem gP_L_remove : GoodIn lw_tbl wsL_remove := (goodIn_ca (goodIn_ca (goodIn_ca (goodIn_ca (goodIn_ca (goodIn_ca (goodIn_ca (goodIn_ca (goodIn_ca (goodIn_r _ [752, 708, 567, 753, 754, 755, 59, 756, 680, 74, 283, 713, 715, 18, 716, 717, 76, 440, 441, 442, 60, 443, 118, 318, 319, 320, 61, 321, 112, 732, 384, 385, 386, 675, 676, 677, 678, 121, 117, 679, 659, 661, 15, 662, 663, 142, 143, 144, 664, 666, 16, 667, 285, 418, 311, 312, 313, 468, 315, 316, 317, 668, 331, 332, 63, 333, 191, 334, 669, 670, 671, 672, 673, 367, 368, 369, 119, 674, 340, 341, 342, 120, 469, 655, 656, 657, 658, 695, 697, 17, 698, 699, 700, 701, 702, 703, 704, 359, 360, 361, 184, 362, 364, 1, 365, 185, 187, 310, 314, 366, 370, 371, 372, 62, 373, 146, 374, 339, 343, 326, 327, 328, 329, 330, 375, 377, 2, 378, 190, 189, 188, 379, 380, 381, 382, 383, 387, 389, 3, 390, 344, 345, 346, 347, 391, 393, 4, 394, 403, 404, 75, 405, 186, 395, 396, 397, 398, 193, 399, 400, 401, 402, 192, 406, 407, 408, 409, 147, 410, 411, 412, 413, 353, 354, 64, 355, 174, 173, 172, 356, 335, 336, 337, 338] (by decide +kernel) (by decide +kernel)) gt_wsX80) gt_wsX50) gt_wsX40) gt_wsX30) gt_wsX10) gt_wsX70) gt_atM) gt_at0_RX8_76) gt_at0_RX8_206)
set_option maxRecDepth 40000 in
theorem gP_X9_remove : GoodIn lw_tbl wsX9_remove := (goodIn_ca (goodIn_ca (goodIn_r _ [1305, 1165, 1172, 1290, 1292, 44, 68, 1293, 1158, 1294, 1296, 45, 1297, 1171, 1234, 1235, 1236, 1253, 1255, 36, 1256, 1166, 1245, 1247, 34, 1248, 1167, 1162, 1249, 1251, 35, 1252, 1159, 1241, 1243, 33, 1244, 1237, 1239, 32, 1240, 1257, 1259, 37, 1260, 1261, 1263, 38, 1264, 1163, 1160, 1161, 1281, 404, 75, 405, 1164, 1265, 1267, 39, 1268, 1269, 1271, 40, 1272, 1273, 1275, 41, 1276, 1168, 1277, 1279, 42, 1280, 1282, 1284, 43, 1285, 1176, 1173, 1174, 1175, 1169] (by decide +kernel) (by decide +kernel)) gt_wsX90) gt_atM)
set_option maxRecDepth 40000 in
theorem gP_L_startAt : GoodIn lw_tbl wsL_startAt := (goodIn_ca (goodIn_ca (goodIn_ca (goodIn_ca (goodIn_ca (goodIn_ca (goodIn_ca (goodIn_ca (goodIn_ca (goodIn_r _ [759, 708, 565, 760, 761, 762, 59, 763, 572, 72, 285, 713, 715, 18, 716, 717, 76, 283, 440, 441, 442, 60, 443, 118, 318, 319, 320, 61, 321, 112, 764, 400, 401, 63, 402, 192, 334, 765, 766, 767, 768, 343, 142, 143, 144, 704, 359, 360, 361, 184, 362, 364, 1, 365, 185, 187, 310, 311, 312, 313, 121, 314, 315, 316, 317, 117, 366, 367, 368, 369, 119, 370, 371, 372, 62, 373, 146, 374, 339, 340, 341, 342, 120, 326, 327, 328, 329, 330, 331, 332, 333, 191, 375, 377, 2, 378, 190, 189, 188, 379, 380, 381, 382, 383, 384, 385, 386, 387, 389, 3, 390, 344, 345, 346, 347, 391, 393, 4, 394, 403, 404, 75, 405, 186, 395, 396, 397, 398, 193, 399, 406, 407, 408, 409, 147, 410, 411, 412, 413, 353, 354, 64, 355, 174, 173, 172, 356, 335, 336, 337, 338] (by decide +kernel) (by decide +kernel)) gt_wsX80) gt_wsX50) gt_wsX40) gt_wsX30) gt_wsX10) gt_wsX70) gt_atM) gt_at0_RX8_54) gt_at0_RX8_206)
set_option maxRecDepth 40000 in
theorem gP_X9_startAt : GoodIn lw_tbl wsX9_startAt := (goodIn_ca (goodIn_ca (goodIn_r _ [1309, 1160, 1290, 1292, 44, 68, 1293, 1158, 1294, 1296, 45, 1297, 1171, 1165, 1234, 1235, 1236, 1237, 1239, 32, 1240, 1257, 1259, 37, 1260, 1172, 1166, 1162, 1159, 1167, 1249, 1251, 35, 1252, 1261, 1263, 38, 1264, 1163, 1161, 1281, 404, 75, 405, 1164, 1265, 1267, 39, 1268, 1269, 1271, 40, 1272, 1273, 1275, 41, 1276, 1168, 1277, 1279, 42, 1280, 1282, 1284, 43, 1285, 1176, 1173, 1174, 1175, 1169] (by decide +kernel) (by decide +kernel)) gt_wsX90) gt_atM)
set_option maxRecDepth 40000 in
theorem gP_L_reserve : GoodIn lw_tbl wsL_reserve := (goodIn_ca (goodIn_ca (goodIn_ca (goodIn_ca (goodIn_ca (goodIn_ca (goodIn_ca (goodIn_ca (goodIn_ca (goodIn_r _ [771, 708, 565, 772, 773, 774, 59, 775, 572, 72, 285, 713, 715, 18, 716, 717, 76, 283, 440, 441, 442, 60, 443, 118, 318, 319, 320, 61, 321, 112, 776, 396, 397, 63, 398, 193, 334, 777, 778, 779, 780, 343, 142, 143, 144, 704, 359, 360, 361, 184, 362, 364, 1, 365, 185, 187, 310, 311, 312, 313, 121, 314, 315, 316, 317, 117, 366, 367, 368, 369, 119, 370, 371, 372, 62, 373, 146, 374, 339, 340, 341, 342, 120, 326, 327, 328, 329, 330, 331, 332, 333, 191, 375, 377, 2, 378, 190, 189, 188, 379, 380, 381, 382, 383, 384, 385, 386, 387, 389, 3, 390, 344, 345, 346, 347, 391, 393, 4, 394, 403, 404, 75, 405, 186, 395, 399, 400, 401, 402, 192, 406, 407, 408, 409, 147, 410, 411, 412, 413, 353, 354, 64, 355, 174, 173, 172, 356, 335, 336, 337, 338] (by decide +kernel) (by decide +kernel)) gt_wsX80) gt_wsX50) gt_wsX40) gt_wsX30) gt_wsX10) gt_wsX70) gt_atM) gt_at0_RX8_54) gt_at0_RX8_206)
set_option maxRecDepth 40000 in
theorem gP_X9_reserve : GoodIn lw_tbl wsX9_reserve := (goodIn_ca (goodIn_ca (goodIn_r _ [1313, 1161, 1290, 1292, 44, 68, 1293, 1158, 1294, 1296, 45, 1297, 1171, 1165, 1234, 1235, 1236, 1237, 1239, 32, 1240, 1257, 1259, 37, 1260, 1172, 1166, 1162, 1159, 1167, 1249, 1251, 35, 1252, 1261, 1263, 38, 1264, 1163, 1160, 1281, 404, 75, 405, 1164, 1265, 1267, 39, 1268, 1269, 1271, 40, 1272, 1273, 1275, 41, 1276, 1168, 1277, 1279, 42, 1280, 1282, 1284, 43, 1285, 1176, 1173, 1174, 1175, 1169] (by decide +kernel) (by decide +kernel)) gt_wsX90) gt_atM)
set_option maxRecDepth 40000 in
theorem gP_X8_freeze : GoodIn lw_tbl wsX8_freeze := (goodIn_ca (goodIn_ca (goodIn_ca (goodIn_ca (goodIn_ca (goodIn_ca (goodIn_ca (goodIn_r _ [305, 285, 306, 307, 308, 63, 309, 184, 191, 186, 187, 310, 311, 312, 60, 313, 121, 314, 315, 316, 317, 117, 318, 319, 320, 61, 321, 112, 322, 324, 0, 325, 326, 327, 328, 329, 119, 330, 331, 332, 333, 334, 335, 336, 337, 338, 189, 339, 340, 341, 342, 120, 343, 142, 143, 144, 344, 345, 346, 347, 188, 348, 349, 350, 64, 351, 174, 172, 173, 352, 353, 354, 355, 356, 357, 358, 359, 360, 361, 362, 364, 1, 365, 185, 366, 367, 368, 369, 370, 371, 372, 62, 373, 146, 374, 375, 377, 2, 378, 190, 379, 380, 381, 382, 383, 384, 385, 386, 118, 387, 389, 3, 390, 391, 393, 4, 394, 403, 404, 75, 405, 395, 396, 397, 398, 193, 399, 400, 401, 402, 192, 406, 407, 408, 409, 147, 410, 411, 412, 413] (by decide +kernel) (by decide +kernel)) gt_wsX80) gt_wsX30) gt_wsX50) gt_wsX40) gt_wsX70) gt_wsX10) gt_atM)
set_option maxRecDepth 40000 in
theorem gP_X9_freeze : GoodIn lw_tbl wsX9_freeze := (goodIn_ca (goodIn_ca (goodIn_r _ [1344, 1158, 1172, 1166, 1159, 1167, 1164, 1162, 1173, 1176, 1174, 1175, 1163, 1273, 1275, 41, 68, 1276, 1168, 1257, 1259, 37, 1260, 1165, 1249, 1251, 35, 1252, 1261, 1263, 38, 1264, 1160, 1161, 1281, 404, 75, 405, 1265, 1267, 39, 1268, 1269, 1271, 40, 1272, 1277, 1279, 42, 1280, 1282, 1284, 43, 1285, 1169] (by decide +kernel) (by decide +kernel)) gt_wsX90) gt_atM)
set_option maxRecDepth 40000 in
theorem gP_L_refer : GoodIn lw_tbl wsL_refer := (goodIn_ca (goodIn_ca (goodIn_ca (goodIn_ca (goodIn_ca (goodIn_ca (goodIn_ca (goodIn_ca (goodIn_r _ [842, 708, 565, 566, 843, 844, 845, 59, 846, 572, 72, 640, 73, 283, 287, 713, 715, 18, 716, 717, 76, 440, 441, 442, 60, 443, 118, 318, 319, 320, 61, 321, 112, 847, 327, 328, 329, 119, 423, 424, 425, 67, 426, 275, 848, 849, 850, 851, 273, 274, 852, 142, 143, 144] (by decide +kernel) (by decide +kernel)) gt_wsX80) gt_wsX50) gt_wsX40) gt_wsX20) gt_atM) gt_at0_RX8_54) gt_at0_RX8_61) gt_at0_RX8_206)
set_option maxRecDepth 40000 in
theorem gP_X9_refer : GoodIn lw_tbl wsX9_refer := (goodIn_ca (goodIn_ca (goodIn_r _ [1729, 1158, 1159, 1179, 1177, 1178, 1294, 1296, 45, 68, 1297, 1171, 1165, 1234, 1235, 1236, 1237, 1239, 32, 1240] (by decide +kernel) (by decide +kernel)) gt_wsX90) gt_atM)
set_option maxRecDepth 40000 in
theorem gP_X8_size : GoodIn lw_tbl wsX8_size := (goodIn_ca (goodIn_ca (goodIn_r _ [417, 283, 418, 311, 312, 60, 313, 121] (by decide +kernel) (by decide +kernel)) gt_wsX80) gt_wsX50)
set_option maxRecDepth 40000 in
theorem gP_X9_size : GoodIn lw_tbl wsX9_size := (goodIn_ca (goodIn_r _ [1348, 1158, 1172] (by decide +kernel) (by decide +kernel)) gt_wsX90)
set_option maxRecDepth 40000 in
theorem gP_L_paragraphAt : GoodIn lw_tbl wsL_paragraphAt := (goodIn_ca (goodIn_ca (goodIn_ca (goodIn_ca (goodIn_ca (goodIn_r _ [855, 856, 889, 890, 891, 59, 892, 893, 77, 283, 418, 311, 312, 60, 313, 121, 468, 315, 316, 317, 117, 318, 319, 320, 61, 321, 112] (by decide +kernel) (by decide +kernel)) gt_wsX80) gt_wsX50) gt_wsX40) gt_atM) gt_at0_RX8_164)
set_option maxRecDepth 40000 in
theorem gP_X9_paragraphAt : GoodIn lw_tbl wsX9_paragraphAt := (goodIn_ca (goodIn_ca (goodIn_r _ [1352, 1158, 1172, 1166, 1234, 1235, 68, 1236, 1237, 1239, 32, 1240] (by decide +kernel) (by decide +kernel)) gt_wsX90) gt_atM)
set_option maxRecDepth 40000 in
theorem gP_L_placeOf : GoodIn lw_tbl wsL_placeOf := (goodIn_ca (goodIn_ca (goodIn_ca (goodIn_ca (goodIn_ca (goodIn_r _ [910, 708, 911, 912, 913, 59, 914, 283, 713, 715, 18, 716, 717, 76, 440, 441, 442, 60, 443, 118, 318, 319, 320, 61, 321, 112, 732, 384, 385, 386] (by decide +kernel) (by decide +kernel)) gt_wsX80) gt_wsX50) gt_wsX40) gt_atM) gt_at0_RX8_206)
set_option maxRecDepth 40000 in
theorem gP_X9_placeOf : GoodIn lw_tbl wsX9_placeOf := (goodIn_ca (goodIn_ca (goodIn_r _ [1356, 1165, 1290, 1292, 44, 68, 1293, 1158, 1294, 1296, 45, 1297, 1171, 1234, 1235, 1236] (by decide +kernel) (by decide +kernel)) gt_wsX90) gt_atM)
set_option maxRecDepth 40000 in
theorem gP_L_levelOf : GoodIn lw_tbl wsL_levelOf := (goodIn_ca (goodIn_ca (goodIn_ca (goodIn_ca (goodIn_ca (goodIn_r _ [917, 708, 918, 919, 920, 59, 921, 283, 713, 715, 18, 716, 717, 76, 440, 441, 442, 60, 443, 118, 318, 319, 320, 61, 321, 112, 469, 367, 368, 369, 119] (by decide +kernel) (by decide +kernel)) gt_wsX80) gt_wsX50) gt_wsX40) gt_atM) gt_at0_RX8_206)
set_option maxRecDepth 40000 in
theorem gP_X9_levelOf : GoodIn lw_tbl wsX9_levelOf := (goodIn_ca (goodIn_ca (goodIn_r _ [1360, 1159, 1290, 1292, 44, 68, 1293, 1158, 1294, 1296, 45, 1297, 1171, 1165, 1234, 1235, 1236] (by decide +kernel) (by decide +kernel)) gt_wsX90) gt_atM)
set_option maxRecDepth 40000 in
theorem gP_L_parentOf : GoodIn lw_tbl wsL_parentOf := (goodIn_ca (goodIn_ca (goodIn_ca (goodIn_ca (goodIn_ca (goodIn_ca (goodIn_r _ [924, 708, 566, 925, 926, 927, 59, 928, 283, 929, 931, 22, 932, 640, 73, 713, 715, 18, 716, 717, 76, 440, 441, 442, 60, 443, 118, 318, 319, 320, 61, 321, 112, 847, 327, 328, 329, 119, 674, 340, 341, 342, 120] (by decide +kernel) (by decide +kernel)) gt_wsX80) gt_wsX50) gt_wsX40) gt_atM) gt_at0_RX8_61) gt_at0_RX8_206)
set_option maxRecDepth 40000 in
theorem gP_X9_parentOf : GoodIn lw_tbl wsX9_parentOf := (goodIn_ca (goodIn_ca (goodIn_r _ [1364, 1162, 1365, 1367, 48, 68, 1368, 1159, 1158, 1290, 1292, 44, 1293, 1294, 1296, 45, 1297, 1171, 1165, 1234, 1235, 1236] (by decide +kernel) (by decide +kernel)) gt_wsX90) gt_atM)
set_option maxRecDepth 40000 in
theorem gP_L_below : GoodIn lw_tbl wsL_below := (goodIn_ca (goodIn_ca (goodIn_ca (goodIn_ca (goodIn_ca (goodIn_r _ [935, 708, 936, 937, 938, 59, 939, 283, 713, 715, 18, 716, 717, 76, 440, 441, 442, 60, 443, 118, 318, 319, 320, 61, 321, 112, 418, 311, 312, 313, 121, 468, 315, 316, 317, 117, 940, 499, 500, 501, 493, 340, 341, 342, 120] (by decide +kernel) (by decide +kernel)) gt_wsX80) gt_wsX50) gt_wsX40) gt_atM) gt_at0_RX8_206)
set_option maxRecDepth 40000 in
theorem gP_X9_below : GoodIn lw_tbl wsX9_below := (goodIn_ca (goodIn_ca (goodIn_r _ [1372, 1172, 1166, 1290, 1292, 44, 68, 1293, 1158, 1294, 1296, 45, 1297, 1171, 1165, 1234, 1235, 1236, 1373, 1375, 49, 1376, 1162] (by decide +kernel) (by decide +kernel)) gt_wsX90) gt_atM)
set_option maxRecDepth 40000 in
theorem gP_L_isFrozen : GoodIn lw_tbl wsL_isFrozen := (goodIn_ca (goodIn_ca (goodIn_ca (goodIn_ca (goodIn_ca (goodIn_ca (goodIn_r _ [943, 708, 944, 945, 946, 59, 947, 285, 713, 715, 18, 716, 717, 76, 283, 440, 441, 442, 60, 443, 118, 318, 319, 320, 61, 321, 112, 668, 331, 332, 63, 333, 191, 334] (by decide +kernel) (by decide +kernel)) gt_wsX80) gt_wsX50) gt_wsX40) gt_wsX30) gt_atM) gt_at0_RX8_206)
set_option maxRecDepth 40000 in
theorem gP_X9_isFrozen : GoodIn lw_tbl wsX9_isFrozen := (goodIn_ca (goodIn_ca (goodIn_r _ [1380, 1167, 1290, 1292, 44, 68, 1293, 1158, 1294, 1296, 45, 1297, 1171, 1165, 1234, 1235, 1236] (by decide +kernel) (by decide +kernel)) gt_wsX90) gt_atM)
set_option maxRecDepth 40000 in
theorem gP_L_numberOf : GoodIn lw_tbl wsL_numberOf := (goodIn_ca (goodIn_ca (goodIn_ca (goodIn_ca (goodIn_ca (goodIn_ca (goodIn_ca (goodIn_r _ [950, 708, 566, 951, 952, 953, 59, 954, 285, 929, 931, 22, 932, 640, 73, 283, 713, 715, 18, 716, 717, 76, 440, 441, 442, 60, 443, 118, 318, 319, 320, 61, 321, 112, 847, 327, 328, 329, 119, 470, 345, 346, 63, 347, 188, 334] (by decide +kernel) (by decide +kernel)) gt_wsX80) gt_wsX50) gt_wsX40) gt_wsX30) gt_atM) gt_at0_RX8_61) gt_at0_RX8_206)
set_option maxRecDepth 40000 in
theorem gP_X9_numberOf : GoodIn lw_tbl wsX9_numberOf := (goodIn_ca (goodIn_ca (goodIn_r _ [1384, 1163, 1365, 1367, 48, 68, 1368, 1159, 1158, 1290, 1292, 44, 1293, 1294, 1296, 45, 1297, 1171, 1165, 1234, 1235, 1236] (by decide +kernel) (by decide +kernel)) gt_wsX90) gt_atM)
set_option maxRecDepth 40000 in
theorem gP_L_lettersOf : GoodIn lw_tbl wsL_lettersOf := (goodIn_ca (goodIn_ca (goodIn_ca (goodIn_ca (goodIn_ca (goodIn_ca (goodIn_ca (goodIn_r _ [957, 708, 566, 958, 959, 960, 59, 961, 285, 929, 931, 22, 932, 640, 73, 283, 713, 715, 18, 716, 717, 76, 440, 441, 442, 60, 443, 118, 318, 319, 320, 61, 321, 112, 847, 327, 328, 329, 119, 962, 336, 337, 63, 338, 189, 334] (by decide +kernel) (by decide +kernel)) gt_wsX80) gt_wsX50) gt_wsX40) gt_wsX30) gt_atM) gt_at0_RX8_61) gt_at0_RX8_206)
set_option maxRecDepth 40000 in
theorem gP_X9_lettersOf : GoodIn lw_tbl wsX9_lettersOf := (goodIn_ca (goodIn_ca (goodIn_r _ [1388, 1164, 1365, 1367, 48, 68, 1368, 1159, 1158, 1290, 1292, 44, 1293, 1294, 1296, 45, 1297, 1171, 1165, 1234, 1235, 1236] (by decide +kernel) (by decide +kernel)) gt_wsX90) gt_atM)
set_option maxRecDepth 40000 in
theorem gP_L_numberByWalk : GoodIn lw_tbl wsL_numberByWalk := (goodIn_ca (goodIn_ca (goodIn_ca (goodIn_ca (goodIn_ca (goodIn_ca (goodIn_ca (goodIn_ca (goodIn_ca (goodIn_r _ [965, 708, 566, 966, 967, 968, 59, 969, 285, 929, 931, 22, 932, 640, 73, 283, 713, 715, 18, 716, 717, 76, 440, 441, 442, 60, 443, 118, 318, 319, 320, 61, 321, 112, 847, 327, 328, 329, 119, 970, 971, 972, 63, 973, 194, 195, 196, 330, 331, 332, 333, 191, 334, 343, 142, 143, 144, 379, 380, 381, 382, 184, 187, 383, 384, 385, 386, 314, 315, 316, 317, 117, 387, 389, 3, 390, 310, 311, 312, 313, 121, 344, 345, 346, 347, 188, 391, 393, 4, 394, 403, 404, 75, 405, 185, 186, 395, 396, 397, 398, 193, 399, 400, 401, 402, 192, 366, 367, 368, 369, 406, 407, 408, 62, 409, 147, 410, 411, 412, 374, 413, 353, 354, 64, 355, 174, 173, 172, 356, 974, 975, 976, 977] (by decide +kernel) (by decide +kernel)) gt_wsX80) gt_wsX50) gt_wsX40) gt_wsX30) gt_wsX10) gt_wsX70) gt_atM) gt_at0_RX8_61) gt_at0_RX8_206)
set_option maxRecDepth 40000 in
theorem gP_X9_numberByWalk : GoodIn lw_tbl wsX9_numberByWalk := (goodIn_ca (goodIn_ca (goodIn_r _ [1392, 1393, 1382, 1383, 68, 1384, 1163, 1365, 1367, 48, 1368, 1159, 1158, 1290, 1292, 44, 1293, 1294, 1296, 45, 1297, 1171, 1165, 1234, 1235, 1236] (by decide +kernel) (by decide +kernel)) gt_wsX90) gt_atM)
set_option maxRecDepth 40000 in
theorem gP_L_lettersByWalk : GoodIn lw_tbl wsL_lettersByWalk := (goodIn_ca (goodIn_ca (goodIn_ca (goodIn_ca (goodIn_ca (goodIn_ca (goodIn_ca (goodIn_ca (goodIn_ca (goodIn_r _ [980, 708, 566, 981, 982, 983, 59, 984, 285, 929, 931, 22, 932, 640, 73, 283, 713, 715, 18, 716, 717, 76, 440, 441, 442, 60, 443, 118, 318, 319, 320, 61, 321, 112, 847, 327, 328, 329, 119, 970, 971, 972, 63, 973, 194, 195, 196, 330, 331, 332, 333, 191, 334, 343, 142, 143, 144, 379, 380, 381, 382, 184, 187, 383, 384, 385, 386, 314, 315, 316, 317, 117, 387, 389, 3, 390, 310, 311, 312, 313, 121, 344, 345, 346, 347, 188, 391, 393, 4, 394, 403, 404, 75, 405, 185, 186, 395, 396, 397, 398, 193, 399, 400, 401, 402, 192, 366, 367, 368, 369, 406, 407, 408, 62, 409, 147, 410, 411, 412, 374, 413, 353, 354, 64, 355, 174, 173, 172, 356, 985, 986, 987, 988] (by decide +kernel) (by decide +kernel)) gt_wsX80) gt_wsX50) gt_wsX40) gt_wsX30) gt_wsX10) gt_wsX70) gt_atM) gt_at0_RX8_61) gt_at0_RX8_206)
set_option maxRecDepth 40000 in
theorem gP_X9_lettersByWalk : GoodIn lw_tbl wsX9_lettersByWalk := (goodIn_ca (goodIn_ca (goodIn_r _ [1397, 1398, 1386, 1387, 68, 1388, 1164, 1365, 1367, 48, 1368, 1159, 1158, 1290, 1292, 44, 1293, 1294, 1296, 45, 1297, 1171, 1165, 1234, 1235, 1236] (by decide +kernel) (by decide +kernel)) gt_wsX90) gt_atM)
set_option maxRecDepth 40000 in
theorem gP_L_ahead : GoodIn lw_tbl wsL_ahead := (goodIn_ca (goodIn_ca (goodIn_ca (goodIn_ca (goodIn_ca (goodIn_ca (goodIn_ca (goodIn_r _ [991, 708, 566, 992, 993, 994, 59, 995, 285, 929, 931, 22, 932, 640, 73, 283, 713, 715, 18, 716, 717, 76, 440, 441, 442, 60, 443, 118, 318, 319, 320, 61, 321, 112, 847, 327, 328, 329, 119, 996, 380, 381, 63, 382, 184, 187, 383, 384, 385, 386, 314, 315, 316, 317, 117, 334] (by decide +kernel) (by decide +kernel)) gt_wsX80) gt_wsX50) gt_wsX40) gt_wsX30) gt_atM) gt_at0_RX8_61) gt_at0_RX8_206)
set_option maxRecDepth 40000 in
theorem gP_X9_ahead : GoodIn lw_tbl wsX9_ahead := (goodIn_ca (goodIn_ca (goodIn_r _ [1402, 1365, 1367, 48, 68, 1368, 1159, 1158, 1290, 1292, 44, 1293, 1294, 1296, 45, 1297, 1171, 1165, 1234, 1235, 1236, 1265, 1267, 39, 1268, 1166, 1269, 1271, 40, 1272, 1273, 1275, 41, 1276, 1168, 1162] (by decide +kernel) (by decide +kernel)) gt_wsX90) gt_atM)
set_option maxRecDepth 40000 in
theorem gP_L_labelLength : GoodIn lw_tbl wsL_labelLength := (goodIn_ca (goodIn_ca (goodIn_ca (goodIn_ca (goodIn_ca (goodIn_ca (goodIn_ca (goodIn_ca (goodIn_ca (goodIn_ca (goodIn_r _ [999, 708, 566, 1000, 1001, 1002, 59, 1003, 286, 929, 931, 22, 932, 640, 73, 283, 713, 715, 18, 716, 717, 76, 440, 441, 442, 60, 443, 118, 318, 319, 320, 61, 321, 112, 847, 327, 328, 329, 119, 1004, 1005, 1006, 65, 1007, 249, 481, 483, 7, 484, 246, 248, 247, 485, 486, 487, 66, 488, 237, 489, 490, 491, 492, 493, 340, 341, 342, 120, 494, 496, 8, 497, 498, 499, 500, 501, 502, 503, 504, 505, 506, 507, 508, 509, 236, 510, 345, 346, 63, 347, 188, 334, 511, 367, 368, 369, 512, 513, 514, 62, 515, 145, 374, 516, 517, 518, 519, 520, 521, 522, 523, 524, 525, 527, 9, 528, 529, 530, 531, 532, 533, 535, 10, 536, 537, 539, 11, 540, 541, 543, 12, 544, 545, 547, 13, 548, 549, 336, 337, 338, 189, 550, 1008, 1009, 1010, 1011] (by decide +kernel) (by decide +kernel)) gt_wsX80) gt_wsX50) gt_wsX40) gt_wsX00) gt_wsX60) gt_wsX30) gt_wsX10) gt_atM) gt_at0_RX8_61) gt_at0_RX8_206)
set_option maxRecDepth 40000 in
theorem gP_X9_isPlain : GoodIn lw_tbl wsX9_isPlain := (goodIn_ca (goodIn_ca (goodIn_r _ [1368, 1159, 1158, 1290, 1292, 44, 68, 1293, 1294, 1296, 45, 1297, 1171, 1165, 1234, 1235, 1236] (by decide +kernel) (by decide +kernel)) gt_wsX90) gt_atM)
set_option maxRecDepth 40000 in
theorem gP_L_labelAt : GoodIn lw_tbl wsL_labelAt := (goodIn_ca (goodIn_ca (goodIn_ca (goodIn_ca (goodIn_ca (goodIn_ca (goodIn_ca (goodIn_ca (goodIn_ca (goodIn_ca (goodIn_ca (goodIn_r _ [1014, 708, 566, 856, 1015, 1016, 1017, 59, 1018, 286, 929, 931, 22, 932, 640, 73, 283, 713, 715, 18, 716, 717, 76, 440, 441, 442, 60, 443, 118, 318, 319, 320, 61, 321, 112, 847, 327, 328, 329, 119, 1004, 1005, 1006, 65, 1007, 249, 481, 483, 7, 484, 246, 248, 247, 485, 486, 487, 66, 488, 237, 489, 490, 491, 492, 493, 340, 341, 342, 120, 494, 496, 8, 497, 498, 499, 500, 501, 502, 503, 504, 505, 506, 507, 508, 509, 236, 510, 345, 346, 63, 347, 188, 334, 511, 367, 368, 369, 512, 513, 514, 62, 515, 145, 374, 516, 517, 518, 519, 520, 521, 522, 523, 524, 525, 527, 9, 528, 529, 530, 531, 532, 533, 535, 10, 536, 537, 539, 11, 540, 541, 543, 12, 544, 545, 547, 13, 548, 549, 336, 337, 338, 189, 550, 1019, 1021, 23, 1022, 893, 77, 1008, 1009, 1010, 1011, 1023, 1024, 1025, 1026, 1027] (by decide +kernel) (by decide +kernel)) gt_wsX80) gt_wsX50) gt_wsX40) gt_wsX00) gt_wsX60) gt_wsX30) gt_wsX10) gt_atM) gt_at0_RX8_61) gt_at0_RX8_206) gt_at0_RX8_164)
set_option maxRecDepth 40000 in
theorem gP_X8_references : GoodIn lw_tbl wsX8_references := (goodIn_ca (goodIn_ca (goodIn_r _ [422, 287, 423, 424, 425, 67, 426, 275] (by decide +kernel) (by decide +kernel)) gt_wsX80) gt_wsX20)
set_option maxRecDepth 40000 in
theorem gP_X9_references : GoodIn lw_tbl wsX9_references := (goodIn_ca (goodIn_r _ [1733, 1158, 1179] (by decide +kernel) (by decide +kernel)) gt_wsX90)
set_option maxRecDepth 40000 in
theorem gP_L_targetOf : GoodIn lw_tbl wsL_targetOf := (goodIn_ca (goodIn_ca (goodIn_ca (goodIn_ca (goodIn_ca (goodIn_r _ [1037, 708, 1038, 1039, 1040, 59, 1041, 287, 1042, 1044, 24, 1045, 717, 76, 423, 424, 425, 67, 426, 275, 444, 445, 446, 447, 274, 439, 319, 320, 61, 321, 112] (by decide +kernel) (by decide +kernel)) gt_wsX80) gt_wsX20) gt_wsX40) gt_atM) gt_at0_RX8_206)
set_option maxRecDepth 40000 in
theorem gP_X9_targetOf : GoodIn lw_tbl wsX9_targetOf := (goodIn_ca (goodIn_ca (goodIn_r _ [1737, 1158, 1178, 1738, 1740, 53, 68, 1741, 1179, 1234, 1235, 1236, 1237, 1239, 32, 1240] (by decide +kernel) (by decide +kernel)) gt_wsX90) gt_atM)
set_option maxRecDepth 40000 in
theorem gP_L_isBroken : GoodIn lw_tbl wsL_isBroken := (goodIn_ca (goodIn_ca (goodIn_ca (goodIn_ca (goodIn_ca (goodIn_ca (goodIn_r _ [1048, 708, 1049, 1050, 1051, 59, 1052, 1042, 1044, 24, 1045, 717, 76, 287, 423, 424, 425, 67, 426, 275, 431, 433, 5, 434, 283, 435, 436, 437, 438, 273, 439, 319, 320, 61, 321, 112, 440, 441, 442, 60, 443, 118, 318, 444, 445, 446, 447, 274] (by decide +kernel) (by decide +kernel)) gt_wsX80) gt_wsX20) gt_wsX40) gt_wsX50) gt_atM) gt_at0_RX8_206)
set_option maxRecDepth 40000 in
theorem gP_X9_isBroken : GoodIn lw_tbl wsX9_isBroken := (goodIn_ca (goodIn_ca (goodIn_r _ [1745, 1158, 1738, 1740, 53, 68, 1741, 1179, 1234, 1235, 1236, 1746, 1748, 54, 1749, 1177, 1178, 1294, 1296, 45, 1297, 1171, 1165, 1337, 1339, 47, 1340] (by decide +kernel) (by decide +kernel)) gt_wsX90) gt_atM)
set_option maxRecDepth 40000 in
theorem gP_L_referenceLength : GoodIn lw_tbl wsL_referenceLength := (goodIn_ca (goodIn_ca (goodIn_ca (goodIn_ca (goodIn_ca (goodIn_ca (goodIn_ca (goodIn_ca (goodIn_ca (goodIn_ca (goodIn_ca (goodIn_r _ [1055, 708, 566, 1056, 1057, 1058, 59, 1059, 286, 287, 1060, 1062, 25, 1063, 640, 73, 1042, 1044, 24, 1045, 717, 76, 423, 424, 425, 67, 426, 275, 431, 433, 5, 434, 283, 435, 436, 437, 438, 273, 439, 319, 320, 61, 321, 112, 440, 441, 442, 60, 443, 118, 318, 444, 445, 446, 447, 274, 1064, 1065, 1066, 65, 1067, 246, 249, 480, 327, 328, 329, 119, 485, 486, 487, 66, 488, 237, 481, 483, 7, 484, 248, 247, 489, 490, 491, 492, 493, 340, 341, 342, 120, 494, 496, 8, 497, 498, 499, 500, 501, 502, 503, 504, 505, 506, 507, 508, 509, 236, 510, 345, 346, 63, 347, 188, 334, 511, 367, 368, 369, 512, 513, 514, 62, 515, 145, 374, 516, 517, 518, 519, 520, 521, 522, 523, 524, 525, 527, 9, 528, 529, 530, 531, 532, 533, 535, 10, 536, 537, 539, 11, 540, 541, 543, 12, 544, 545, 547, 13, 548, 549, 336, 337, 338, 189, 550, 1008, 1009, 1010, 1011] (by decide +kernel) (by decide +kernel)) gt_wsX80) gt_wsX20) gt_wsX40) gt_wsX50) gt_wsX00) gt_wsX60) gt_wsX30) gt_wsX10) gt_atM) gt_at0_RX8_61) gt_at0_RX8_206)
set_option maxRecDepth 40000 in
theorem gP_X9_isVoid : GoodIn lw_tbl wsX9_isVoid := (goodIn_ca (goodIn_ca (goodIn_r _ [1757, 1158, 1738, 1740, 53, 68, 1741, 1179, 1234, 1235, 1236, 1746, 1748, 54, 1749, 1177, 1178, 1294, 1296, 45, 1297, 1171, 1165] (by decide +kernel) (by decide +kernel)) gt_wsX90) gt_atM)
set_option maxRecDepth 40000 in
theorem gP_L_referenceAt : GoodIn lw_tbl wsL_referenceAt := (goodIn_ca (goodIn_ca (goodIn_ca (goodIn_ca (goodIn_ca (goodIn_ca (goodIn_ca (goodIn_ca (goodIn_ca (goodIn_ca (goodIn_ca (goodIn_ca (goodIn_r _ [1070, 708, 566, 856, 1071, 1072, 1073, 59, 1074, 286, 287, 1060, 1062, 25, 1063, 640, 73, 1042, 1044, 24, 1045, 717, 76, 423, 424, 425, 67, 426, 275, 431, 433, 5, 434, 283, 435, 436, 437, 438, 273, 439, 319, 320, 61, 321, 112, 440, 441, 442, 60, 443, 118, 318, 444, 445, 446, 447, 274, 1064, 1065, 1066, 65, 1067, 246, 249, 480, 327, 328, 329, 119, 485, 486, 487, 66, 488, 237, 481, 483, 7, 484, 248, 247, 489, 490, 491, 492, 493, 340, 341, 342, 120, 494, 496, 8, 497, 498, 499, 500, 501, 502, 503, 504, 505, 506, 507, 508, 509, 236, 510, 345, 346, 63, 347, 188, 334, 511, 367, 368, 369, 512, 513, 514, 62, 515, 145, 374, 516, 517, 518, 519, 520, 521, 522, 523, 524, 525, 527, 9, 528, 529, 530, 531, 532, 533, 535, 10, 536, 537, 539, 11, 540, 541, 543, 12, 544, 545, 547, 13, 548, 549, 336, 337, 338, 189, 550, 1019, 1021, 23, 1022, 893, 77, 1008, 1009, 1010, 1011, 1023, 1024, 1025, 1026, 1027] (by decide +kernel) (by decide +kernel)) gt_wsX80) gt_wsX20) gt_wsX40) gt_wsX50) gt_wsX00) gt_wsX60) gt_wsX30) gt_wsX10) gt_atM) gt_at0_RX8_61) gt_at0_RX8_206) gt_at0_RX8_164)
set_option maxRecDepth 40000 in
theorem gP_X8_broken : GoodIn lw_tbl wsX8_broken := (goodIn_ca (goodIn_ca (goodIn_ca (goodIn_ca (goodIn_ca (goodIn_r _ [430, 287, 423, 424, 425, 67, 426, 275, 431, 433, 5, 59, 434, 283, 435, 436, 437, 438, 273, 439, 319, 320, 61, 321, 112, 440, 441, 442, 60, 443, 118, 318, 444, 445, 446, 447, 274] (by decide +kernel) (by decide +kernel)) gt_wsX80) gt_wsX20) gt_wsX40) gt_wsX50) gt_atM)
set_option maxRecDepth 40000 in
theorem gP_X9_broken : GoodIn lw_tbl wsX9_broken := (goodIn_ca (goodIn_ca (goodIn_r _ [1765, 1158, 1179, 1746, 1748, 54, 68, 1749, 1177, 1178, 1294, 1296, 45, 1297, 1171, 1165, 1234, 1235, 1236] (by decide +kernel) (by decide +kernel)) gt_wsX90) gt_atM)
set_option maxRecDepth 40000 in
theorem gP_X8_used : GoodIn lw_tbl wsX8_used := (goodIn_ca (goodIn_ca (goodIn_ca (goodIn_r _ [451, 285, 452, 453, 454, 63, 455, 186, 456, 457, 458, 64, 459, 174] (by decide +kernel) (by decide +kernel)) gt_wsX80) gt_wsX30) gt_wsX70)
set_option maxRecDepth 40000 in
theorem gP_X9_used : GoodIn lw_tbl wsX9_used := (goodIn_ca (goodIn_r _ [1769, 1158, 1176] (by decide +kernel) (by decide +kernel)) gt_wsX90)
set_option maxRecDepth 40000 in
theorem gP_X8_sum : GoodIn lw_tbl wsX8_sum := (goodIn_ca (goodIn_ca (goodIn_ca (goodIn_ca (goodIn_ca (goodIn_r _ [463, 464, 466, 6, 59, 467, 283, 285, 418, 311, 312, 60, 313, 121, 468, 315, 316, 317, 117, 318, 319, 320, 61, 321, 112, 469, 367, 368, 369, 119, 470, 345, 346, 63, 347, 188, 334] (by decide +kernel) (by decide +kernel)) gt_wsX80) gt_wsX50) gt_wsX40) gt_wsX30) gt_atM)
set_option maxRecDepth 40000 in
theorem gP_X9_sum : GoodIn lw_tbl wsX9_sum := (goodIn_ca (goodIn_ca (goodIn_r _ [1781, 1158, 1172, 1159, 1166, 1163] (by decide +kernel) (by decide +kernel)) gt_wsX90) gt_atM)
set_option maxRecDepth 40000 in
theorem gP_X8_isUnique : GoodIn lw_tbl wsX8_isUnique := (goodIn_ca (goodIn_ca (goodIn_ca (goodIn_ca (goodIn_ca (goodIn_ca (goodIn_ca (goodIn_ca (goodIn_r _ [474, 283, 286, 418, 311, 312, 60, 313, 121, 475, 476, 477, 65, 478, 246, 249, 251, 250, 479, 315, 316, 317, 117, 318, 319, 320, 61, 321, 112, 480, 327, 328, 329, 119, 481, 483, 7, 484, 248, 247, 485, 486, 487, 66, 488, 237, 489, 490, 491, 492, 493, 340, 341, 342, 120, 494, 496, 8, 497, 498, 499, 500, 501, 502, 503, 504, 505, 506, 507, 508, 509, 236, 510, 345, 346, 63, 347, 188, 334, 511, 367, 368, 369, 512, 513, 514, 62, 515, 145, 374, 516, 517, 518, 519, 520, 521, 522, 523, 524, 525, 527, 9, 528, 529, 530, 531, 532, 533, 535, 10, 536, 537, 539, 11, 540, 541, 543, 12, 544, 545, 547, 13, 548, 549, 336, 337, 338, 189, 550, 551, 552, 553, 554, 555, 142, 143, 144, 556, 557, 558, 559, 560, 561] (by decide +kernel) (by decide +kernel)) gt_wsX80) gt_wsX50) gt_wsX00) gt_wsX40) gt_wsX60) gt_wsX30) gt_wsX10) gt_atM)
set_option maxRecDepth 40000 in
theorem gP_L_frozenShare : GoodIn lw_tbl wsL_frozenShare := (goodIn_ca (goodIn_ca (goodIn_ca (goodIn_ca (goodIn_ca (goodIn_ca (goodIn_r _ [1092, 1093, 1107, 1108, 1109, 59, 1110, 1111, 1113, 28, 1114, 1119, 90, 1115, 1117, 29, 1118, 283, 418, 311, 312, 60, 313, 121, 1082, 1084, 26, 1085, 468, 315, 316, 317, 117, 318, 319, 320, 61, 321, 112, 1086, 1088, 27, 1089, 285, 847, 327, 328, 329, 119, 668, 331, 332, 63, 333, 191, 334, 1124, 1126, 30, 1127] (by decide +kernel) (by decide +kernel)) gt_wsX80) gt_wsX50) gt_wsX40) gt_wsX30) gt_atM) gt_at0_RX8_255)
set_option maxRecDepth 40000 in
theorem gP_X9_frozenShare : GoodIn lw_tbl wsX9_frozenShare := (goodIn_ca (goodIn_ca (goodIn_r _ [1792, 1158, 1793, 1795, 57, 68, 1796, 1774, 1776, 56, 1777, 1172, 1166, 1159, 1167, 1237, 1239, 32, 1240] (by decide +kernel) (by decide +kernel)) gt_wsX90) gt_atM)
set_option maxRecDepth 40000 in
theorem gP_L_shareBits : GoodIn lw_tbl wsL_shareBits := (goodIn_ca (goodIn_ca (goodIn_ca (goodIn_ca (goodIn_ca (goodIn_ca (goodIn_r _ [1130, 1093, 1131, 1132, 1133, 59, 1134, 1111, 1113, 28, 1114, 1119, 90, 1115, 1117, 29, 1118, 283, 418, 311, 312, 60, 313, 121, 1082, 1084, 26, 1085, 468, 315, 316, 317, 117, 318, 319, 320, 61, 321, 112, 1086, 1088, 27, 1089, 285, 847, 327, 328, 329, 119, 668, 331, 332, 63, 333, 191, 334, 1124, 1126, 30, 1127, 1135, 1136, 1137, 1138] (by decide +kernel) (by decide +kernel)) gt_wsX80) gt_wsX50) gt_wsX40) gt_wsX30) gt_atM) gt_at0_RX8_255)
set_option maxRecDepth 40000 in
theorem gP_X9_shareBits : GoodIn lw_tbl wsX9_shareBits := (goodIn_ca (goodIn_ca (goodIn_r _ [1800, 1158, 1793, 1795, 57, 68, 1796, 1774, 1776, 56, 1777, 1172, 1166, 1159, 1167, 1237, 1239, 32, 1240, 1801, 1802, 91, 1803, 1807, 1809, 1808, 91, 1810, 1804, 1805, 1806] (by decide +kernel) (by decide +kernel)) gt_wsX90) gt_atM)
set_option maxRecDepth 40000 in
theorem gP_L_insert : GoodIn lw_tbl wsL_insert := (goodIn_ca (goodIn_ca (goodIn_ca (goodIn_ca (goodIn_ca (goodIn_ca (goodIn_ca (goodIn_ca (goodIn_ca (goodIn_ca (goodIn_r _ [564, 565, 566, 567, 568, 569, 570, 59, 571, 572, 72, 640, 73, 680, 74, 283, 288, 418, 311, 312, 60, 313, 121, 655, 656, 657, 658, 117, 119, 318, 319, 320, 61, 321, 112, 659, 661, 15, 662, 118, 663, 142, 143, 144, 664, 666, 16, 667, 285, 468, 315, 316, 317, 668, 331, 332, 63, 333, 191, 334, 669, 670, 671, 672, 673, 367, 368, 369, 674, 340, 341, 342, 120, 675, 676, 677, 678, 679, 384, 385, 386, 695, 697, 17, 698, 699, 700, 701, 702, 703, 704, 359, 360, 361, 184, 362, 364, 1, 365, 185, 187, 310, 314, 366, 370, 371, 372, 62, 373, 146, 374, 339, 343, 326, 327, 328, 329, 330, 375, 377, 2, 378, 190, 189, 188, 379, 380, 381, 382, 383, 387, 389, 3, 390, 344, 345, 346, 347, 391, 393, 4, 394, 403, 404, 75, 405, 186, 395, 396, 397, 398, 193, 399, 400, 401, 402, 192, 406, 407, 408, 409, 147, 410, 411, 412, 413, 353, 354, 64, 355, 174, 173, 172, 356, 335, 336, 337, 338] (by decide +kernel) (by decide +kernel)) gt_wsX80) gt_wsX50) gt_wsX40) gt_wsX30) gt_wsX10) gt_wsX70) gt_atM) gt_at0_RX8_54) gt_at0_RX8_61) gt_at0_RX8_76)
set_option maxRecDepth 40000 in
theorem gP_X9_insert : GoodIn lw_tbl wsX9_insert := (goodIn_ca (goodIn_ca (goodIn_r _ [1233, 1158, 1172, 1171, 1159, 1234, 1235, 68, 1236, 1237, 1239, 32, 1240, 1241, 1243, 33, 1244, 1166, 1245, 1247, 34, 1248, 1167, 1162, 1249, 1251, 35, 1252, 1253, 1255, 36, 1256, 1257, 1259, 37, 1260, 1165, 1261, 1263, 38, 1264, 1163, 1160, 1161, 1281, 404, 75, 405, 1164, 1265, 1267, 39, 1268, 1269, 1271, 40, 1272, 1273, 1275, 41, 1276, 1168, 1277, 1279, 42, 1280, 1282, 1284, 43, 1285, 1176, 1173, 1174, 1175, 1169] (by decide +kernel) (by decide +kernel)) gt_wsX90) gt_atM)
set_option maxRecDepth 40000 in
theorem gP_L_skip : GoodIn lw_tbl wsL_skip := (goodIn_ca (goodIn_ca (goodIn_ca (goodIn_ca (goodIn_ca (goodIn_ca (goodIn_ca (goodIn_ca (goodIn_ca (goodIn_r _ [783, 565, 566, 784, 785, 786, 59, 787, 640, 73, 284, 285, 788, 790, 19, 791, 572, 72, 792, 794, 20, 795, 796, 407, 408, 62, 409, 147, 410, 411, 412, 374, 319, 320, 61, 321, 112, 797, 798, 799, 800, 148, 141, 142, 143, 144, 704, 359, 360, 63, 361, 184, 362, 364, 1, 365, 185, 187, 310, 311, 312, 60, 313, 121, 314, 315, 316, 317, 117, 318, 366, 367, 368, 369, 119, 370, 371, 372, 373, 146, 339, 340, 341, 342, 120, 343, 326, 327, 328, 329, 330, 331, 332, 333, 191, 334, 375, 377, 2, 378, 190, 189, 188, 379, 380, 381, 382, 383, 384, 385, 386, 118, 387, 389, 3, 390, 344, 345, 346, 347, 391, 393, 4, 394, 403, 404, 75, 405, 186, 395, 396, 397, 398, 193, 399, 400, 401, 402, 192, 406, 413, 353, 354, 64, 355, 174, 173, 172, 356, 335, 336, 337, 338, 801, 802, 803, 804] (by decide +kernel) (by decide +kernel)) gt_wsX80) gt_wsX10) gt_wsX40) gt_wsX30) gt_wsX50) gt_wsX70) gt_atM) gt_at0_RX8_61) gt_at0_RX8_54)
set_option maxRecDepth 40000 in
theorem gP_X9_skip : GoodIn lw_tbl wsX9_skip := (goodIn_ca (goodIn_ca (goodIn_r _ [1317, 1318, 1320, 46, 68, 1321, 1158, 1169, 1322, 1323, 1324, 1234, 1235, 1236, 1237, 1239, 32, 1240, 1257, 1259, 37, 1260, 1172, 1165, 1166, 1162, 1159, 1167, 1249, 1251, 35, 1252, 1261, 1263, 38, 1264, 1163, 1160, 1161, 1281, 404, 75, 405, 1164, 1265, 1267, 39, 1268, 1269, 1271, 40, 1272, 1273, 1275, 41, 1276, 1168, 1277, 1279, 42, 1280, 1282, 1284, 43, 1285, 1176, 1173, 1174, 1175] (by decide +kernel) (by decide +kernel)) gt_wsX90) gt_atM)
set_option maxRecDepth 40000 in
theorem gP_L_unskip : GoodIn lw_tbl wsL_unskip := (goodIn_ca (goodIn_ca (goodIn_ca (goodIn_ca (goodIn_ca (goodIn_ca (goodIn_ca (goodIn_ca (goodIn_ca (goodIn_r _ [807, 565, 566, 808, 809, 810, 59, 811, 640, 73, 284, 285, 788, 790, 19, 791, 572, 72, 792, 794, 20, 795, 796, 407, 408, 62, 409, 147, 410, 411, 412, 374, 319, 320, 61, 321, 112, 797, 798, 799, 800, 148, 141, 142, 143, 144, 704, 359, 360, 63, 361, 184, 362, 364, 1, 365, 185, 187, 310, 311, 312, 60, 313, 121, 314, 315, 316, 317, 117, 318, 366, 367, 368, 369, 119, 370, 371, 372, 373, 146, 339, 340, 341, 342, 120, 343, 326, 327, 328, 329, 330, 331, 332, 333, 191, 334, 375, 377, 2, 378, 190, 189, 188, 379, 380, 381, 382, 383, 384, 385, 386, 118, 387, 389, 3, 390, 344, 345, 346, 347, 391, 393, 4, 394, 403, 404, 75, 405, 186, 395, 396, 397, 398, 193, 399, 400, 401, 402, 192, 406, 413, 353, 354, 64, 355, 174, 173, 172, 356, 335, 336, 337, 338, 801, 802, 803, 804] (by decide +kernel) (by decide +kernel)) gt_wsX80) gt_wsX10) gt_wsX40) gt_wsX30) gt_wsX50) gt_wsX70) gt_atM) gt_at0_RX8_61) gt_at0_RX8_54)
set_option maxRecDepth 40000 in
theorem gP_X9_unskip : GoodIn lw_tbl wsX9_unskip := (goodIn_ca (goodIn_ca (goodIn_r _ [1328, 1318, 1320, 46, 68, 1321, 1158, 1169, 1322, 1323, 1324, 1234, 1235, 1236, 1237, 1239, 32, 1240, 1257, 1259, 37, 1260, 1172, 1165, 1166, 1162, 1159, 1167, 1249, 1251, 35, 1252, 1261, 1263, 38, 1264, 1163, 1160, 1161, 1281, 404, 75, 405, 1164, 1265, 1267, 39, 1268, 1269, 1271, 40, 1272, 1273, 1275, 41, 1276, 1168, 1277, 1279, 42, 1280, 1282, 1284, 43, 1285, 1176, 1173, 1174, 1175] (by decide +kernel) (by decide +kernel)) gt_wsX90) gt_atM)
set_option maxRecDepth 40000 in
theorem gP_L_setFormat : GoodIn lw_tbl wsL_setFormat := (goodIn_ca (goodIn_ca (goodIn_ca (goodIn_ca (goodIn_ca (goodIn_r _ [814, 565, 815, 816, 817, 59, 818, 572, 72, 284, 792, 794, 20, 795, 819, 513, 514, 62, 515, 145, 374, 319, 320, 61, 321, 112, 820, 821, 822, 823, 141, 142, 143, 144] (by decide +kernel) (by decide +kernel)) gt_wsX80) gt_wsX10) gt_wsX40) gt_atM) gt_at0_RX8_54)
set_option maxRecDepth 40000 in
theorem gP_X9_setFormat : GoodIn lw_tbl wsX9_setFormat := (goodIn_ca (goodIn_ca (goodIn_r _ [1332, 1158, 1170, 1322, 1323, 68, 1324, 1234, 1235, 1236, 1237, 1239, 32, 1240] (by decide +kernel) (by decide +kernel)) gt_wsX90) gt_atM)
set_option maxRecDepth 40000 in
theorem gP_L_setGoingOn : GoodIn lw_tbl wsL_setGoingOn := (goodIn_ca (goodIn_ca (goodIn_ca (goodIn_ca (goodIn_ca (goodIn_ca (goodIn_ca (goodIn_ca (goodIn_ca (goodIn_r _ [826, 565, 567, 827, 828, 829, 59, 830, 680, 74, 284, 285, 792, 794, 20, 795, 572, 72, 831, 833, 21, 834, 283, 418, 311, 312, 60, 313, 121, 468, 315, 316, 317, 117, 318, 319, 320, 61, 321, 112, 469, 367, 368, 369, 119, 668, 331, 332, 63, 333, 191, 334, 835, 371, 372, 62, 373, 146, 374, 836, 837, 838, 839, 141, 142, 143, 144, 704, 359, 360, 361, 184, 362, 364, 1, 365, 185, 187, 310, 314, 366, 370, 339, 340, 341, 342, 120, 343, 326, 327, 328, 329, 330, 375, 377, 2, 378, 190, 189, 188, 379, 380, 381, 382, 383, 384, 385, 386, 118, 387, 389, 3, 390, 344, 345, 346, 347, 391, 393, 4, 394, 403, 404, 75, 405, 186, 395, 396, 397, 398, 193, 399, 400, 401, 402, 192, 406, 407, 408, 409, 147, 410, 411, 412, 413, 353, 354, 64, 355, 174, 173, 172, 356, 335, 336, 337, 338] (by decide +kernel) (by decide +kernel)) gt_wsX80) gt_wsX50) gt_wsX40) gt_wsX30) gt_wsX10) gt_wsX70) gt_atM) gt_at0_RX8_76) gt_at0_RX8_54)
set_option maxRecDepth 40000 in
theorem gP_X9_setGoingOn : GoodIn lw_tbl wsX9_setGoingOn := (goodIn_ca (goodIn_ca (goodIn_r _ [1336, 1158, 1172, 1167, 1166, 1159, 1168, 1322, 1323, 68, 1324, 1234, 1235, 1236, 1337, 1339, 47, 1340, 1257, 1259, 37, 1260, 1165, 1162, 1249, 1251, 35, 1252, 1261, 1263, 38, 1264, 1163, 1160, 1161, 1281, 404, 75, 405, 1164, 1265, 1267, 39, 1268, 1269, 1271, 40, 1272, 1273, 1275, 41, 1276, 1277, 1279, 42, 1280, 1282, 1284, 43, 1285, 1176, 1173, 1174, 1175, 1169] (by decide +kernel) (by decide +kernel)) gt_wsX90) gt_atM)
set_option maxRecDepth 40000 in
theorem gP_L_find : GoodIn lw_tbl wsL_find := (goodIn_ca (goodIn_ca (goodIn_ca (goodIn_ca (goodIn_ca (goodIn_ca (goodIn_ca (goodIn_r _ [1030, 565, 708, 1031, 1032, 1033, 59, 1034, 717, 76, 283, 285, 792, 794, 20, 795, 572, 72, 418, 311, 312, 60, 313, 121, 468, 315, 316, 317, 117, 318, 319, 320, 61, 321, 112, 469, 367, 368, 369, 119, 470, 345, 346, 63, 347, 188, 334, 962, 336, 337, 338, 189] (by decide +kernel) (by decide +kernel)) gt_wsX80) gt_wsX50) gt_wsX40) gt_wsX30) gt_atM) gt_at0_RX8_206) gt_at0_RX8_54)
set_option maxRecDepth 40000 in
theorem gP_X9_find : GoodIn lw_tbl wsX9_find := (goodIn_ca (goodIn_ca (goodIn_r _ [1725, 1158, 1172, 1166, 1159, 1163, 1164, 1322, 1323, 68, 1324, 1234, 1235, 1236, 1237, 1239, 32, 1240] (by decide +kernel) (by decide +kernel)) gt_wsX90) gt_atM)
set_option maxRecDepth 40000 in
theorem gP_L_count : GoodIn lw_tbl wsL_count := (goodIn_ca (goodIn_ca (goodIn_ca (goodIn_ca (goodIn_ca (goodIn_ca (goodIn_r _ [1077, 565, 1078, 1079, 1080, 59, 1081, 572, 72, 1082, 1084, 26, 1085, 283, 418, 311, 312, 60, 313, 121, 468, 315, 316, 317, 117, 318, 319, 320, 61, 321, 112, 1086, 1088, 27, 1089, 285, 847, 327, 328, 329, 119, 668, 331, 332, 63, 333, 191, 334] (by decide +kernel) (by decide +kernel)) gt_wsX80) gt_wsX50) gt_wsX40) gt_wsX30) gt_atM) gt_at0_RX8_54)
set_option maxRecDepth 40000 in
theorem gP_X9_count : GoodIn lw_tbl wsX9_count := (goodIn_ca (goodIn_ca (goodIn_r _ [1773, 1158, 1774, 1776, 56, 68, 1777, 1172, 1166, 1159, 1167, 1237, 1239, 32, 1240] (by decide +kernel) (by decide +kernel)) gt_wsX90) gt_atM)
set_option maxRecDepth 40000 in
theorem gP_L_meanNumber : GoodIn lw_tbl wsL_meanNumber := (goodIn_ca (goodIn_ca (goodIn_ca (goodIn_ca (goodIn_ca (goodIn_ca (goodIn_ca (goodIn_r _ [1141, 565, 1093, 1142, 1143, 1144, 59, 1145, 1119, 90, 792, 794, 20, 795, 572, 72, 1146, 1148, 31, 1149, 283, 418, 311, 312, 60, 313, 121, 468, 315, 316, 317, 117, 318, 319, 320, 61, 321, 112, 469, 367, 368, 369, 119, 464, 466, 6, 467, 285, 470, 345, 346, 63, 347, 188, 334] (by decide +kernel) (by decide +kernel)) gt_wsX80) gt_wsX50) gt_wsX40) gt_wsX30) gt_atM) gt_at0_RX8_255) gt_at0_RX8_54)
set_option maxRecDepth 40000 in
theorem gP_X9_meanNumber : GoodIn lw_tbl wsX9_meanNumber := (goodIn_ca (goodIn_ca (goodIn_r _ [1814, 1158, 1172, 1159, 1166, 1163, 1322, 1323, 68, 1324, 1234, 1235, 1236, 1237, 1239, 32, 1240] (by decide +kernel) (by decide +kernel)) gt_wsX90) gt_atM)
set_option maxRecDepth 40000 in
theorem gP_X8_init : GoodIn lw_tbl wsX8_init := (goodIn_ca (goodIn_ca (goodIn_ca (goodIn_ca (goodIn_ca (goodIn_ca (goodIn_ca (goodIn_ca (goodIn_ca (goodIn_ca (goodIn_r _ [96, 97, 98, 99, 100, 101, 60, 283, 133, 134, 62, 284, 158, 159, 63, 285, 224, 225, 65, 286, 265, 266, 67, 287, 103, 104, 105, 106, 107, 61, 117, 118, 119, 120, 108, 109, 110, 111, 116, 112, 135, 136, 137, 138, 139, 145, 146, 147, 148, 140, 141, 142, 143, 144, 160, 161, 162, 163, 164, 165, 64, 186, 182, 187, 188, 189, 190, 191, 192, 193, 194, 184, 185, 167, 168, 169, 170, 172, 173, 171, 183, 226, 227, 228, 229, 230, 231, 66, 249, 250, 244, 251, 246, 247, 248, 233, 234, 235, 243, 236, 245, 268, 269, 270, 271, 273, 274, 272] (by decide +kernel) (by decide +kernel)) gt_wsX50) gt_wsX80) gt_wsX10) gt_wsX30) gt_wsX00) gt_wsX20) gt_wsX40) gt_wsX70) gt_wsX60) gt_atM)
set_option maxRecDepth 40000 in
theorem gP_X9_init : GoodIn lw_tbl wsX9_init := (goodIn_ca (goodIn_ca (goodIn_r _ [1154, 1155, 98, 99, 116, 1159, 1160, 1161, 1162, 1163, 1164, 1165, 1166, 1225, 1167, 1168, 1156, 1169, 243, 1170, 1173, 1174, 1175, 1177, 1178] (by decide +kernel) (by decide +kernel)) gt_wsX90) gt_atM)
set_option maxRecDepth 40000 in
theorem gq_143_L_move : GoodIn lw_tbl (va_wsS RL 143 yL_move wsL_move) := goodIn_app (goodIn_r _ [705, 706, 58] (by decide +kernel) (by decide +kernel)) gP_L_move
set_option maxRecDepth 40000 in
theorem gq_145_X9_move : GoodIn lw_tbl (wsV RL 145 RX9 yX9_move wsX9_move) := goodIn_app (goodIn_r _ [1286, 1287, 1288, 68] (by decide +kernel) (by decide +kernel)) gP_X9_move
set_option maxRecDepth 40000 in
theorem gq_140_X9_thrown : GoodIn lw_tbl (wsV RL 140 RX9 yX9_thrown wsX9_thrown) := goodIn_app (goodIn_r _ [1226, 1227, 1228, 68] (by decide +kernel) (by decide +kernel)) gP_X9_thrown
set_option maxRecDepth 40000 in
theorem gq_146_L_setLevel : GoodIn lw_tbl (va_wsS RL 146 yL_setLevel wsL_setLevel) := goodIn_app (goodIn_r _ [739, 740, 58] (by decide +kernel) (by decide +kernel)) gP_L_setLevel
set_option maxRecDepth 40000 in
theorem gq_148_X9_setLevel : GoodIn lw_tbl (wsV RL 148 RX9 yX9_setLevel wsX9_setLevel) := goodIn_app (goodIn_r _ [1298, 1299, 1300, 68] (by decide +kernel) (by decide +kernel)) gP_X9_setLevel
set_option maxRecDepth 40000 in
theorem gq_149_L_remove : GoodIn lw_tbl (va_wsS RL 149 yL_remove wsL_remove) := goodIn_app (goodIn_r _ [750, 751, 58] (by decide +kernel) (by decide +kernel)) gP_L_remove
set_option maxRecDepth 40000 in
theorem gq_152_X9_remove : GoodIn lw_tbl (wsV RL 152 RX9 yX9_remove wsX9_remove) := goodIn_app (goodIn_r _ [1302, 1303, 1304, 68] (by decide +kernel) (by decide +kernel)) gP_X9_remove
set_option maxRecDepth 40000 in
theorem gq_153_L_startAt : GoodIn lw_tbl (va_wsS RL 153 yL_startAt wsL_startAt) := goodIn_app (goodIn_r _ [757, 758, 58] (by decide +kernel) (by decide +kernel)) gP_L_startAt
set_option maxRecDepth 40000 in
theorem gq_155_X9_startAt : GoodIn lw_tbl (wsV RL 155 RX9 yX9_startAt wsX9_startAt) := goodIn_app (goodIn_r _ [1306, 1307, 1308, 68] (by decide +kernel) (by decide +kernel)) gP_X9_startAt
set_option maxRecDepth 40000 in
theorem gq_156_L_reserve : GoodIn lw_tbl (va_wsS RL 156 yL_reserve wsL_reserve) := goodIn_app (goodIn_r _ [769, 770, 58] (by decide +kernel) (by decide +kernel)) gP_L_reserve
set_option maxRecDepth 40000 in
theorem gq_158_X9_reserve : GoodIn lw_tbl (wsV RL 158 RX9 yX9_reserve wsX9_reserve) := goodIn_app (goodIn_r _ [1310, 1311, 1312, 68] (by decide +kernel) (by decide +kernel)) gP_X9_reserve
set_option maxRecDepth 40000 in
theorem gq_173_X8_freeze : GoodIn lw_tbl (wsV RL 173 RX8 yX8_freeze wsX8_freeze) := goodIn_app (goodIn_r _ [302, 303, 304, 59] (by decide +kernel) (by decide +kernel)) gP_X8_freeze
set_option maxRecDepth 40000 in
theorem gq_176_X9_freeze : GoodIn lw_tbl (wsV RL 176 RX9 yX9_freeze wsX9_freeze) := goodIn_app (goodIn_r _ [1341, 1342, 1343, 68] (by decide +kernel) (by decide +kernel)) gP_X9_freeze
set_option maxRecDepth 40000 in
theorem gq_177_L_refer : GoodIn lw_tbl (va_wsS RL 177 yL_refer wsL_refer) := goodIn_app (goodIn_r _ [840, 841, 58] (by decide +kernel) (by decide +kernel)) gP_L_refer
set_option maxRecDepth 40000 in
theorem gq_179_X9_refer : GoodIn lw_tbl (wsV RL 179 RX9 yX9_refer wsX9_refer) := goodIn_app (goodIn_r _ [1726, 1727, 1728, 68] (by decide +kernel) (by decide +kernel)) gP_X9_refer
set_option maxRecDepth 40000 in
theorem gq_180_X8_size : GoodIn lw_tbl (wsV RL 180 RX8 yX8_size wsX8_size) := goodIn_app (goodIn_r _ [414, 415, 416, 59] (by decide +kernel) (by decide +kernel)) gP_X8_size
set_option maxRecDepth 40000 in
theorem gq_183_X9_size : GoodIn lw_tbl (wsV RL 183 RX9 yX9_size wsX9_size) := goodIn_app (goodIn_r _ [1345, 1346, 1347, 68] (by decide +kernel) (by decide +kernel)) gP_X9_size
set_option maxRecDepth 40000 in
theorem gq_184_L_paragraphAt : GoodIn lw_tbl (va_wsS RL 184 yL_paragraphAt wsL_paragraphAt) := goodIn_app (goodIn_r _ [853, 854, 58] (by decide +kernel) (by decide +kernel)) gP_L_paragraphAt
set_option maxRecDepth 40000 in
theorem gq_186_X9_paragraphAt : GoodIn lw_tbl (wsV RL 186 RX9 yX9_paragraphAt wsX9_paragraphAt) := goodIn_app (goodIn_r _ [1349, 1350, 1351, 68] (by decide +kernel) (by decide +kernel)) gP_X9_paragraphAt
set_option maxRecDepth 40000 in
theorem gq_187_L_placeOf : GoodIn lw_tbl (va_wsS RL 187 yL_placeOf wsL_placeOf) := goodIn_app (goodIn_r _ [908, 909, 58] (by decide +kernel) (by decide +kernel)) gP_L_placeOf
set_option maxRecDepth 40000 in
theorem gq_189_X9_placeOf : GoodIn lw_tbl (wsV RL 189 RX9 yX9_placeOf wsX9_placeOf) := goodIn_app (goodIn_r _ [1353, 1354, 1355, 68] (by decide +kernel) (by decide +kernel)) gP_X9_placeOf
set_option maxRecDepth 40000 in
theorem gq_190_L_levelOf : GoodIn lw_tbl (va_wsS RL 190 yL_levelOf wsL_levelOf) := goodIn_app (goodIn_r _ [915, 916, 58] (by decide +kernel) (by decide +kernel)) gP_L_levelOf
set_option maxRecDepth 40000 in
theorem gq_192_X9_levelOf : GoodIn lw_tbl (wsV RL 192 RX9 yX9_levelOf wsX9_levelOf) := goodIn_app (goodIn_r _ [1357, 1358, 1359, 68] (by decide +kernel) (by decide +kernel)) gP_X9_levelOf
set_option maxRecDepth 40000 in
theorem gq_193_L_parentOf : GoodIn lw_tbl (va_wsS RL 193 yL_parentOf wsL_parentOf) := goodIn_app (goodIn_r _ [922, 923, 58] (by decide +kernel) (by decide +kernel)) gP_L_parentOf
set_option maxRecDepth 40000 in
theorem gq_195_X9_parentOf : GoodIn lw_tbl (wsV RL 195 RX9 yX9_parentOf wsX9_parentOf) := goodIn_app (goodIn_r _ [1361, 1362, 1363, 68] (by decide +kernel) (by decide +kernel)) gP_X9_parentOf
set_option maxRecDepth 40000 in
theorem gq_196_L_below : GoodIn lw_tbl (va_wsS RL 196 yL_below wsL_below) := goodIn_app (goodIn_r _ [933, 934, 58] (by decide +kernel) (by decide +kernel)) gP_L_below
set_option maxRecDepth 40000 in
theorem gq_198_X9_below : GoodIn lw_tbl (wsV RL 198 RX9 yX9_below wsX9_below) := goodIn_app (goodIn_r _ [1369, 1370, 1371, 68] (by decide +kernel) (by decide +kernel)) gP_X9_below
set_option maxRecDepth 40000 in
theorem gq_199_L_isFrozen : GoodIn lw_tbl (va_wsS RL 199 yL_isFrozen wsL_isFrozen) := goodIn_app (goodIn_r _ [941, 942, 58] (by decide +kernel) (by decide +kernel)) gP_L_isFrozen
set_option maxRecDepth 40000 in
theorem gq_201_X9_isFrozen : GoodIn lw_tbl (wsV RL 201 RX9 yX9_isFrozen wsX9_isFrozen) := goodIn_app (goodIn_r _ [1377, 1378, 1379, 68] (by decide +kernel) (by decide +kernel)) gP_X9_isFrozen
set_option maxRecDepth 40000 in
theorem gq_202_L_numberOf : GoodIn lw_tbl (va_wsS RL 202 yL_numberOf wsL_numberOf) := goodIn_app (goodIn_r _ [948, 949, 58] (by decide +kernel) (by decide +kernel)) gP_L_numberOf
set_option maxRecDepth 40000 in
theorem gq_204_X9_numberOf : GoodIn lw_tbl (wsV RL 204 RX9 yX9_numberOf wsX9_numberOf) := goodIn_app (goodIn_r _ [1381, 1382, 1383, 68] (by decide +kernel) (by decide +kernel)) gP_X9_numberOf
set_option maxRecDepth 40000 in
theorem gq_205_L_lettersOf : GoodIn lw_tbl (va_wsS RL 205 yL_lettersOf wsL_lettersOf) := goodIn_app (goodIn_r _ [955, 956, 58] (by decide +kernel) (by decide +kernel)) gP_L_lettersOf
set_option maxRecDepth 40000 in
theorem gq_207_X9_lettersOf : GoodIn lw_tbl (wsV RL 207 RX9 yX9_lettersOf wsX9_lettersOf) := goodIn_app (goodIn_r _ [1385, 1386, 1387, 68] (by decide +kernel) (by decide +kernel)) gP_X9_lettersOf
set_option maxRecDepth 40000 in
theorem gq_208_L_numberByWalk : GoodIn lw_tbl (va_wsS RL 208 yL_numberByWalk wsL_numberByWalk) := goodIn_app (goodIn_r _ [963, 964, 58] (by decide +kernel) (by decide +kernel)) gP_L_numberByWalk
set_option maxRecDepth 40000 in
theorem gq_210_X9_numberByWalk : GoodIn lw_tbl (wsV RL 210 RX9 yX9_numberByWalk wsX9_numberByWalk) := goodIn_app (goodIn_r _ [1389, 1390, 1391, 68] (by decide +kernel) (by decide +kernel)) gP_X9_numberByWalk
set_option maxRecDepth 40000 in
theorem gq_211_L_lettersByWalk : GoodIn lw_tbl (va_wsS RL 211 yL_lettersByWalk wsL_lettersByWalk) := goodIn_app (goodIn_r _ [978, 979, 58] (by decide +kernel) (by decide +kernel)) gP_L_lettersByWalk
set_option maxRecDepth 40000 in
theorem gq_213_X9_lettersByWalk : GoodIn lw_tbl (wsV RL 213 RX9 yX9_lettersByWalk wsX9_lettersByWalk) := goodIn_app (goodIn_r _ [1394, 1395, 1396, 68] (by decide +kernel) (by decide +kernel)) gP_X9_lettersByWalk
set_option maxRecDepth 40000 in
theorem gq_214_L_ahead : GoodIn lw_tbl (va_wsS RL 214 yL_ahead wsL_ahead) := goodIn_app (goodIn_r _ [989, 990, 58] (by decide +kernel) (by decide +kernel)) gP_L_ahead
set_option maxRecDepth 40000 in
theorem gq_216_X9_ahead : GoodIn lw_tbl (wsV RL 216 RX9 yX9_ahead wsX9_ahead) := goodIn_app (goodIn_r _ [1399, 1400, 1401, 68] (by decide +kernel) (by decide +kernel)) gP_X9_ahead
set_option maxRecDepth 40000 in
theorem gq_217_L_labelLength : GoodIn lw_tbl (va_wsS RL 217 yL_labelLength wsL_labelLength) := goodIn_app (goodIn_r _ [997, 998, 58] (by decide +kernel) (by decide +kernel)) gP_L_labelLength
set_option maxRecDepth 40000 in
theorem gq_220_L_labelAt : GoodIn lw_tbl (va_wsS RL 220 yL_labelAt wsL_labelAt) := goodIn_app (goodIn_r _ [1012, 1013, 58] (by decide +kernel) (by decide +kernel)) gP_L_labelAt
set_option maxRecDepth 40000 in
theorem gq_226_X8_references : GoodIn lw_tbl (wsV RL 226 RX8 yX8_references wsX8_references) := goodIn_app (goodIn_r _ [419, 420, 421, 59] (by decide +kernel) (by decide +kernel)) gP_X8_references
set_option maxRecDepth 40000 in
theorem gq_229_X9_references : GoodIn lw_tbl (wsV RL 229 RX9 yX9_references wsX9_references) := goodIn_app (goodIn_r _ [1730, 1731, 1732, 68] (by decide +kernel) (by decide +kernel)) gP_X9_references
set_option maxRecDepth 40000 in
theorem gq_230_L_targetOf : GoodIn lw_tbl (va_wsS RL 230 yL_targetOf wsL_targetOf) := goodIn_app (goodIn_r _ [1035, 1036, 58] (by decide +kernel) (by decide +kernel)) gP_L_targetOf
set_option maxRecDepth 40000 in
theorem gq_232_X9_targetOf : GoodIn lw_tbl (wsV RL 232 RX9 yX9_targetOf wsX9_targetOf) := goodIn_app (goodIn_r _ [1734, 1735, 1736, 68] (by decide +kernel) (by decide +kernel)) gP_X9_targetOf
set_option maxRecDepth 40000 in
theorem gq_233_L_isBroken : GoodIn lw_tbl (va_wsS RL 233 yL_isBroken wsL_isBroken) := goodIn_app (goodIn_r _ [1046, 1047, 58] (by decide +kernel) (by decide +kernel)) gP_L_isBroken
set_option maxRecDepth 40000 in
theorem gq_235_X9_isBroken : GoodIn lw_tbl (wsV RL 235 RX9 yX9_isBroken wsX9_isBroken) := goodIn_app (goodIn_r _ [1742, 1743, 1744, 68] (by decide +kernel) (by decide +kernel)) gP_X9_isBroken
set_option maxRecDepth 40000 in
theorem gq_236_L_referenceLength : GoodIn lw_tbl (va_wsS RL 236 yL_referenceLength wsL_referenceLength) := goodIn_app (goodIn_r _ [1053, 1054, 58] (by decide +kernel) (by decide +kernel)) gP_L_referenceLength
set_option maxRecDepth 40000 in
theorem gq_239_L_referenceAt : GoodIn lw_tbl (va_wsS RL 239 yL_referenceAt wsL_referenceAt) := goodIn_app (goodIn_r _ [1068, 1069, 58] (by decide +kernel) (by decide +kernel)) gP_L_referenceAt
set_option maxRecDepth 40000 in
theorem gq_242_X8_broken : GoodIn lw_tbl (wsV RL 242 RX8 yX8_broken wsX8_broken) := goodIn_app (goodIn_r _ [427, 428, 429, 59] (by decide +kernel) (by decide +kernel)) gP_X8_broken
set_option maxRecDepth 40000 in
theorem gq_245_X9_broken : GoodIn lw_tbl (wsV RL 245 RX9 yX9_broken wsX9_broken) := goodIn_app (goodIn_r _ [1762, 1763, 1764, 68] (by decide +kernel) (by decide +kernel)) gP_X9_broken
set_option maxRecDepth 40000 in
theorem gq_246_X8_used : GoodIn lw_tbl (wsV RL 246 RX8 yX8_used wsX8_used) := goodIn_app (goodIn_r _ [448, 449, 450, 59] (by decide +kernel) (by decide +kernel)) gP_X8_used
set_option maxRecDepth 40000 in
theorem gq_249_X9_used : GoodIn lw_tbl (wsV RL 249 RX9 yX9_used wsX9_used) := goodIn_app (goodIn_r _ [1766, 1767, 1768, 68] (by decide +kernel) (by decide +kernel)) gP_X9_used
set_option maxRecDepth 40000 in
theorem gq_254_X8_sum : GoodIn lw_tbl (wsV RL 254 RX8 yX8_sum wsX8_sum) := goodIn_app (goodIn_r _ [460, 461, 462, 59] (by decide +kernel) (by decide +kernel)) gP_X8_sum
set_option maxRecDepth 40000 in
theorem gq_258_X9_sum : GoodIn lw_tbl (wsV RL 258 RX9 yX9_sum wsX9_sum) := goodIn_app (goodIn_r _ [1778, 1779, 1780, 68] (by decide +kernel) (by decide +kernel)) gP_X9_sum
set_option maxRecDepth 40000 in
theorem gq_259_X8_isUnique : GoodIn lw_tbl (wsV RL 259 RX8 yX8_isUnique wsX8_isUnique) := goodIn_app (goodIn_r _ [471, 472, 473, 59] (by decide +kernel) (by decide +kernel)) gP_X8_isUnique
set_option maxRecDepth 40000 in
theorem gq_264_L_frozenShare : GoodIn lw_tbl (va_wsS RL 264 yL_frozenShare wsL_frozenShare) := goodIn_app (goodIn_r _ [1090, 1091, 58] (by decide +kernel) (by decide +kernel)) gP_L_frozenShare
set_option maxRecDepth 40000 in
theorem gq_267_X9_frozenShare : GoodIn lw_tbl (wsV RL 267 RX9 yX9_frozenShare wsX9_frozenShare) := goodIn_app (goodIn_r _ [1789, 1790, 1791, 68] (by decide +kernel) (by decide +kernel)) gP_X9_frozenShare
set_option maxRecDepth 40000 in
theorem gq_268_L_shareBits : GoodIn lw_tbl (va_wsS RL 268 yL_shareBits wsL_shareBits) := goodIn_app (goodIn_r _ [1128, 1129, 58] (by decide +kernel) (by decide +kernel)) gP_L_shareBits
set_option maxRecDepth 40000 in
theorem gq_271_X9_shareBits : GoodIn lw_tbl (wsV RL 271 RX9 yX9_shareBits wsX9_shareBits) := goodIn_app (goodIn_r _ [1797, 1798, 1799, 68] (by decide +kernel) (by decide +kernel)) gP_X9_shareBits
set_option maxRecDepth 40000 in
theorem gq_134_L_insert : GoodIn lw_tbl (va_wsS RL 134 yL_insert wsL_insert) := goodIn_app (goodIn_r _ [562, 563, 58] (by decide +kernel) (by decide +kernel)) gP_L_insert
set_option maxRecDepth 40000 in
theorem gq_139_X9_insert : GoodIn lw_tbl (wsV RL 139 RX9 yX9_insert wsX9_insert) := goodIn_app (goodIn_r _ [1230, 1231, 1232, 68] (by decide +kernel) (by decide +kernel)) gP_X9_insert
set_option maxRecDepth 40000 in
theorem gq_159_L_skip : GoodIn lw_tbl (va_wsS RL 159 yL_skip wsL_skip) := goodIn_app (goodIn_r _ [781, 782, 58] (by decide +kernel) (by decide +kernel)) gP_L_skip
set_option maxRecDepth 40000 in
theorem gq_161_X9_skip : GoodIn lw_tbl (wsV RL 161 RX9 yX9_skip wsX9_skip) := goodIn_app (goodIn_r _ [1314, 1315, 1316, 68] (by decide +kernel) (by decide +kernel)) gP_X9_skip
set_option maxRecDepth 40000 in
theorem gq_162_L_unskip : GoodIn lw_tbl (va_wsS RL 162 yL_unskip wsL_unskip) := goodIn_app (goodIn_r _ [805, 806, 58] (by decide +kernel) (by decide +kernel)) gP_L_unskip
set_option maxRecDepth 40000 in
theorem gq_164_X9_unskip : GoodIn lw_tbl (wsV RL 164 RX9 yX9_unskip wsX9_unskip) := goodIn_app (goodIn_r _ [1325, 1326, 1327, 68] (by decide +kernel) (by decide +kernel)) gP_X9_unskip
set_option maxRecDepth 40000 in
theorem gq_165_L_setFormat : GoodIn lw_tbl (va_wsS RL 165 yL_setFormat wsL_setFormat) := goodIn_app (goodIn_r _ [812, 813, 58] (by decide +kernel) (by decide +kernel)) gP_L_setFormat
set_option maxRecDepth 40000 in
theorem gq_168_X9_setFormat : GoodIn lw_tbl (wsV RL 168 RX9 yX9_setFormat wsX9_setFormat) := goodIn_app (goodIn_r _ [1329, 1330, 1331, 68] (by decide +kernel) (by decide +kernel)) gP_X9_setFormat
set_option maxRecDepth 40000 in
theorem gq_169_L_setGoingOn : GoodIn lw_tbl (va_wsS RL 169 yL_setGoingOn wsL_setGoingOn) := goodIn_app (goodIn_r _ [824, 825, 58] (by decide +kernel) (by decide +kernel)) gP_L_setGoingOn
set_option maxRecDepth 40000 in
theorem gq_172_X9_setGoingOn : GoodIn lw_tbl (wsV RL 172 RX9 yX9_setGoingOn wsX9_setGoingOn) := goodIn_app (goodIn_r _ [1333, 1334, 1335, 68] (by decide +kernel) (by decide +kernel)) gP_X9_setGoingOn
set_option maxRecDepth 40000 in
theorem gq_223_L_find : GoodIn lw_tbl (va_wsS RL 223 yL_find wsL_find) := goodIn_app (goodIn_r _ [1028, 1029, 58] (by decide +kernel) (by decide +kernel)) gP_L_find
set_option maxRecDepth 40000 in
theorem gq_225_X9_find : GoodIn lw_tbl (wsV RL 225 RX9 yX9_find wsX9_find) := goodIn_app (goodIn_r _ [1722, 1723, 1724, 68] (by decide +kernel) (by decide +kernel)) gP_X9_find
set_option maxRecDepth 40000 in
theorem gq_250_L_count : GoodIn lw_tbl (va_wsS RL 250 yL_count wsL_count) := goodIn_app (goodIn_r _ [1075, 1076, 58] (by decide +kernel) (by decide +kernel)) gP_L_count
set_option maxRecDepth 40000 in
theorem gq_253_X9_count : GoodIn lw_tbl (wsV RL 253 RX9 yX9_count wsX9_count) := goodIn_app (goodIn_r _ [1770, 1771, 1772, 68] (by decide +kernel) (by decide +kernel)) gP_X9_count
set_option maxRecDepth 40000 in
theorem gq_272_L_meanNumber : GoodIn lw_tbl (va_wsS RL 272 yL_meanNumber wsL_meanNumber) := goodIn_app (goodIn_r _ [1139, 1140, 58] (by decide +kernel) (by decide +kernel)) gP_L_meanNumber
set_option maxRecDepth 40000 in
theorem gq_275_X9_meanNumber : GoodIn lw_tbl (wsV RL 275 RX9 yX9_meanNumber wsX9_meanNumber) := goodIn_app (goodIn_r _ [1811, 1812, 1813, 68] (by decide +kernel) (by decide +kernel)) gP_X9_meanNumber
