set_option maxRecDepth 100000 in
theorem vd_X10_then : sd_Vq (yX10_then, cX10_then, 4, (some (.int)), tb_X10_then) := sd_mk (by decide +kernel) [423, 424, 69, 425, 394, 258, 459, 460, 461, 71, 462, 423, 424, 69, 425, 426, 428, 0, 69, 429, 398, 825, 826, 827, 77, 828, 394, 260, 464, 465, 466, 71, 467] (by decide +kernel) (by decide +kernel)
set_option maxRecDepth 100000 in
theorem vd_X10_thenDoor : sd_Vq (yX10_thenDoor, cX10_thenDoor, 4, (some (.int)), tb_X10_thenDoor) := sd_mk (by decide +kernel) [423, 424, 69, 425, 394, 258, 539, 540, 541, 71, 542, 423, 424, 69, 425, 426, 428, 0, 69, 429, 398, 825, 826, 827, 77, 828, 394, 260, 394, 262, 543, 544, 545, 71, 546] (by decide +kernel) (by decide +kernel)
set_option maxRecDepth 100000 in
theorem vd_X10_moves : sd_Vq (yX10_moves, cX10_moves, 3, (some (.int)), tb_X10_moves) := sd_mk (by decide +kernel) [394, 258, 459, 460, 461, 71, 462, 858, 859, 77, 860, 426, 428, 0, 69, 429, 398, 862, 863, 864, 77, 865] (by decide +kernel) (by decide +kernel)
set_option maxRecDepth 100000 in
theorem vd_X10_best : sd_Vq (yX10_best, cX10_best, 4, (some (.int)), tb_X10_best) := sd_mk (by decide +kernel) [394, 258, 459, 460, 461, 71, 462, 423, 424, 69, 425, 423, 424, 69, 425, 426, 428, 0, 69, 429, 398, 872, 873, 874, 77, 875, 398, 319, 398, 321] (by decide +kernel) (by decide +kernel)
set_option maxRecDepth 100000 in
theorem vd_X10_storm : sd_Vq (yX10_storm, cX10_storm, 4, (some (.int)), tb_X10_storm) := sd_mk (by decide +kernel) [394, 258, 459, 460, 461, 71, 462, 423, 424, 69, 425, 423, 424, 69, 425, 426, 428, 0, 69, 429, 398, 889, 890, 891, 77, 892, 398, 319, 398, 321] (by decide +kernel) (by decide +kernel)
set_option maxRecDepth 100000 in
theorem vd_X10_changes : sd_Vq (yX10_changes, cX10_changes, 2, (some (.int)), tb_X10_changes) := sd_mk (by decide +kernel) [423, 424, 69, 425, 426, 428, 0, 69, 429, 398, 902, 903, 904, 77, 905] (by decide +kernel) (by decide +kernel)
set_option maxRecDepth 100000 in
theorem vd_X10_buys : sd_Vq (yX10_buys, cX10_buys, 4, (some (.int)), tb_X10_buys) := sd_mk (by decide +kernel) [394, 258, 459, 460, 461, 71, 462, 426, 428, 0, 69, 429, 394, 258, 394, 260, 917, 918, 919, 71, 920, 426, 428, 0, 69, 429] (by decide +kernel) (by decide +kernel)
set_option maxRecDepth 100000 in
theorem vd_X10_comes : sd_Vq (yX10_comes, cX10_comes, 5, (some (.int)), tb_X10_comes) := sd_mk (by decide +kernel) [394, 258, 459, 460, 461, 71, 462, 394, 258, 459, 460, 461, 71, 462, 423, 424, 69, 425, 426, 428, 0, 69, 429, 398, 929, 930, 931, 77, 932, 426, 428, 0, 69, 429] (by decide +kernel) (by decide +kernel)
set_option maxRecDepth 100000 in
theorem vd_X10_voice : sd_Vq (yX10_voice, cX10_voice, 5, (some (.int)), tb_X10_voice) := sd_mk (by decide +kernel) [394, 258, 539, 540, 541, 71, 542, 423, 424, 69, 425, 426, 428, 0, 69, 429, 399, 394, 258, 564, 473, 474, 71, 475, 948, 949, 950, 78, 951, 399, 346, 426, 428, 0, 69, 429] (by decide +kernel) (by decide +kernel)
set_option maxRecDepth 100000 in
theorem vd_X10_body : sd_Vq (yX10_body, cX10_body, 2, (some (.int)), tb_X10_body) := sd_mk (by decide +kernel) [399, 344, 973, 439, 440, 75, 441, 399, 344, 430, 431, 432, 75, 433, 426, 428, 0, 69, 429] (by decide +kernel) (by decide +kernel)
set_option maxRecDepth 100000 in
theorem vd_X10_sheet : sd_Vq (yX10_sheet, cX10_sheet, 4, (some (.int)), tb_X10_sheet) := sd_mk (by decide +kernel) [978, 980, 18, 69, 981, 426, 428, 0, 69, 429, 426, 428, 0, 69, 429, 426, 428, 0, 69, 429, 982, 984, 19, 69, 985, 986, 987, 988, 79, 989] (by decide +kernel) (by decide +kernel)
set_option maxRecDepth 100000 in
theorem vd_X10_put : sd_Vq (yX10_put, cX10_put, 5, (some (.int)), tb_X10_put) := sd_mk (by decide +kernel) [978, 980, 18, 69, 981, 426, 428, 0, 69, 429, 982, 984, 19, 69, 985, 995, 996, 997, 79, 998, 426, 428, 0, 69, 429, 373, 973, 439, 440, 75, 441, 426, 428, 0, 69, 429, 999, 1000, 1001, 79, 1002] (by decide +kernel) (by decide +kernel)
set_option maxRecDepth 100000 in
theorem vd_X10_move : sd_Vq (yX10_move, cX10_move, 8, (some (.int)), tb_X10_move) := sd_mk (by decide +kernel) [978, 980, 18, 69, 981, 978, 980, 18, 69, 981, 426, 428, 0, 69, 429, 982, 984, 19, 69, 985, 982, 984, 19, 69, 985, 995, 996, 997, 79, 998, 995, 996, 997, 79, 998, 426, 428, 0, 69, 429, 371, 371, 426, 428, 0, 69, 429, 373, 1008, 745, 746, 75, 747, 373, 1008, 745, 746, 75, 747, 426, 428, 0, 69, 429, 373, 373, 1009, 741, 742, 75, 743] (by decide +kernel) (by decide +kernel)
set_option maxRecDepth 100000 in
theorem vd_X10_votes : sd_Vq (yX10_votes, cX10_votes, 2, (some (.int)), tb_X10_votes) := sd_mk (by decide +kernel) [978, 980, 18, 69, 981, 426, 428, 0, 69, 429, 982, 984, 19, 69, 985, 995, 996, 997, 79, 998, 426, 428, 0, 69, 429, 394, 258, 982, 984, 19, 69, 985, 373, 1014, 1015, 1016, 71, 1017] (by decide +kernel) (by decide +kernel)
set_option maxRecDepth 100000 in
theorem vd_X10_off : sd_Vq (yX10_off, cX10_off, 3, (some (.int)), tb_X10_off) := sd_mk (by decide +kernel) [394, 258, 459, 460, 461, 71, 462, 978, 980, 18, 69, 981, 426, 428, 0, 69, 429, 982, 984, 19, 69, 985, 995, 996, 997, 79, 998, 426, 428, 0, 69, 429, 398, 982, 984, 19, 69, 985, 373, 394, 258, 198, 1025, 1026, 1027, 77, 1028] (by decide +kernel) (by decide +kernel)
set_option maxRecDepth 100000 in
theorem vd_X10_rained : sd_Vq (yX10_rained, cX10_rained, 3, (some (.int)), tb_X10_rained) := sd_mk (by decide +kernel) [394, 258, 459, 460, 461, 71, 462, 978, 980, 18, 69, 981, 426, 428, 0, 69, 429, 982, 984, 19, 69, 985, 995, 996, 997, 79, 998, 426, 428, 0, 69, 429, 398, 982, 984, 19, 69, 985, 373, 1043, 1044, 1045, 77, 1046] (by decide +kernel) (by decide +kernel)
set_option maxRecDepth 100000 in
theorem vd_X10_image : sd_Vq (yX10_image, cX10_image, 1, (some (.int)), tb_X10_image) := sd_mk (by decide +kernel) [395, 394, 1052, 1053, 1054, 70, 1055, 396, 396, 396] (by decide +kernel) (by decide +kernel)
set_option maxRecDepth 100000 in
theorem vd_X10_restore : sd_Vq (yX10_restore, cX10_restore, 1, (some (.int)), tb_X10_restore) := sd_mk (by decide +kernel) [396, 426, 428, 0, 69, 429, 394, 395, 1052, 1053, 1054, 70, 1055, 394, 258, 201] (by decide +kernel) (by decide +kernel)
set_option maxRecDepth 100000 in
theorem vd_X10_tell : sd_Vq (yX10_tell, cX10_tell, 2, (some (.int)), tb_X10_tell) := sd_mk (by decide +kernel) [394, 266, 239, 426, 428, 0, 69, 429, 394, 266, 595, 596, 597, 75, 598, 394, 266, 239] (by decide +kernel) (by decide +kernel)
set_option maxRecDepth 100000 in
theorem vd_X10_check : sd_Vq (yX10_check, cX10_check, 2, (some (.int)), tb_X10_check) := sd_mk (by decide +kernel) [394, 258, 394, 266, 394, 260, 1074, 1075, 1076, 71, 1077, 394, 266, 727, 608, 609, 75, 610] (by decide +kernel) (by decide +kernel)
set_option maxRecDepth 100000 in
theorem vd_X10_count : sd_Vq (yX10_count, cX10_count, 2, (some (.int)), tb_X10_count) := sd_mk (by decide +kernel) [394, 258, 192, 394, 258, 195, 394, 258, 201, 394, 258, 198, 394, 258, 1083, 1084, 1085, 71, 1086, 394, 258, 203, 394, 263, 239, 394, 266, 239, 399, 344, 239, 394, 258, 205, 426, 428, 0, 69, 429] (by decide +kernel) (by decide +kernel)
set_option maxRecDepth 100000 in
theorem vd_X10_told : sd_Vq (yX10_told, cX10_told, 2, (some (.int)), tb_X10_told) := sd_mk (by decide +kernel) [423, 424, 69, 425, 426, 428, 0, 69, 429, 401, 430, 431, 432, 75, 433] (by decide +kernel) (by decide +kernel)
set_option maxRecDepth 100000 in
theorem vd_X10_error : sd_Vq (yX10_error, cX10_error, 2, (some (.int)), tb_X10_error) := sd_mk (by decide +kernel) [401, 401, 430, 431, 432, 75, 433, 434, 435, 436, 75, 437, 442] (by decide +kernel) (by decide +kernel)
set_option maxRecDepth 100000 in
theorem vd_X10_passHours : sd_Vq (yX10_passHours, cX10_passHours, 4, (some (.int)), tb_X10_passHours) := sd_mk (by decide +kernel) [423, 424, 69, 425, 426, 428, 0, 69, 429, 394, 258, 201, 426, 428, 0, 69, 429, 394, 258, 769, 770, 771, 71, 772, 394, 258, 394, 260, 774, 775, 776, 71, 777, 394, 258, 394, 262, 809, 810, 811, 71, 812] (by decide +kernel) (by decide +kernel)
set_option maxRecDepth 100000 in
theorem vd_X10_lawOf : sd_Vq (yX10_lawOf, cX10_lawOf, 2, (some (.object "VotedWater$Law")), tb_X10_lawOf) := sd_mk (by decide +kernel) [394, 260, 394, 262] (by decide +kernel) (by decide +kernel)
set_option maxRecDepth 100000 in
theorem vd_X10_hasSheet : sd_Vq (yX10_hasSheet, cX10_hasSheet, 2, (some (.boolean)), tb_X10_hasSheet) := sd_mk (by decide +kernel) [400, 423, 424, 69, 425] (by decide +kernel) (by decide +kernel)
set_option maxRecDepth 100000 in
theorem vd_X10_sheetAt : sd_Vq (yX10_sheetAt, cX10_sheetAt, 2, (some (.object "VotedWater$Sheet")), tb_X10_sheetAt) := sd_mk (by decide +kernel) [400, 978, 980, 18, 69, 981] (by decide +kernel) (by decide +kernel)
set_option maxRecDepth 100000 in
theorem vd_X10_within : sd_Vq (yX10_within, cX10_within, 3, (some (.boolean)), tb_X10_within) := sd_mk (by decide +kernel) [] (by decide +kernel) (by decide +kernel)
set_option maxRecDepth 100000 in
theorem vd_X11_init : sd_Vq (yX11_init, cX11_init, 1, none, tb_X11_init) := sd_mk (by decide +kernel) [1096, 96, 97, 247, 1097, 247, 1098, 247, 1099, 247, 1101, 247, 1106, 247, 1107, 247, 1108, 247, 1109, 1110, 247, 1112, 247, 1116, 247, 1117, 247, 1118, 247, 1119, 1097] (by decide +kernel) (by decide +kernel)
set_option maxRecDepth 100000 in
theorem vd_X11_error : sd_Vq (yX11_error, cX11_error, 2, (some (.int)), tb_X11_error) := sd_mk (by decide +kernel) [1101, 1178] (by decide +kernel) (by decide +kernel)
set_option maxRecDepth 100000 in
theorem vd_X11_in : sd_Vq (yX11_in, cX11_in, 3, (some (.boolean)), tb_X11_in) := sd_mk (by decide +kernel) [] (by decide +kernel) (by decide +kernel)
set_option maxRecDepth 100000 in
theorem vd_X11_held : sd_Vq (yX11_held, cX11_held, 3, (some (.int)), tb_X11_held) := sd_mk (by decide +kernel) [] (by decide +kernel) (by decide +kernel)
set_option maxRecDepth 100000 in
theorem vd_X11_carry : sd_Vq (yX11_carry, cX11_carry, 3, none, tb_X11_carry) := sd_mk (by decide +kernel) [] (by decide +kernel) (by decide +kernel)
set_option maxRecDepth 100000 in
theorem vd_X11_isBasin : sd_Vq (yX11_isBasin, cX11_isBasin, 2, (some (.boolean)), tb_X11_isBasin) := sd_mk (by decide +kernel) [1097, 1171, 1172, 82, 1173] (by decide +kernel) (by decide +kernel)
set_option maxRecDepth 100000 in
theorem vd_X11_isDoor : sd_Vq (yX11_isDoor, cX11_isDoor, 2, (some (.boolean)), tb_X11_isDoor) := sd_mk (by decide +kernel) [1097, 1171, 1172, 82, 1173] (by decide +kernel) (by decide +kernel)
set_option maxRecDepth 100000 in
theorem vd_X11_of : sd_Vq (yX11_of, cX11_of, 3, (some (.int)), tb_X11_of) := sd_mk (by decide +kernel) [1097] (by decide +kernel) (by decide +kernel)
set_option maxRecDepth 100000 in
theorem vd_X11_its : sd_Vq (yX11_its, cX11_its, 3, (some (.int)), tb_X11_its) := sd_mk (by decide +kernel) [1097] (by decide +kernel) (by decide +kernel)
set_option maxRecDepth 100000 in
theorem vd_X11_level : sd_Vq (yX11_level, cX11_level, 2, (some (.int)), tb_X11_level) := sd_mk (by decide +kernel) [1195, 1197, 24, 82, 1198, 1195, 1197, 24, 82, 1198] (by decide +kernel) (by decide +kernel)
set_option maxRecDepth 100000 in
theorem vd_X11_levelAt : sd_Vq (yX11_levelAt, cX11_levelAt, 2, (some (.int)), tb_X11_levelAt) := sd_mk (by decide +kernel) [1203, 1205, 26, 82, 1206, 1191, 1193, 23, 82, 1194] (by decide +kernel) (by decide +kernel)
set_option maxRecDepth 100000 in
theorem vd_X11_basin : sd_Vq (yX11_basin, cX11_basin, 3, (some (.int)), tb_X11_basin) := sd_mk (by decide +kernel) [1171, 1172, 82, 1173, 1174, 1176, 20, 82, 1177, 1097, 1174, 1176, 20, 82, 1177, 1097, 1097, 1097, 1097, 1097, 1097, 1097, 1097, 1097, 1097] (by decide +kernel) (by decide +kernel)
set_option maxRecDepth 100000 in
theorem vd_X11_votesOn : sd_Vq (yX11_votesOn, cX11_votesOn, 4, (some (.int)), tb_X11_votesOn) := sd_mk (by decide +kernel) [1097, 1203, 1205, 26, 82, 1206, 1207, 1209, 27, 82, 1210] (by decide +kernel) (by decide +kernel)
set_option maxRecDepth 100000 in
theorem vd_X11_toldBasin : sd_Vq (yX11_toldBasin, cX11_toldBasin, 3, (some (.int)), tb_X11_toldBasin) := sd_mk (by decide +kernel) [1191, 1193, 23, 82, 1194, 1199, 1201, 25, 82, 1202, 1195, 1197, 24, 82, 1198] (by decide +kernel) (by decide +kernel)
set_option maxRecDepth 100000 in
theorem vd_X11_basinIs : sd_Vq (yX11_basinIs, cX11_basinIs, 3, (some (.int)), tb_X11_basinIs) := sd_mk (by decide +kernel) [1183, 1185, 21, 82, 1186, 1171, 1172, 82, 1173, 1187, 1189, 22, 82, 1190, 1174, 1176, 20, 82, 1177] (by decide +kernel) (by decide +kernel)
set_option maxRecDepth 100000 in
theorem vd_X11_setBasin : sd_Vq (yX11_setBasin, cX11_setBasin, 6, (some (.int)), tb_X11_setBasin) := sd_mk (by decide +kernel) [1237, 1183, 1185, 21, 82, 1186, 1171, 1172, 82, 1173, 1171, 1172, 82, 1173, 1174, 1176, 20, 82, 1177, 1195, 1197, 24, 82, 1198, 1097] (by decide +kernel) (by decide +kernel)
set_option maxRecDepth 100000 in
theorem vd_X11_door : sd_Vq (yX11_door, cX11_door, 5, (some (.int)), tb_X11_door) := sd_mk (by decide +kernel) [1171, 1172, 82, 1173, 1183, 1185, 21, 82, 1186, 1171, 1172, 82, 1173, 1174, 1176, 20, 82, 1177, 1097, 1174, 1176, 20, 82, 1177, 1097, 1097, 1097, 1097, 1097, 1097, 1097, 1097, 1097, 1097, 1097] (by decide +kernel) (by decide +kernel)
set_option maxRecDepth 100000 in
theorem vd_X11_toldDoor : sd_Vq (yX11_toldDoor, cX11_toldDoor, 3, (some (.int)), tb_X11_toldDoor) := sd_mk (by decide +kernel) [1207, 1209, 27, 82, 1210, 1254, 1256, 34, 82, 1257, 1203, 1205, 26, 82, 1206] (by decide +kernel) (by decide +kernel)
set_option maxRecDepth 100000 in
theorem vd_X11_doorIs : sd_Vq (yX11_doorIs, cX11_doorIs, 3, (some (.int)), tb_X11_doorIs) := sd_mk (by decide +kernel) [1246, 1248, 32, 82, 1249, 1171, 1172, 82, 1173, 1250, 1252, 33, 82, 1253, 1174, 1176, 20, 82, 1177] (by decide +kernel) (by decide +kernel)
set_option maxRecDepth 100000 in
theorem vd_X11_isUnder : sd_Vq (yX11_isUnder, cX11_isUnder, 2, (some (.boolean)), tb_X11_isUnder) := sd_mk (by decide +kernel) [] (by decide +kernel) (by decide +kernel)
set_option maxRecDepth 100000 in
theorem vd_X11_as : sd_Vq (yX11_as, cX11_as, 3, (some (.int)), tb_X11_as) := sd_mk (by decide +kernel) [1246, 1248, 32, 82, 1249, 1171, 1172, 82, 1173, 1174, 1176, 20, 82, 1177, 1203, 1205, 26, 82, 1206, 1265, 1266, 82, 1267, 1203, 1205, 26, 82, 1206, 1174, 1176, 20, 82, 1177] (by decide +kernel) (by decide +kernel)
set_option maxRecDepth 100000 in
theorem vd_X11_setDoor : sd_Vq (yX11_setDoor, cX11_setDoor, 7, (some (.int)), tb_X11_setDoor) := sd_mk (by decide +kernel) [1246, 1248, 32, 82, 1249, 1171, 1172, 82, 1173, 1171, 1172, 82, 1173, 1174, 1176, 20, 82, 1177, 1203, 1205, 26, 82, 1206, 1097] (by decide +kernel) (by decide +kernel)
set_option maxRecDepth 100000 in
theorem vd_X11_rain : sd_Vq (yX11_rain, cX11_rain, 3, (some (.int)), tb_X11_rain) := sd_mk (by decide +kernel) [1171, 1172, 82, 1173, 1174, 1176, 20, 82, 1177, 1097, 1097] (by decide +kernel) (by decide +kernel)
set_option maxRecDepth 100000 in
theorem vd_X11_feed : sd_Vq (yX11_feed, cX11_feed, 5, (some (.int)), tb_X11_feed) := sd_mk (by decide +kernel) [1171, 1172, 82, 1173, 1174, 1176, 20, 82, 1177, 1097, 1174, 1176, 20, 82, 1177, 1097, 1097, 1280, 1097, 1097] (by decide +kernel) (by decide +kernel)
set_option maxRecDepth 100000 in
theorem vd_X11_look : sd_Vq (yX11_look, cX11_look, 1, (some (.int)), tb_X11_look) := sd_mk (by decide +kernel) [1102, 1097, 1097, 1102] (by decide +kernel) (by decide +kernel)
set_option maxRecDepth 100000 in
theorem vd_X11_isName : sd_Vq (yX11_isName, cX11_isName, 2, (some (.boolean)), tb_X11_isName) := sd_mk (by decide +kernel) [1105] (by decide +kernel) (by decide +kernel)
set_option maxRecDepth 100000 in
theorem vd_X11_lays : sd_Vq (yX11_lays, cX11_lays, 3, none, tb_X11_lays) := sd_mk (by decide +kernel) [1106, 1104, 1106, 1104, 1104, 1104] (by decide +kernel) (by decide +kernel)
set_option maxRecDepth 100000 in
theorem vd_X11_whole : sd_Vq (yX11_whole, cX11_whole, 1, (some (.boolean)), tb_X11_whole) := sd_mk (by decide +kernel) [1289, 1291, 36, 82, 1292, 1309, 1311, 41, 82, 1312, 1102, 1102, 1289, 1291, 36, 82, 1292, 1317, 1319, 43, 82, 1320] (by decide +kernel) (by decide +kernel)
set_option maxRecDepth 100000 in
theorem vd_X11_both : sd_Vq (yX11_both, cX11_both, 1, (some (.boolean)), tb_X11_both) := sd_mk (by decide +kernel) [1293, 1295, 37, 82, 1296, 1309, 1311, 41, 82, 1312, 1102, 1102, 1293, 1295, 37, 82, 1296, 1317, 1319, 43, 82, 1320] (by decide +kernel) (by decide +kernel)
set_option maxRecDepth 100000 in
theorem vd_X11_compared : sd_Vq (yX11_compared, cX11_compared, 2, (some (.boolean)), tb_X11_compared) := sd_mk (by decide +kernel) [1297, 1299, 38, 82, 1300, 1309, 1311, 41, 82, 1312, 1102, 1102, 1297, 1299, 38, 82, 1300, 1317, 1319, 43, 82, 1320] (by decide +kernel) (by decide +kernel)
set_option maxRecDepth 100000 in
theorem vd_X11_sum : sd_Vq (yX11_sum, cX11_sum, 2, (some (.boolean)), tb_X11_sum) := sd_mk (by decide +kernel) [1301, 1303, 39, 82, 1304, 1309, 1311, 41, 82, 1312, 1309, 1311, 41, 82, 1312, 1309, 1311, 41, 82, 1312, 1102, 1102, 1301, 1303, 39, 82, 1304, 1317, 1319, 43, 82, 1320] (by decide +kernel) (by decide +kernel)
set_option maxRecDepth 100000 in
theorem vd_X11_product : sd_Vq (yX11_product, cX11_product, 2, (some (.boolean)), tb_X11_product) := sd_mk (by decide +kernel) [1305, 1307, 40, 82, 1308, 1309, 1311, 41, 82, 1312, 1309, 1311, 41, 82, 1312, 1309, 1311, 41, 82, 1312, 1309, 1311, 41, 82, 1312, 1102, 1102, 1305, 1307, 40, 82, 1308, 1317, 1319, 43, 82, 1320] (by decide +kernel) (by decide +kernel)
set_option maxRecDepth 100000 in
theorem vd_X11_opens : sd_Vq (yX11_opens, cX11_opens, 1, (some (.boolean)), tb_X11_opens) := sd_mk (by decide +kernel) [1103, 1103, 1103, 1102, 1102] (by decide +kernel) (by decide +kernel)
set_option maxRecDepth 100000 in
theorem vd_X11_one : sd_Vq (yX11_one, cX11_one, 4, (some (.boolean)), tb_X11_one) := sd_mk (by decide +kernel) [1309, 1311, 41, 82, 1312, 1313, 1315, 42, 82, 1316, 1102, 1102, 1317, 1319, 43, 82, 1320, 1171, 1172, 82, 1173, 1309, 1311, 41, 82, 1312, 1171, 1172, 82, 1173, 1309, 1311, 41, 82, 1312, 1102, 1102, 1317, 1319, 43, 82, 1320, 1321, 1323, 44, 82, 1324, 1305, 1307, 40, 82, 1308, 1103, 1103, 1317, 1319, 43, 82, 1320, 1321, 1323, 44, 82, 1324, 1285, 1287, 35, 82, 1288, 1309, 1311, 41, 82, 1312, 1102, 1102, 1103, 1103] (by decide +kernel) (by decide +kernel)
set_option maxRecDepth 100000 in
theorem vd_X11_hasText : sd_Vq (yX11_hasText, cX11_hasText, 2, (some (.boolean)), tb_X11_hasText) := sd_mk (by decide +kernel) [1097] (by decide +kernel) (by decide +kernel)
set_option maxRecDepth 100000 in
theorem vd_X11_text : sd_Vq (yX11_text, cX11_text, 5, (some (.int)), tb_X11_text) := sd_mk (by decide +kernel) [1171, 1172, 82, 1173, 1174, 1176, 20, 82, 1177, 1105, 1102, 1103, 1104, 1285, 1287, 35, 82, 1288, 1102, 1097, 1097, 1102, 1097, 1104, 1104, 1097, 1106] (by decide +kernel) (by decide +kernel)
set_option maxRecDepth 100000 in
theorem vd_X11_untell : sd_Vq (yX11_untell, cX11_untell, 3, (some (.int)), tb_X11_untell) := sd_mk (by decide +kernel) [1171, 1172, 82, 1173, 1174, 1176, 20, 82, 1177, 1219, 1221, 30, 82, 1222, 1097] (by decide +kernel) (by decide +kernel)
set_option maxRecDepth 100000 in
theorem vd_X11_joined : sd_Vq (yX11_joined, cX11_joined, 3, (some (.int)), tb_X11_joined) := sd_mk (by decide +kernel) [] (by decide +kernel) (by decide +kernel)
set_option maxRecDepth 100000 in
theorem vd_X11_worked : sd_Vq (yX11_worked, cX11_worked, 7, (some (.int)), tb_X11_worked) := sd_mk (by decide +kernel) [1097, 1097, 1097, 1108, 1107, 1108, 1108, 1108, 1108, 1108, 1227, 1228, 82, 1229, 1108] (by decide +kernel) (by decide +kernel)
set_option maxRecDepth 100000 in
theorem vd_X11_sign : sd_Vq (yX11_sign, cX11_sign, 1, (some (.int)), tb_X11_sign) := sd_mk (by decide +kernel) [] (by decide +kernel) (by decide +kernel)
set_option maxRecDepth 100000 in
theorem vd_X11_told1 : sd_Vq (yX11_told1, cX11_told1, 2, (some (.int)), tb_X11_told1) := sd_mk (by decide +kernel) [1219, 1221, 30, 82, 1222, 1203, 1205, 26, 82, 1206, 1211, 1213, 28, 82, 1214, 1107, 1211, 1213, 28, 82, 1214, 1107, 1203, 1205, 26, 82, 1206, 1107, 1097, 1107, 1097, 1107, 1203, 1205, 26, 82, 1206, 1195, 1197, 24, 82, 1198, 1223, 1225, 31, 82, 1226] (by decide +kernel) (by decide +kernel)
set_option maxRecDepth 100000 in
theorem vd_X11_vote : sd_Vq (yX11_vote, cX11_vote, 5, (some (.int)), tb_X11_vote) := sd_mk (by decide +kernel) [1203, 1205, 26, 82, 1206, 1203, 1205, 26, 82, 1206, 1203, 1205, 26, 82, 1206, 1211, 1213, 28, 82, 1214, 1203, 1205, 26, 82, 1206, 1203, 1205, 26, 82, 1206, 1203, 1205, 26, 82, 1206, 1097, 1203, 1205, 26, 82, 1206, 1195, 1197, 24, 82, 1198, 1215, 1217, 29, 82, 1218, 1230, 1231, 82, 1232] (by decide +kernel) (by decide +kernel)
set_option maxRecDepth 100000 in
theorem vd_X11_pain : sd_Vq (yX11_pain, cX11_pain, 2, (some (.int)), tb_X11_pain) := sd_mk (by decide +kernel) [1219, 1221, 30, 82, 1222, 1203, 1205, 26, 82, 1206, 1203, 1205, 26, 82, 1206, 1237, 1258, 1259, 82, 1260, 1107, 1203, 1205, 26, 82, 1206, 1107, 1203, 1205, 26, 82, 1206, 1107, 1203, 1205, 26, 82, 1206, 1223, 1225, 31, 82, 1226, 1237, 1258, 1259, 82, 1260] (by decide +kernel) (by decide +kernel)
set_option maxRecDepth 100000 in
theorem vd_X11_pains : sd_Vq (yX11_pains, cX11_pains, 3, (some (.int)), tb_X11_pains) := sd_mk (by decide +kernel) [1097, 1254, 1256, 34, 82, 1257] (by decide +kernel) (by decide +kernel)
set_option maxRecDepth 100000 in
theorem vd_X11_weirs : sd_Vq (yX11_weirs, cX11_weirs, 3, none, tb_X11_weirs) := sd_mk (by decide +kernel) [1097, 1109, 1110, 1111, 1199, 1201, 25, 82, 1202, 1230, 1231, 82, 1232, 1097, 1097, 1195, 1197, 24, 82, 1198, 1097, 1097, 1109, 1195, 1197, 24, 82, 1198, 1258, 1259, 82, 1260] (by decide +kernel) (by decide +kernel)
set_option maxRecDepth 100000 in
theorem vd_X11_gets : sd_Vq (yX11_gets, cX11_gets, 4, none, tb_X11_gets) := sd_mk (by decide +kernel) [1097, 1097, 1237, 1258, 1259, 82, 1260] (by decide +kernel) (by decide +kernel)
set_option maxRecDepth 100000 in
theorem vd_X11_flows : sd_Vq (yX11_flows, cX11_flows, 4, none, tb_X11_flows) := sd_mk (by decide +kernel) [1097, 1097, 1195, 1197, 24, 82, 1198, 1349, 1351, 49, 82, 1352, 1195, 1197, 24, 82, 1198, 1195, 1197, 24, 82, 1198, 1195, 1197, 24, 82, 1198, 1195, 1197, 24, 82, 1198, 1258, 1259, 82, 1260, 1097, 1097, 1349, 1351, 49, 82, 1352, 1097, 1097, 1353, 1258, 1259, 82, 1260] (by decide +kernel) (by decide +kernel)
set_option maxRecDepth 100000 in
theorem vd_X11_suffers : sd_Vq (yX11_suffers, cX11_suffers, 5, none, tb_X11_suffers) := sd_mk (by decide +kernel) [1097, 1097, 1237, 1258, 1259, 82, 1260] (by decide +kernel) (by decide +kernel)
set_option maxRecDepth 100000 in
theorem vd_X11_hour : sd_Vq (yX11_hour, cX11_hour, 2, none, tb_X11_hour) := sd_mk (by decide +kernel) [1341, 1343, 47, 82, 1344, 1345, 1347, 48, 82, 1348, 1097, 1211, 1213, 28, 82, 1214, 1203, 1205, 26, 82, 1206, 1354, 1356, 50, 82, 1357, 1211, 1213, 28, 82, 1214, 1203, 1205, 26, 82, 1206, 1203, 1205, 26, 82, 1206, 1354, 1356, 50, 82, 1357, 1097] (by decide +kernel) (by decide +kernel)
set_option maxRecDepth 100000 in
theorem vd_X11_go : sd_Vq (yX11_go, cX11_go, 3, none, tb_X11_go) := sd_mk (by decide +kernel) [1337, 1339, 46, 82, 1340] (by decide +kernel) (by decide +kernel)
set_option maxRecDepth 100000 in
theorem vd_X11_hours : sd_Vq (yX11_hours, cX11_hours, 2, (some (.int)), tb_X11_hours) := sd_mk (by decide +kernel) [1171, 1172, 82, 1173, 1174, 1176, 20, 82, 1177, 1097, 1174, 1176, 20, 82, 1177, 1333, 1335, 45, 82, 1336, 1358, 1360, 51, 82, 1361] (by decide +kernel) (by decide +kernel)
set_option maxRecDepth 100000 in
theorem vd_X11_draw : sd_Vq (yX11_draw, cX11_draw, 1, (some (.int)), tb_X11_draw) := sd_mk (by decide +kernel) [1097, 1097, 1370, 1097] (by decide +kernel) (by decide +kernel)
set_option maxRecDepth 100000 in
theorem vd_X11_wet : sd_Vq (yX11_wet, cX11_wet, 3, (some (.int)), tb_X11_wet) := sd_mk (by decide +kernel) [1171, 1172, 82, 1173, 1174, 1176, 20, 82, 1177, 1097, 1174, 1176, 20, 82, 1177, 1097, 1366, 1368, 52, 82, 1369, 1337, 1339, 46, 82, 1340, 1358, 1360, 51, 82, 1361] (by decide +kernel) (by decide +kernel)
set_option maxRecDepth 100000 in
theorem vd_X11_seed : sd_Vq (yX11_seed, cX11_seed, 3, (some (.int)), tb_X11_seed) := sd_mk (by decide +kernel) [1097, 1097] (by decide +kernel) (by decide +kernel)
set_option maxRecDepth 100000 in
theorem vd_X11_isAhead : sd_Vq (yX11_isAhead, cX11_isAhead, 1, (some (.boolean)), tb_X11_isAhead) := sd_mk (by decide +kernel) [1171, 1172, 82, 1173] (by decide +kernel) (by decide +kernel)
set_option maxRecDepth 100000 in
theorem vd_X11_then : sd_Vq (yX11_then, cX11_then, 5, (some (.int)), tb_X11_then) := sd_mk (by decide +kernel) [1379, 1380, 82, 1381, 1183, 1185, 21, 82, 1186, 1171, 1172, 82, 1173, 1174, 1176, 20, 82, 1177, 1097, 1099, 1382, 1383, 82, 1384, 1333, 1335, 45, 82, 1336, 1187, 1189, 22, 82, 1190, 1099, 1097, 1382, 1383, 82, 1384] (by decide +kernel) (by decide +kernel)
set_option maxRecDepth 100000 in
theorem vd_X11_thenOf : sd_Vq (yX11_thenOf, cX11_thenOf, 5, (some (.int)), tb_X11_thenOf) := sd_mk (by decide +kernel) [1097, 1099, 1382, 1383, 82, 1384, 1333, 1335, 45, 82, 1336, 1250, 1252, 33, 82, 1253, 1099, 1097, 1382, 1383, 82, 1384] (by decide +kernel) (by decide +kernel)
set_option maxRecDepth 100000 in
theorem vd_X11_thenDoor : sd_Vq (yX11_thenDoor, cX11_thenDoor, 4, (some (.int)), tb_X11_thenDoor) := sd_mk (by decide +kernel) [1379, 1380, 82, 1381, 1246, 1248, 32, 82, 1249, 1171, 1172, 82, 1173, 1389, 1391, 53, 82, 1392, 1174, 1176, 20, 82, 1177] (by decide +kernel) (by decide +kernel)
set_option maxRecDepth 100000 in
theorem vd_X11_toldHour : sd_Vq (yX11_toldHour, cX11_toldHour, 3, none, tb_X11_toldHour) := sd_mk (by decide +kernel) [1110, 1111, 1337, 1339, 46, 82, 1340, 1110] (by decide +kernel) (by decide +kernel)
set_option maxRecDepth 100000 in
theorem vd_X11_digitsOf : sd_Vq (yX11_digitsOf, cX11_digitsOf, 3, (some (.int)), tb_X11_digitsOf) := sd_mk (by decide +kernel) [] (by decide +kernel) (by decide +kernel)
set_option maxRecDepth 100000 in
theorem vd_X11_painsBy : sd_Vq (yX11_painsBy, cX11_painsBy, 5, (some (.int)), tb_X11_painsBy) := sd_mk (by decide +kernel) [1097, 1099, 1382, 1383, 82, 1384, 1405, 1406, 82, 1407, 1408, 1410, 55, 82, 1411, 1358, 1360, 51, 82, 1361, 1099, 1097, 1382, 1383, 82, 1384] (by decide +kernel) (by decide +kernel)
set_option maxRecDepth 100000 in
theorem vd_X11_isRow : sd_Vq (yX11_isRow, cX11_isRow, 3, (some (.boolean)), tb_X11_isRow) := sd_mk (by decide +kernel) [1400, 1171, 1172, 82, 1173, 1171, 1172, 82, 1173] (by decide +kernel) (by decide +kernel)
set_option maxRecDepth 100000 in
theorem vd_X11_moves : sd_Vq (yX11_moves, cX11_moves, 3, (some (.int)), tb_X11_moves) := sd_mk (by decide +kernel) [1183, 1185, 21, 82, 1186, 1397, 1398, 82, 1399, 1401, 1403, 54, 82, 1404, 1174, 1176, 20, 82, 1177] (by decide +kernel) (by decide +kernel)
set_option maxRecDepth 100000 in
theorem vd_X11_best : sd_Vq (yX11_best, cX11_best, 9, (some (.int)), tb_X11_best) := sd_mk (by decide +kernel) [1183, 1185, 21, 82, 1186, 1171, 1172, 82, 1173, 1171, 1172, 82, 1173, 1174, 1176, 20, 82, 1177, 1397, 1398, 82, 1399, 1401, 1403, 54, 82, 1404] (by decide +kernel) (by decide +kernel)
set_option maxRecDepth 100000 in
theorem vd_X11_worst : sd_Vq (yX11_worst, cX11_worst, 7, (some (.int)), tb_X11_worst) := sd_mk (by decide +kernel) [1097, 1099, 1382, 1383, 82, 1384, 1097, 1408, 1410, 55, 82, 1411, 1333, 1335, 45, 82, 1336, 1358, 1360, 51, 82, 1361, 1099, 1097, 1382, 1383, 82, 1384] (by decide +kernel) (by decide +kernel)
set_option maxRecDepth 100000 in
theorem vd_X11_storm : sd_Vq (yX11_storm, cX11_storm, 6, (some (.int)), tb_X11_storm) := sd_mk (by decide +kernel) [1183, 1185, 21, 82, 1186, 1171, 1172, 82, 1173, 1171, 1172, 82, 1173, 1174, 1176, 20, 82, 1177, 1420, 1422, 56, 82, 1423, 1420, 1422, 56, 82, 1423, 1420, 1422, 56, 82, 1423] (by decide +kernel) (by decide +kernel)
set_option maxRecDepth 100000 in
theorem vd_X11_painBought : sd_Vq (yX11_painBought, cX11_painBought, 7, (some (.int)), tb_X11_painBought) := sd_mk (by decide +kernel) [1097, 1099, 1382, 1383, 82, 1384, 1097, 1097, 1337, 1339, 46, 82, 1340, 1097, 1333, 1335, 45, 82, 1336, 1254, 1256, 34, 82, 1257, 1099, 1097, 1382, 1383, 82, 1384] (by decide +kernel) (by decide +kernel)
set_option maxRecDepth 100000 in
theorem vd_X11_changes : sd_Vq (yX11_changes, cX11_changes, 6, (some (.int)), tb_X11_changes) := sd_mk (by decide +kernel) [1171, 1172, 82, 1173, 1174, 1176, 20, 82, 1177, 1097, 1389, 1391, 53, 82, 1392, 1428, 1430, 57, 82, 1431] (by decide +kernel) (by decide +kernel)
set_option maxRecDepth 100000 in
theorem vd_X11_buys : sd_Vq (yX11_buys, cX11_buys, 8, (some (.int)), tb_X11_buys) := sd_mk (by decide +kernel) [1183, 1185, 21, 82, 1186, 1174, 1176, 20, 82, 1177, 1199, 1201, 25, 82, 1202, 1097, 1203, 1205, 26, 82, 1206, 1203, 1205, 26, 82, 1206, 1207, 1209, 27, 82, 1210, 1174, 1176, 20, 82, 1177] (by decide +kernel) (by decide +kernel)
set_option maxRecDepth 100000 in
theorem vd_X11_mayFloat : sd_Vq (yX11_mayFloat, cX11_mayFloat, 6, (some (.boolean)), tb_X11_mayFloat) := sd_mk (by decide +kernel) [1191, 1193, 23, 82, 1194, 1191, 1193, 23, 82, 1194, 1171, 1172, 82, 1173, 1195, 1197, 24, 82, 1198] (by decide +kernel) (by decide +kernel)
set_option maxRecDepth 100000 in
theorem vd_X11_comes : sd_Vq (yX11_comes, cX11_comes, 8, (some (.int)), tb_X11_comes) := sd_mk (by decide +kernel) [1183, 1185, 21, 82, 1186, 1183, 1185, 21, 82, 1186, 1379, 1380, 82, 1381, 1174, 1176, 20, 82, 1177, 1097, 1099, 1382, 1383, 82, 1384, 1337, 1339, 46, 82, 1340, 1097, 1440, 1442, 58, 82, 1443, 1099, 1097, 1382, 1383, 82, 1384, 1174, 1176, 20, 82, 1177] (by decide +kernel) (by decide +kernel)
set_option maxRecDepth 100000 in
theorem vd_X11_begins : sd_Vq (yX11_begins, cX11_begins, 2, none, tb_X11_begins) := sd_mk (by decide +kernel) [1113, 1112, 1113, 1113, 1113] (by decide +kernel) (by decide +kernel)
set_option maxRecDepth 100000 in
theorem vd_X11_above : sd_Vq (yX11_above, cX11_above, 1, (some (.int)), tb_X11_above) := sd_mk (by decide +kernel) [] (by decide +kernel) (by decide +kernel)
set_option maxRecDepth 100000 in
theorem vd_X11_kindNow : sd_Vq (yX11_kindNow, cX11_kindNow, 1, (some (.int)), tb_X11_kindNow) := sd_mk (by decide +kernel) [1114, 1203, 1205, 26, 82, 1206] (by decide +kernel) (by decide +kernel)
set_option maxRecDepth 100000 in
theorem vd_X11_mNow : sd_Vq (yX11_mNow, cX11_mNow, 1, (some (.int)), tb_X11_mNow) := sd_mk (by decide +kernel) [1114, 1203, 1205, 26, 82, 1206] (by decide +kernel) (by decide +kernel)
set_option maxRecDepth 100000 in
theorem vd_X11_votesBy : sd_Vq (yX11_votesBy, cX11_votesBy, 3, (some (.int)), tb_X11_votesBy) := sd_mk (by decide +kernel) [1456, 1458, 61, 82, 1459, 1114, 1456, 1458, 61, 82, 1459, 1460, 1461, 82, 1462, 1452, 1454, 60, 82, 1455, 1456, 1458, 61, 82, 1459, 1460, 1461, 82, 1462, 1452, 1454, 60, 82, 1455, 1456, 1458, 61, 82, 1459, 1460, 1461, 82, 1462, 1452, 1454, 60, 82, 1455] (by decide +kernel) (by decide +kernel)
set_option maxRecDepth 100000 in
theorem vd_X11_fearsBy : sd_Vq (yX11_fearsBy, cX11_fearsBy, 3, (some (.int)), tb_X11_fearsBy) := sd_mk (by decide +kernel) [1456, 1458, 61, 82, 1459, 1448, 1450, 59, 82, 1451, 1452, 1454, 60, 82, 1455, 1456, 1458, 61, 82, 1459, 1460, 1461, 82, 1462, 1463, 1465, 62, 82, 1466, 1456, 1458, 61, 82, 1459, 1460, 1461, 82, 1462, 1463, 1465, 62, 82, 1466, 1456, 1458, 61, 82, 1459, 1460, 1461, 82, 1462, 1463, 1465, 62, 82, 1466, 1467, 1469, 63, 82, 1470, 1460, 1461, 82, 1462, 1463, 1465, 62, 82, 1466] (by decide +kernel) (by decide +kernel)
set_option maxRecDepth 100000 in
theorem vd_X11_floodsBy : sd_Vq (yX11_floodsBy, cX11_floodsBy, 3, (some (.int)), tb_X11_floodsBy) := sd_mk (by decide +kernel) [1456, 1458, 61, 82, 1459, 1448, 1450, 59, 82, 1451, 1463, 1465, 62, 82, 1466, 1467, 1469, 63, 82, 1470, 1456, 1458, 61, 82, 1459, 1460, 1461, 82, 1462, 1471, 1473, 64, 82, 1474, 1114, 1456, 1458, 61, 82, 1459, 1460, 1461, 82, 1462, 1471, 1473, 64, 82, 1474, 1460, 1461, 82, 1462, 1471, 1473, 64, 82, 1474] (by decide +kernel) (by decide +kernel)
set_option maxRecDepth 100000 in
theorem vd_X11_paysBy : sd_Vq (yX11_paysBy, cX11_paysBy, 5, (some (.int)), tb_X11_paysBy) := sd_mk (by decide +kernel) [1456, 1458, 61, 82, 1459, 1467, 1469, 63, 82, 1470, 1114, 1115, 1456, 1458, 61, 82, 1459, 1460, 1461, 82, 1462, 1475, 1477, 65, 82, 1478, 1115, 1448, 1450, 59, 82, 1451, 1463, 1465, 62, 82, 1466, 1460, 1461, 82, 1462, 1475, 1477, 65, 82, 1478] (by decide +kernel) (by decide +kernel)
set_option maxRecDepth 100000 in
theorem vd_X11_voice : sd_Vq (yX11_voice, cX11_voice, 6, (some (.int)), tb_X11_voice) := sd_mk (by decide +kernel) [1246, 1248, 32, 82, 1249, 1171, 1172, 82, 1173, 1174, 1176, 20, 82, 1177, 1113, 1114, 1115, 1448, 1450, 59, 82, 1451, 1452, 1454, 60, 82, 1455, 1463, 1465, 62, 82, 1466, 1471, 1473, 64, 82, 1474, 1475, 1477, 65, 82, 1478, 1115, 1174, 1176, 20, 82, 1177] (by decide +kernel) (by decide +kernel)
set_option maxRecDepth 100000 in
theorem vd_X11_body : sd_Vq (yX11_body, cX11_body, 2, (some (.int)), tb_X11_body) := sd_mk (by decide +kernel) [1113, 1171, 1172, 82, 1173, 1112, 1174, 1176, 20, 82, 1177] (by decide +kernel) (by decide +kernel)
set_option maxRecDepth 100000 in
theorem vd_X11_isSheet : sd_Vq (yX11_isSheet, cX11_isSheet, 1, (some (.boolean)), tb_X11_isSheet) := sd_mk (by decide +kernel) [1171, 1172, 82, 1173] (by decide +kernel) (by decide +kernel)
set_option maxRecDepth 100000 in
theorem vd_X11_sheet : sd_Vq (yX11_sheet, cX11_sheet, 5, (some (.int)), tb_X11_sheet) := sd_mk (by decide +kernel) [1487, 1488, 82, 1489, 1174, 1176, 20, 82, 1177, 1174, 1176, 20, 82, 1177, 1174, 1176, 20, 82, 1177, 1116, 1117, 1118] (by decide +kernel) (by decide +kernel)
set_option maxRecDepth 100000 in
theorem vd_X11_put : sd_Vq (yX11_put, cX11_put, 5, (some (.int)), tb_X11_put) := sd_mk (by decide +kernel) [1487, 1488, 82, 1489, 1174, 1176, 20, 82, 1177, 1116, 1174, 1176, 20, 82, 1177, 1117, 1171, 1172, 82, 1173, 1174, 1176, 20, 82, 1177, 1116, 1118] (by decide +kernel) (by decide +kernel)
set_option maxRecDepth 100000 in
theorem vd_X11_move : sd_Vq (yX11_move, cX11_move, 7, (some (.int)), tb_X11_move) := sd_mk (by decide +kernel) [1487, 1488, 82, 1489, 1487, 1488, 82, 1489, 1174, 1176, 20, 82, 1177, 1116, 1116, 1174, 1176, 20, 82, 1177, 1116, 1116, 1174, 1176, 20, 82, 1177, 1117, 1117, 1174, 1176, 20, 82, 1177, 1119, 1118, 1118, 1119] (by decide +kernel) (by decide +kernel)
set_option maxRecDepth 100000 in
theorem vd_X11_lacks : sd_Vq (yX11_lacks, cX11_lacks, 2, (some (.int)), tb_X11_lacks) := sd_mk (by decide +kernel) [1487, 1488, 82, 1489, 1116] (by decide +kernel) (by decide +kernel)
set_option maxRecDepth 100000 in
theorem vd_X11_votes : sd_Vq (yX11_votes, cX11_votes, 4, (some (.int)), tb_X11_votes) := sd_mk (by decide +kernel) [1502, 1504, 66, 82, 1505, 1174, 1176, 20, 82, 1177, 1117, 1246, 1248, 32, 82, 1249, 1118, 1171, 1172, 82, 1173, 1097, 1118] (by decide +kernel) (by decide +kernel)
set_option maxRecDepth 100000 in
theorem vd_X11_offBy : sd_Vq (yX11_offBy, cX11_offBy, 7, (some (.int)), tb_X11_offBy) := sd_mk (by decide +kernel) [1097, 1099, 1382, 1383, 82, 1384, 1117, 1337, 1339, 46, 82, 1340, 1191, 1193, 23, 82, 1194, 1118, 1514, 1099, 1097, 1382, 1383, 82, 1384] (by decide +kernel) (by decide +kernel)
set_option maxRecDepth 100000 in
theorem vd_X11_off : sd_Vq (yX11_off, cX11_off, 4, (some (.int)), tb_X11_off) := sd_mk (by decide +kernel) [1183, 1185, 21, 82, 1186, 1502, 1504, 66, 82, 1505, 1174, 1176, 20, 82, 1177, 1510, 1512, 67, 82, 1513] (by decide +kernel) (by decide +kernel)
set_option maxRecDepth 100000 in
theorem vd_X11_rained : sd_Vq (yX11_rained, cX11_rained, 9, (some (.int)), tb_X11_rained) := sd_mk (by decide +kernel) [1183, 1185, 21, 82, 1186, 1502, 1504, 66, 82, 1505, 1174, 1176, 20, 82, 1177, 1097, 1097, 1510, 1512, 67, 82, 1513, 1097] (by decide +kernel) (by decide +kernel)
set_option maxRecDepth 100000 in
theorem vd_X11_image : sd_Vq (yX11_image, cX11_image, 1, (some (.int)), tb_X11_image) := sd_mk (by decide +kernel) [1097, 1098, 1382, 1383, 82, 1384, 1100, 1100, 1100] (by decide +kernel) (by decide +kernel)
set_option maxRecDepth 100000 in
theorem vd_X11_restore : sd_Vq (yX11_restore, cX11_restore, 1, (some (.int)), tb_X11_restore) := sd_mk (by decide +kernel) [1100, 1174, 1176, 20, 82, 1177, 1098, 1097, 1382, 1383, 82, 1384, 1097] (by decide +kernel) (by decide +kernel)
set_option maxRecDepth 100000 in
theorem vd_X11_tell : sd_Vq (yX11_tell, cX11_tell, 2, (some (.int)), tb_X11_tell) := sd_mk (by decide +kernel) [1097, 1174, 1176, 20, 82, 1177, 1097, 1097, 1097, 1097] (by decide +kernel) (by decide +kernel)
set_option maxRecDepth 100000 in
theorem vd_X11_check : sd_Vq (yX11_check, cX11_check, 3, (some (.int)), tb_X11_check) := sd_mk (by decide +kernel) [1097, 1097, 1246, 1248, 32, 82, 1249, 1097, 1207, 1209, 27, 82, 1210, 1097] (by decide +kernel) (by decide +kernel)
set_option maxRecDepth 100000 in
theorem vd_X11_count : sd_Vq (yX11_count, cX11_count, 4, (some (.int)), tb_X11_count) := sd_mk (by decide +kernel) [1097, 1097, 1097, 1097, 1097, 1195, 1197, 24, 82, 1198, 1097, 1097, 1097, 1113, 1097, 1174, 1176, 20, 82, 1177] (by decide +kernel) (by decide +kernel)
set_option maxRecDepth 100000 in
theorem vd_X11_told : sd_Vq (yX11_told, cX11_told, 2, (some (.int)), tb_X11_told) := sd_mk (by decide +kernel) [1171, 1172, 82, 1173, 1101, 1174, 1176, 20, 82, 1177] (by decide +kernel) (by decide +kernel)
