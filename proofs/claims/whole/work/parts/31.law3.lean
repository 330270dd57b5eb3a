/-! the law's calls: words -/
set_option maxRecDepth 20000 in
theorem ggL_law_X12_apart : GoodIn wsL_law wsX12_apart := goodIn_r _ [818, 442, 443, 444, 5, 445, 305, 146, 147, 148, 819, 820, 821, 822, 512, 517, 518, 519, 520, 301, 303, 529, 530, 531, 532, 123, 125, 533, 534, 535, 536, 537, 538, 121, 539, 540, 541, 542, 117, 403, 404, 405, 406, 132, 133, 407, 408, 409, 410, 411, 412, 413, 414, 415, 416, 417, 418, 122, 419, 420, 421, 422, 423, 424, 425, 543, 544, 545, 546, 1012, 1013, 1014, 1015, 1016, 1017, 1018, 1019, 1020, 1021, 1022, 1023, 1024, 1025, 1026, 1027, 1028, 1029, 1030, 1031, 1032, 1033, 1034, 1035, 1036, 1037, 1038, 1039, 1040, 1041, 1042, 1043, 1044, 1045, 1046, 1047] (by decide +kernel) (by decide +kernel)
set_option maxRecDepth 20000 in
theorem gL_law_X12_apart : GoodIn wsL_law (wsV RL 93 RX12 yX12_apart wsX12_apart) := goodIn_app (goodIn_of _ (by decide +kernel)) ggL_law_X12_apart
set_option maxRecDepth 20000 in
theorem ggL_law_X11_rolls : GoodIn wsL_law wsX11_rolls := goodIn_r _ [826, 41, 17, 437, 782, 184, 185, 186, 807, 808, 809, 2, 810, 456, 811, 812, 813, 814, 33, 26, 457, 458, 459, 32, 460, 461, 462, 463, 464, 465, 466, 467, 468, 469, 470, 471, 92, 472, 473, 474, 475, 476, 477, 478, 479, 480, 481, 482, 483, 484, 255, 256, 16, 257, 68, 500, 501, 502, 503, 450, 451, 504, 505, 506, 507, 178, 827, 828, 829, 830, 831, 832, 833, 834, 835, 836, 837, 838, 995, 996, 997, 998, 999, 1000, 1001, 1002, 1003, 1004, 1005, 1006, 1007, 1008, 1009, 1010, 1011, 1048, 1049, 1050, 1051, 1052, 1053, 1054, 1055, 1056, 1057, 1058, 1059, 1079, 1080, 1081, 1082, 1083, 1067, 1068, 1069, 1070, 1071, 1072, 1073, 1074, 1075, 1076, 1077, 1078] (by decide +kernel) (by decide +kernel)
set_option maxRecDepth 20000 in
theorem gL_law_X11_rolls : GoodIn wsL_law (wsV RL 94 RX11 yX11_rolls wsX11_rolls) := goodIn_app (goodIn_of _ (by decide +kernel)) ggL_law_X11_rolls
set_option maxRecDepth 20000 in
theorem ggL_law_X12_rolls : GoodIn wsL_law wsX12_rolls := goodIn_r _ [842, 305, 134, 819, 820, 821, 5, 822, 512, 517, 518, 519, 520, 301, 303, 529, 530, 531, 532, 123, 125, 533, 534, 535, 536, 537, 538, 121, 539, 540, 541, 542, 117, 403, 404, 405, 406, 132, 133, 407, 408, 409, 410, 411, 412, 413, 414, 415, 416, 417, 418, 122, 419, 420, 421, 422, 423, 424, 425, 543, 544, 545, 546, 843, 844, 845, 846, 847, 848, 849, 850, 1012, 1013, 1014, 1015, 1016, 1017, 1018, 1019, 1020, 1021, 1022, 1023, 1024, 1025, 1026, 1027, 1028, 1029, 1030, 1031, 1032, 1033, 1034, 1035, 1036, 1037, 1038, 1039, 1040, 1041, 1042, 1043, 1044, 1045, 1046, 1047] (by decide +kernel) (by decide +kernel)
set_option maxRecDepth 20000 in
theorem gL_law_X12_rolls : GoodIn wsL_law (wsV RL 97 RX12 yX12_rolls wsX12_rolls) := goodIn_app (goodIn_of _ (by decide +kernel)) ggL_law_X12_rolls
set_option maxRecDepth 20000 in
theorem ggL_law_X11_saw : GoodIn wsL_law wsX11_saw := goodIn_r _ [854, 17, 161, 42, 43, 44, 693, 694, 695, 16, 696, 231, 232, 233, 234, 178, 179, 433, 434, 435, 2, 436, 437, 995, 996, 997, 998, 999, 1000, 1001, 1002, 1003, 1004, 1005, 1006, 1007, 1008, 1009, 1010, 1011, 1048, 1049, 1050, 1051, 1052, 1053, 1054, 1055, 1056, 1057, 1058, 1059] (by decide +kernel) (by decide +kernel)
set_option maxRecDepth 20000 in
theorem gL_law_X11_saw : GoodIn wsL_law (wsV RL 98 RX11 yX11_saw wsX11_saw) := goodIn_app (goodIn_of _ (by decide +kernel)) ggL_law_X11_saw
set_option maxRecDepth 20000 in
theorem ggL_law_X12_saw : GoodIn wsL_law wsX12_saw := goodIn_r _ [858, 309, 126, 442, 443, 444, 5, 445, 305, 146, 147, 148, 736, 737, 738, 739, 386, 387, 388, 389, 301, 303, 740, 741, 742, 743, 390, 391, 392, 393, 1012, 1013, 1014, 1015, 1016, 1017, 1018, 1019, 1020, 1021, 1022, 1023, 1024, 1025, 1026, 1027, 1028, 1029, 1030, 1031, 1032, 1033, 1034, 1035, 1036, 1037, 1038, 1039, 1040, 1041, 1042, 1043, 1044, 1045, 1046, 1047] (by decide +kernel) (by decide +kernel)
set_option maxRecDepth 20000 in
theorem gL_law_X12_saw : GoodIn wsL_law (wsV RL 101 RX12 yX12_saw wsX12_saw) := goodIn_app (goodIn_of _ (by decide +kernel)) ggL_law_X12_saw
set_option maxRecDepth 20000 in
theorem ggL_law_X11_forget : GoodIn wsL_law wsX11_forget := goodIn_r _ [862, 161, 995, 996, 997, 998, 999, 1000, 1001, 1002, 1003, 1004, 1005, 1006, 1007, 1008, 1009, 1010, 1011] (by decide +kernel) (by decide +kernel)
set_option maxRecDepth 20000 in
theorem gL_law_X11_forget : GoodIn wsL_law (wsV RL 102 RX11 yX11_forget wsX11_forget) := goodIn_app (goodIn_of _ (by decide +kernel)) ggL_law_X11_forget
set_option maxRecDepth 20000 in
theorem ggL_law_X12_forget : GoodIn wsL_law wsX12_forget := goodIn_r _ [866, 309, 1012, 1013, 1014, 1015, 1016, 1017, 1018, 1019, 1020, 1021, 1022, 1023, 1024, 1025, 1026, 1027, 1028, 1029, 1030, 1031, 1032, 1033, 1034, 1035, 1036, 1037, 1038, 1039, 1040, 1041, 1042, 1043, 1044, 1045, 1046, 1047] (by decide +kernel) (by decide +kernel)
set_option maxRecDepth 20000 in
theorem gL_law_X12_forget : GoodIn wsL_law (wsV RL 105 RX12 yX12_forget wsX12_forget) := goodIn_app (goodIn_of _ (by decide +kernel)) ggL_law_X12_forget
set_option maxRecDepth 20000 in
theorem ggL_law_X11_moved : GoodIn wsL_law wsX11_moved := goodIn_r _ [870, 17, 456, 871, 872, 873, 2, 874, 26, 369, 598, 599, 600, 639, 640, 641, 642, 161, 42, 43, 44, 643, 644, 645, 646, 33, 450, 457, 458, 459, 32, 460, 461, 462, 463, 464, 465, 466, 467, 468, 469, 470, 471, 92, 472, 473, 474, 475, 476, 477, 478, 479, 480, 481, 482, 483, 484, 255, 256, 16, 257, 68, 504, 505, 506, 507, 178, 995, 996, 997, 998, 999, 1000, 1001, 1002, 1003, 1004, 1005, 1006, 1007, 1008, 1009, 1010, 1011, 1048, 1049, 1050, 1051, 1052, 1053, 1054, 1055, 1056, 1057, 1058, 1059, 1067, 1068, 1069, 1070, 1071, 1072, 1073, 1074, 1075, 1076, 1077, 1078, 1079, 1080, 1081, 1082, 1083] (by decide +kernel) (by decide +kernel)
set_option maxRecDepth 20000 in
theorem gL_law_X11_moved : GoodIn wsL_law (wsV RL 106 RX11 yX11_moved wsX11_moved) := goodIn_app (goodIn_of _ (by decide +kernel)) ggL_law_X11_moved
set_option maxRecDepth 20000 in
theorem ggL_law_X12_moved : GoodIn wsL_law wsX12_moved := goodIn_r _ [878, 117, 609, 146, 147, 5, 148, 517, 518, 519, 520, 301, 303, 651, 652, 653, 654, 309, 126, 655, 656, 657, 658, 512, 529, 530, 531, 532, 123, 125, 533, 534, 535, 536, 537, 538, 121, 539, 540, 541, 542, 403, 404, 405, 406, 132, 133, 407, 408, 409, 410, 411, 412, 413, 414, 415, 416, 417, 418, 122, 419, 420, 421, 422, 423, 424, 425, 543, 544, 545, 546, 551, 552, 553, 554, 1012, 1013, 1014, 1015, 1016, 1017, 1018, 1019, 1020, 1021, 1022, 1023, 1024, 1025, 1026, 1027, 1028, 1029, 1030, 1031, 1032, 1033, 1034, 1035, 1036, 1037, 1038, 1039, 1040, 1041, 1042, 1043, 1044, 1045, 1046, 1047] (by decide +kernel) (by decide +kernel)
set_option maxRecDepth 20000 in
theorem gL_law_X12_moved : GoodIn wsL_law (wsV RL 109 RX12 yX12_moved wsX12_moved) := goodIn_app (goodIn_of _ (by decide +kernel)) ggL_law_X12_moved
set_option maxRecDepth 20000 in
theorem ggL_law_X11_mark : GoodIn wsL_law wsX11_mark := goodIn_r _ [882, 17, 39, 883, 375, 232, 233, 16, 234, 178, 179, 884, 885, 886, 887, 888, 58, 889, 890, 891, 892, 893, 894, 895, 52, 896, 897, 898, 899, 900, 901, 46, 902, 903, 904, 905, 906, 907, 55, 908, 909, 910, 911, 912, 913, 49, 914, 915, 916, 917, 377, 2, 378, 379, 380, 26, 381, 918, 765, 766, 767, 768, 769, 770, 919, 920, 61, 921, 922, 923, 924, 925, 926, 927, 995, 996, 997, 998, 999, 1000, 1001, 1002, 1003, 1004, 1005, 1006, 1007, 1008, 1009, 1010, 1011, 1048, 1049, 1050, 1051, 1052, 1053, 1054, 1055, 1056, 1057, 1058, 1059, 1067, 1068, 1069, 1070, 1071, 1072, 1073, 1074, 1075, 1076, 1077, 1078] (by decide +kernel) (by decide +kernel)
set_option maxRecDepth 20000 in
theorem gL_law_X11_mark : GoodIn wsL_law (wsV RL 110 RX11 yX11_mark wsX11_mark) := goodIn_app (goodIn_of _ (by decide +kernel)) ggL_law_X11_mark
set_option maxRecDepth 20000 in
theorem ggL_law_X12_mark : GoodIn wsL_law wsX12_mark := goodIn_r _ [931, 932, 933, 146, 147, 5, 148, 386, 387, 388, 389, 301, 303, 390, 391, 392, 393, 934, 935, 936, 937, 938, 117, 939, 940, 941, 942, 943, 121, 944, 945, 946, 947, 399, 400, 401, 402, 403, 404, 405, 406, 132, 133, 407, 408, 409, 410, 411, 412, 413, 414, 415, 416, 417, 418, 122, 419, 420, 421, 422, 423, 424, 425, 775, 776, 777, 394, 395, 396, 397, 398, 1012, 1013, 1014, 1015, 1016, 1017, 1018, 1019, 1020, 1021, 1022, 1023, 1024, 1025, 1026, 1027, 1028, 1029, 1030, 1031, 1032, 1033, 1034, 1035, 1036, 1037, 1038, 1039, 1040, 1041, 1042, 1043, 1044, 1045, 1046, 1047] (by decide +kernel) (by decide +kernel)
set_option maxRecDepth 20000 in
theorem gL_law_X12_mark : GoodIn wsL_law (wsV RL 113 RX12 yX12_mark wsX12_mark) := goodIn_app (goodIn_of _ (by decide +kernel)) ggL_law_X12_mark
set_option maxRecDepth 20000 in
theorem ggL_law_X11_keep : GoodIn wsL_law wsX11_keep := goodIn_r _ [951, 27, 26, 29, 371, 952, 953, 2, 954, 955, 956, 957, 25, 958, 284, 285, 79, 80, 81, 82, 83, 84, 85, 86, 87, 88, 287, 288, 289, 290, 167, 168, 169, 291, 292, 293, 294, 452, 453, 454, 455, 17, 456, 995, 996, 997, 998, 999, 1000, 1001, 1002, 1003, 1004, 1005, 1006, 1007, 1008, 1009, 1010, 1011, 1067, 1068, 1069, 1070, 1071, 1072, 1073, 1074, 1075, 1076, 1077, 1078, 1048, 1049, 1050, 1051, 1052, 1053, 1054, 1055, 1056, 1057, 1058, 1059] (by decide +kernel) (by decide +kernel)
set_option maxRecDepth 20000 in
theorem gL_law_X11_keep : GoodIn wsL_law (wsV RL 114 RX11 yX11_keep wsX11_keep) := goodIn_app (goodIn_of _ (by decide +kernel)) ggL_law_X11_keep
set_option maxRecDepth 20000 in
theorem ggL_law_X12_keep : GoodIn wsL_law wsX12_keep := goodIn_r _ [962, 118, 146, 147, 5, 148, 963, 964, 965, 966, 117, 513, 514, 515, 516, 517, 518, 519, 520, 301, 303, 394, 395, 396, 397, 398, 1012, 1013, 1014, 1015, 1016, 1017, 1018, 1019, 1020, 1021, 1022, 1023, 1024, 1025, 1026, 1027, 1028, 1029, 1030, 1031, 1032, 1033, 1034, 1035, 1036, 1037, 1038, 1039, 1040, 1041, 1042, 1043, 1044, 1045, 1046, 1047] (by decide +kernel) (by decide +kernel)
set_option maxRecDepth 20000 in
theorem gL_law_X12_keep : GoodIn wsL_law (wsV RL 117 RX12 yX12_keep wsX12_keep) := goodIn_app (goodIn_of _ (by decide +kernel)) ggL_law_X12_keep
set_option maxRecDepth 20000 in
theorem ggL_law_X11_back : GoodIn wsL_law wsX11_back := goodIn_r _ [970, 29, 26, 27, 371, 952, 953, 2, 954, 955, 956, 957, 25, 958, 284, 285, 79, 80, 81, 82, 83, 84, 85, 86, 87, 88, 287, 288, 289, 290, 167, 168, 169, 291, 292, 293, 294, 452, 453, 454, 455, 17, 456, 995, 996, 997, 998, 999, 1000, 1001, 1002, 1003, 1004, 1005, 1006, 1007, 1008, 1009, 1010, 1011, 1067, 1068, 1069, 1070, 1071, 1072, 1073, 1074, 1075, 1076, 1077, 1078, 1048, 1049, 1050, 1051, 1052, 1053, 1054, 1055, 1056, 1057, 1058, 1059] (by decide +kernel) (by decide +kernel)
set_option maxRecDepth 20000 in
theorem gL_law_X11_back : GoodIn wsL_law (wsV RL 118 RX11 yX11_back wsX11_back) := goodIn_app (goodIn_of _ (by decide +kernel)) ggL_law_X11_back
set_option maxRecDepth 20000 in
theorem ggL_law_X12_back : GoodIn wsL_law wsX12_back := goodIn_r _ [974, 118, 146, 147, 5, 148, 963, 964, 965, 966, 117, 513, 514, 515, 516, 517, 518, 519, 520, 301, 303, 394, 395, 396, 397, 398, 1012, 1013, 1014, 1015, 1016, 1017, 1018, 1019, 1020, 1021, 1022, 1023, 1024, 1025, 1026, 1027, 1028, 1029, 1030, 1031, 1032, 1033, 1034, 1035, 1036, 1037, 1038, 1039, 1040, 1041, 1042, 1043, 1044, 1045, 1046, 1047] (by decide +kernel) (by decide +kernel)
set_option maxRecDepth 20000 in
theorem gL_law_X12_back : GoodIn wsL_law (wsV RL 121 RX12 yX12_back wsX12_back) := goodIn_app (goodIn_of _ (by decide +kernel)) ggL_law_X12_back
set_option maxRecDepth 20000 in
theorem ggL_law_X11_count : GoodIn wsL_law wsX11_count := goodIn_r _ [978, 17, 979, 980, 981, 437, 161, 26, 626, 139, 995, 996, 997, 998, 999, 1000, 1001, 1002, 1003, 1004, 1005, 1006, 1007, 1008, 1009, 1010, 1011, 1048, 1049, 1050, 1051, 1052, 1053, 1054, 1055, 1056, 1057, 1058, 1059, 1067, 1068, 1069, 1070, 1071, 1072, 1073, 1074, 1075, 1076, 1077, 1078] (by decide +kernel) (by decide +kernel)
set_option maxRecDepth 20000 in
theorem gL_law_X11_count : GoodIn wsL_law (wsV RL 122 RX11 yX11_count wsX11_count) := goodIn_app (goodIn_of _ (by decide +kernel)) ggL_law_X11_count
set_option maxRecDepth 20000 in
theorem ggL_law_X12_count : GoodIn wsL_law wsX12_count := goodIn_r _ [985, 301, 303, 307, 305, 309, 117, 145, 1012, 1013, 1014, 1015, 1016, 1017, 1018, 1019, 1020, 1021, 1022, 1023, 1024, 1025, 1026, 1027, 1028, 1029, 1030, 1031, 1032, 1033, 1034, 1035, 1036, 1037, 1038, 1039, 1040, 1041, 1042, 1043, 1044, 1045, 1046, 1047] (by decide +kernel) (by decide +kernel)
set_option maxRecDepth 20000 in
theorem gL_law_X12_count : GoodIn wsL_law (wsV RL 125 RX12 yX12_count wsX12_count) := goodIn_app (goodIn_of _ (by decide +kernel)) ggL_law_X12_count
set_option maxRecDepth 20000 in
theorem ggL_law_X11_trace : GoodIn wsL_law wsX11_trace := goodIn_r _ [989, 990, 995, 996, 997, 998, 999, 1000, 1001, 1002, 1003, 1004, 1005, 1006, 1007, 1008, 1009, 1010, 1011] (by decide +kernel) (by decide +kernel)
set_option maxRecDepth 20000 in
theorem gL_law_X11_trace : GoodIn wsL_law (wsV RL 126 RX11 yX11_trace wsX11_trace) := goodIn_app (goodIn_of _ (by decide +kernel)) ggL_law_X11_trace
set_option maxRecDepth 20000 in
theorem ggL_law_X12_trace : GoodIn wsL_law wsX12_trace := goodIn_r _ [994, 938, 1012, 1013, 1014, 1015, 1016, 1017, 1018, 1019, 1020, 1021, 1022, 1023, 1024, 1025, 1026, 1027, 1028, 1029, 1030, 1031, 1032, 1033, 1034, 1035, 1036, 1037, 1038, 1039, 1040, 1041, 1042, 1043, 1044, 1045, 1046, 1047] (by decide +kernel) (by decide +kernel)
set_option maxRecDepth 20000 in
theorem gL_law_X12_trace : GoodIn wsL_law (wsV RL 130 RX12 yX12_trace wsX12_trace) := goodIn_app (goodIn_of _ (by decide +kernel)) ggL_law_X12_trace
