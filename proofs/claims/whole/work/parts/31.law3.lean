/-! the law's calls: words -/
set_option maxRecDepth 20000 in
theorem ggL_law_X12_apart : GoodIn wsL_law wsX12_apart := goodIn_r _ [814, 438, 439, 440, 5, 441, 301, 146, 147, 148, 815, 816, 817, 818, 508, 513, 514, 515, 516, 297, 299, 525, 526, 527, 528, 123, 125, 529, 530, 531, 532, 533, 534, 121, 535, 536, 537, 538, 117, 399, 400, 401, 402, 132, 133, 403, 404, 405, 406, 407, 408, 409, 410, 411, 412, 413, 414, 122, 415, 416, 417, 418, 419, 420, 421, 539, 540, 541, 542, 1008, 1009, 1010, 1011, 1012, 1013, 1014, 1015, 1016, 1017, 1018, 1019, 1020, 1021, 1022, 1023, 1024, 1025, 1026, 1027, 1028, 1029, 1030, 1031, 1032, 1033, 1034, 1035, 1036, 1037, 1038, 1039, 1040, 1041, 1042, 1043] (by decide +kernel) (by decide +kernel)
set_option maxRecDepth 20000 in
theorem gL_law_X12_apart : GoodIn wsL_law (wsV RL 93 RX12 yX12_apart wsX12_apart) := goodIn_app (goodIn_of _ (by decide +kernel)) ggL_law_X12_apart
set_option maxRecDepth 20000 in
theorem ggL_law_X11_rolls : GoodIn wsL_law wsX11_rolls := goodIn_r _ [822, 41, 17, 433, 778, 184, 185, 186, 803, 804, 805, 2, 806, 452, 807, 808, 809, 810, 33, 26, 453, 454, 455, 32, 456, 457, 458, 459, 460, 461, 462, 463, 464, 465, 466, 467, 92, 468, 469, 470, 471, 472, 473, 474, 475, 476, 477, 478, 479, 480, 251, 252, 16, 253, 68, 496, 497, 498, 499, 446, 447, 500, 501, 502, 503, 178, 823, 824, 825, 826, 827, 828, 829, 830, 831, 832, 833, 834, 991, 992, 993, 994, 995, 996, 997, 998, 999, 1000, 1001, 1002, 1003, 1004, 1005, 1006, 1007, 1044, 1045, 1046, 1047, 1048, 1049, 1050, 1051, 1052, 1053, 1054, 1055, 1075, 1076, 1077, 1078, 1079, 1063, 1064, 1065, 1066, 1067, 1068, 1069, 1070, 1071, 1072, 1073, 1074] (by decide +kernel) (by decide +kernel)
set_option maxRecDepth 20000 in
theorem gL_law_X11_rolls : GoodIn wsL_law (wsV RL 94 RX11 yX11_rolls wsX11_rolls) := goodIn_app (goodIn_of _ (by decide +kernel)) ggL_law_X11_rolls
set_option maxRecDepth 20000 in
theorem ggL_law_X12_rolls : GoodIn wsL_law wsX12_rolls := goodIn_r _ [838, 301, 134, 815, 816, 817, 5, 818, 508, 513, 514, 515, 516, 297, 299, 525, 526, 527, 528, 123, 125, 529, 530, 531, 532, 533, 534, 121, 535, 536, 537, 538, 117, 399, 400, 401, 402, 132, 133, 403, 404, 405, 406, 407, 408, 409, 410, 411, 412, 413, 414, 122, 415, 416, 417, 418, 419, 420, 421, 539, 540, 541, 542, 839, 840, 841, 842, 843, 844, 845, 846, 1008, 1009, 1010, 1011, 1012, 1013, 1014, 1015, 1016, 1017, 1018, 1019, 1020, 1021, 1022, 1023, 1024, 1025, 1026, 1027, 1028, 1029, 1030, 1031, 1032, 1033, 1034, 1035, 1036, 1037, 1038, 1039, 1040, 1041, 1042, 1043] (by decide +kernel) (by decide +kernel)
set_option maxRecDepth 20000 in
theorem gL_law_X12_rolls : GoodIn wsL_law (wsV RL 97 RX12 yX12_rolls wsX12_rolls) := goodIn_app (goodIn_of _ (by decide +kernel)) ggL_law_X12_rolls
set_option maxRecDepth 20000 in
theorem ggL_law_X11_saw : GoodIn wsL_law wsX11_saw := goodIn_r _ [850, 17, 161, 42, 43, 44, 689, 690, 691, 16, 692, 227, 228, 229, 230, 178, 179, 429, 430, 431, 2, 432, 433, 991, 992, 993, 994, 995, 996, 997, 998, 999, 1000, 1001, 1002, 1003, 1004, 1005, 1006, 1007, 1044, 1045, 1046, 1047, 1048, 1049, 1050, 1051, 1052, 1053, 1054, 1055] (by decide +kernel) (by decide +kernel)
set_option maxRecDepth 20000 in
theorem gL_law_X11_saw : GoodIn wsL_law (wsV RL 98 RX11 yX11_saw wsX11_saw) := goodIn_app (goodIn_of _ (by decide +kernel)) ggL_law_X11_saw
set_option maxRecDepth 20000 in
theorem ggL_law_X12_saw : GoodIn wsL_law wsX12_saw := goodIn_r _ [854, 305, 126, 438, 439, 440, 5, 441, 301, 146, 147, 148, 732, 733, 734, 735, 382, 383, 384, 385, 297, 299, 736, 737, 738, 739, 386, 387, 388, 389, 1008, 1009, 1010, 1011, 1012, 1013, 1014, 1015, 1016, 1017, 1018, 1019, 1020, 1021, 1022, 1023, 1024, 1025, 1026, 1027, 1028, 1029, 1030, 1031, 1032, 1033, 1034, 1035, 1036, 1037, 1038, 1039, 1040, 1041, 1042, 1043] (by decide +kernel) (by decide +kernel)
set_option maxRecDepth 20000 in
theorem gL_law_X12_saw : GoodIn wsL_law (wsV RL 101 RX12 yX12_saw wsX12_saw) := goodIn_app (goodIn_of _ (by decide +kernel)) ggL_law_X12_saw
set_option maxRecDepth 20000 in
theorem ggL_law_X11_forget : GoodIn wsL_law wsX11_forget := goodIn_r _ [858, 161, 991, 992, 993, 994, 995, 996, 997, 998, 999, 1000, 1001, 1002, 1003, 1004, 1005, 1006, 1007] (by decide +kernel) (by decide +kernel)
set_option maxRecDepth 20000 in
theorem gL_law_X11_forget : GoodIn wsL_law (wsV RL 102 RX11 yX11_forget wsX11_forget) := goodIn_app (goodIn_of _ (by decide +kernel)) ggL_law_X11_forget
set_option maxRecDepth 20000 in
theorem ggL_law_X12_forget : GoodIn wsL_law wsX12_forget := goodIn_r _ [862, 305, 1008, 1009, 1010, 1011, 1012, 1013, 1014, 1015, 1016, 1017, 1018, 1019, 1020, 1021, 1022, 1023, 1024, 1025, 1026, 1027, 1028, 1029, 1030, 1031, 1032, 1033, 1034, 1035, 1036, 1037, 1038, 1039, 1040, 1041, 1042, 1043] (by decide +kernel) (by decide +kernel)
set_option maxRecDepth 20000 in
theorem gL_law_X12_forget : GoodIn wsL_law (wsV RL 105 RX12 yX12_forget wsX12_forget) := goodIn_app (goodIn_of _ (by decide +kernel)) ggL_law_X12_forget
set_option maxRecDepth 20000 in
theorem ggL_law_X11_moved : GoodIn wsL_law wsX11_moved := goodIn_r _ [866, 17, 452, 867, 868, 869, 2, 870, 26, 365, 594, 595, 596, 635, 636, 637, 638, 161, 42, 43, 44, 639, 640, 641, 642, 33, 446, 453, 454, 455, 32, 456, 457, 458, 459, 460, 461, 462, 463, 464, 465, 466, 467, 92, 468, 469, 470, 471, 472, 473, 474, 475, 476, 477, 478, 479, 480, 251, 252, 16, 253, 68, 500, 501, 502, 503, 178, 991, 992, 993, 994, 995, 996, 997, 998, 999, 1000, 1001, 1002, 1003, 1004, 1005, 1006, 1007, 1044, 1045, 1046, 1047, 1048, 1049, 1050, 1051, 1052, 1053, 1054, 1055, 1063, 1064, 1065, 1066, 1067, 1068, 1069, 1070, 1071, 1072, 1073, 1074, 1075, 1076, 1077, 1078, 1079] (by decide +kernel) (by decide +kernel)
set_option maxRecDepth 20000 in
theorem gL_law_X11_moved : GoodIn wsL_law (wsV RL 106 RX11 yX11_moved wsX11_moved) := goodIn_app (goodIn_of _ (by decide +kernel)) ggL_law_X11_moved
set_option maxRecDepth 20000 in
theorem ggL_law_X12_moved : GoodIn wsL_law wsX12_moved := goodIn_r _ [874, 117, 605, 146, 147, 5, 148, 513, 514, 515, 516, 297, 299, 647, 648, 649, 650, 305, 126, 651, 652, 653, 654, 508, 525, 526, 527, 528, 123, 125, 529, 530, 531, 532, 533, 534, 121, 535, 536, 537, 538, 399, 400, 401, 402, 132, 133, 403, 404, 405, 406, 407, 408, 409, 410, 411, 412, 413, 414, 122, 415, 416, 417, 418, 419, 420, 421, 539, 540, 541, 542, 547, 548, 549, 550, 1008, 1009, 1010, 1011, 1012, 1013, 1014, 1015, 1016, 1017, 1018, 1019, 1020, 1021, 1022, 1023, 1024, 1025, 1026, 1027, 1028, 1029, 1030, 1031, 1032, 1033, 1034, 1035, 1036, 1037, 1038, 1039, 1040, 1041, 1042, 1043] (by decide +kernel) (by decide +kernel)
set_option maxRecDepth 20000 in
theorem gL_law_X12_moved : GoodIn wsL_law (wsV RL 109 RX12 yX12_moved wsX12_moved) := goodIn_app (goodIn_of _ (by decide +kernel)) ggL_law_X12_moved
set_option maxRecDepth 20000 in
theorem ggL_law_X11_mark : GoodIn wsL_law wsX11_mark := goodIn_r _ [878, 17, 39, 879, 371, 228, 229, 16, 230, 178, 179, 880, 881, 882, 883, 884, 58, 885, 886, 887, 888, 889, 890, 891, 52, 892, 893, 894, 895, 896, 897, 46, 898, 899, 900, 901, 902, 903, 55, 904, 905, 906, 907, 908, 909, 49, 910, 911, 912, 913, 373, 2, 374, 375, 376, 26, 377, 914, 761, 762, 763, 764, 765, 766, 915, 916, 61, 917, 918, 919, 920, 921, 922, 923, 991, 992, 993, 994, 995, 996, 997, 998, 999, 1000, 1001, 1002, 1003, 1004, 1005, 1006, 1007, 1044, 1045, 1046, 1047, 1048, 1049, 1050, 1051, 1052, 1053, 1054, 1055, 1063, 1064, 1065, 1066, 1067, 1068, 1069, 1070, 1071, 1072, 1073, 1074] (by decide +kernel) (by decide +kernel)
set_option maxRecDepth 20000 in
theorem gL_law_X11_mark : GoodIn wsL_law (wsV RL 110 RX11 yX11_mark wsX11_mark) := goodIn_app (goodIn_of _ (by decide +kernel)) ggL_law_X11_mark
set_option maxRecDepth 20000 in
theorem ggL_law_X12_mark : GoodIn wsL_law wsX12_mark := goodIn_r _ [927, 928, 929, 146, 147, 5, 148, 382, 383, 384, 385, 297, 299, 386, 387, 388, 389, 930, 931, 932, 933, 934, 117, 935, 936, 937, 938, 939, 121, 940, 941, 942, 943, 395, 396, 397, 398, 399, 400, 401, 402, 132, 133, 403, 404, 405, 406, 407, 408, 409, 410, 411, 412, 413, 414, 122, 415, 416, 417, 418, 419, 420, 421, 771, 772, 773, 390, 391, 392, 393, 394, 1008, 1009, 1010, 1011, 1012, 1013, 1014, 1015, 1016, 1017, 1018, 1019, 1020, 1021, 1022, 1023, 1024, 1025, 1026, 1027, 1028, 1029, 1030, 1031, 1032, 1033, 1034, 1035, 1036, 1037, 1038, 1039, 1040, 1041, 1042, 1043] (by decide +kernel) (by decide +kernel)
set_option maxRecDepth 20000 in
theorem gL_law_X12_mark : GoodIn wsL_law (wsV RL 113 RX12 yX12_mark wsX12_mark) := goodIn_app (goodIn_of _ (by decide +kernel)) ggL_law_X12_mark
set_option maxRecDepth 20000 in
theorem ggL_law_X11_keep : GoodIn wsL_law wsX11_keep := goodIn_r _ [947, 27, 26, 29, 367, 948, 949, 2, 950, 951, 952, 953, 25, 954, 280, 281, 79, 80, 81, 82, 83, 84, 85, 86, 87, 88, 283, 284, 285, 286, 167, 168, 169, 287, 288, 289, 290, 448, 449, 450, 451, 17, 452, 991, 992, 993, 994, 995, 996, 997, 998, 999, 1000, 1001, 1002, 1003, 1004, 1005, 1006, 1007, 1063, 1064, 1065, 1066, 1067, 1068, 1069, 1070, 1071, 1072, 1073, 1074, 1044, 1045, 1046, 1047, 1048, 1049, 1050, 1051, 1052, 1053, 1054, 1055] (by decide +kernel) (by decide +kernel)
set_option maxRecDepth 20000 in
theorem gL_law_X11_keep : GoodIn wsL_law (wsV RL 114 RX11 yX11_keep wsX11_keep) := goodIn_app (goodIn_of _ (by decide +kernel)) ggL_law_X11_keep
set_option maxRecDepth 20000 in
theorem ggL_law_X12_keep : GoodIn wsL_law wsX12_keep := goodIn_r _ [958, 118, 146, 147, 5, 148, 959, 960, 961, 962, 117, 509, 510, 511, 512, 513, 514, 515, 516, 297, 299, 390, 391, 392, 393, 394, 1008, 1009, 1010, 1011, 1012, 1013, 1014, 1015, 1016, 1017, 1018, 1019, 1020, 1021, 1022, 1023, 1024, 1025, 1026, 1027, 1028, 1029, 1030, 1031, 1032, 1033, 1034, 1035, 1036, 1037, 1038, 1039, 1040, 1041, 1042, 1043] (by decide +kernel) (by decide +kernel)
set_option maxRecDepth 20000 in
theorem gL_law_X12_keep : GoodIn wsL_law (wsV RL 117 RX12 yX12_keep wsX12_keep) := goodIn_app (goodIn_of _ (by decide +kernel)) ggL_law_X12_keep
set_option maxRecDepth 20000 in
theorem ggL_law_X11_back : GoodIn wsL_law wsX11_back := goodIn_r _ [966, 29, 26, 27, 367, 948, 949, 2, 950, 951, 952, 953, 25, 954, 280, 281, 79, 80, 81, 82, 83, 84, 85, 86, 87, 88, 283, 284, 285, 286, 167, 168, 169, 287, 288, 289, 290, 448, 449, 450, 451, 17, 452, 991, 992, 993, 994, 995, 996, 997, 998, 999, 1000, 1001, 1002, 1003, 1004, 1005, 1006, 1007, 1063, 1064, 1065, 1066, 1067, 1068, 1069, 1070, 1071, 1072, 1073, 1074, 1044, 1045, 1046, 1047, 1048, 1049, 1050, 1051, 1052, 1053, 1054, 1055] (by decide +kernel) (by decide +kernel)
set_option maxRecDepth 20000 in
theorem gL_law_X11_back : GoodIn wsL_law (wsV RL 118 RX11 yX11_back wsX11_back) := goodIn_app (goodIn_of _ (by decide +kernel)) ggL_law_X11_back
set_option maxRecDepth 20000 in
theorem ggL_law_X12_back : GoodIn wsL_law wsX12_back := goodIn_r _ [970, 118, 146, 147, 5, 148, 959, 960, 961, 962, 117, 509, 510, 511, 512, 513, 514, 515, 516, 297, 299, 390, 391, 392, 393, 394, 1008, 1009, 1010, 1011, 1012, 1013, 1014, 1015, 1016, 1017, 1018, 1019, 1020, 1021, 1022, 1023, 1024, 1025, 1026, 1027, 1028, 1029, 1030, 1031, 1032, 1033, 1034, 1035, 1036, 1037, 1038, 1039, 1040, 1041, 1042, 1043] (by decide +kernel) (by decide +kernel)
set_option maxRecDepth 20000 in
theorem gL_law_X12_back : GoodIn wsL_law (wsV RL 121 RX12 yX12_back wsX12_back) := goodIn_app (goodIn_of _ (by decide +kernel)) ggL_law_X12_back
set_option maxRecDepth 20000 in
theorem ggL_law_X11_count : GoodIn wsL_law wsX11_count := goodIn_r _ [974, 17, 975, 976, 977, 433, 161, 26, 622, 139, 991, 992, 993, 994, 995, 996, 997, 998, 999, 1000, 1001, 1002, 1003, 1004, 1005, 1006, 1007, 1044, 1045, 1046, 1047, 1048, 1049, 1050, 1051, 1052, 1053, 1054, 1055, 1063, 1064, 1065, 1066, 1067, 1068, 1069, 1070, 1071, 1072, 1073, 1074] (by decide +kernel) (by decide +kernel)
set_option maxRecDepth 20000 in
theorem gL_law_X11_count : GoodIn wsL_law (wsV RL 122 RX11 yX11_count wsX11_count) := goodIn_app (goodIn_of _ (by decide +kernel)) ggL_law_X11_count
set_option maxRecDepth 20000 in
theorem ggL_law_X12_count : GoodIn wsL_law wsX12_count := goodIn_r _ [981, 297, 299, 303, 301, 305, 117, 145, 1008, 1009, 1010, 1011, 1012, 1013, 1014, 1015, 1016, 1017, 1018, 1019, 1020, 1021, 1022, 1023, 1024, 1025, 1026, 1027, 1028, 1029, 1030, 1031, 1032, 1033, 1034, 1035, 1036, 1037, 1038, 1039, 1040, 1041, 1042, 1043] (by decide +kernel) (by decide +kernel)
set_option maxRecDepth 20000 in
theorem gL_law_X12_count : GoodIn wsL_law (wsV RL 125 RX12 yX12_count wsX12_count) := goodIn_app (goodIn_of _ (by decide +kernel)) ggL_law_X12_count
set_option maxRecDepth 20000 in
theorem ggL_law_X11_trace : GoodIn wsL_law wsX11_trace := goodIn_r _ [985, 986, 991, 992, 993, 994, 995, 996, 997, 998, 999, 1000, 1001, 1002, 1003, 1004, 1005, 1006, 1007] (by decide +kernel) (by decide +kernel)
set_option maxRecDepth 20000 in
theorem gL_law_X11_trace : GoodIn wsL_law (wsV RL 126 RX11 yX11_trace wsX11_trace) := goodIn_app (goodIn_of _ (by decide +kernel)) ggL_law_X11_trace
set_option maxRecDepth 20000 in
theorem ggL_law_X12_trace : GoodIn wsL_law wsX12_trace := goodIn_r _ [990, 934, 1008, 1009, 1010, 1011, 1012, 1013, 1014, 1015, 1016, 1017, 1018, 1019, 1020, 1021, 1022, 1023, 1024, 1025, 1026, 1027, 1028, 1029, 1030, 1031, 1032, 1033, 1034, 1035, 1036, 1037, 1038, 1039, 1040, 1041, 1042, 1043] (by decide +kernel) (by decide +kernel)
set_option maxRecDepth 20000 in
theorem gL_law_X12_trace : GoodIn wsL_law (wsV RL 130 RX12 yX12_trace wsX12_trace) := goodIn_app (goodIn_of _ (by decide +kernel)) ggL_law_X12_trace
