set_option maxRecDepth 100000 in
theorem mw943 : Cond.methodLink RL 115 yL_guest ∈ gwl := gwl_tb 122 rfl rfl
set_option maxRecDepth 100000 in
theorem mw944 : Cond.static yL_guest ∈ gwl := gwl_tb 123 rfl rfl
set_option maxRecDepth 100000 in
theorem mw945 : Cond.initialized RL ∈ gwl := gwl_tb 0 rfl rfl
set_option maxRecDepth 100000 in
theorem mw946 : Cond.codeWith yL_guest cL_guest 6 (some .int) [(0, 12, 15, 13), (0, 12, 19, 15), (0, 12, 23, 17)] ∈ gwl := gwl_tb 124 rfl rfl
set_option maxRecDepth 100000 in
theorem mw947 : Cond.methodLink RL 120 yX11_guest ∈ gwl := gwl_tb 1316 rfl rfl
set_option maxRecDepth 100000 in
theorem mw948 : Cond.instanceMethod yX11_guest ∈ gwl := gwl_tb 1317 rfl rfl
set_option maxRecDepth 100000 in
theorem mw949 : Cond.selects RX11 yX11_guest yX11_guest ∈ gwl := gwl_tb 1318 rfl rfl
set_option maxRecDepth 100000 in
theorem mw950 : Cond.code yX11_guest cX11_guest 6 (some .int) ∈ gwl := gwl_tb 1319 rfl rfl
set_option maxRecDepth 100000 in
theorem mw951 : Cond.methodLink RL 121 yX11_thrown ∈ gwl := gwl_tb 1312 rfl rfl
set_option maxRecDepth 100000 in
theorem mw952 : Cond.instanceMethod yX11_thrown ∈ gwl := gwl_tb 1313 rfl rfl
set_option maxRecDepth 100000 in
theorem mw953 : Cond.selects RX11 yX11_thrown yX11_thrown ∈ gwl := gwl_tb 1314 rfl rfl
set_option maxRecDepth 100000 in
theorem mw954 : Cond.code yX11_thrown cX11_thrown 1 (some .int) ∈ gwl := gwl_tb 1315 rfl rfl
set_option maxRecDepth 100000 in
theorem mw955 : Cond.methodLink RL 125 yL_instruct ∈ gwl := gwl_tb 565 rfl rfl
set_option maxRecDepth 100000 in
theorem mw956 : Cond.static yL_instruct ∈ gwl := gwl_tb 566 rfl rfl
set_option maxRecDepth 100000 in
theorem mw957 : Cond.codeWith yL_instruct cL_instruct 7 (some .int) [(0, 14, 17, 13), (0, 14, 21, 15), (0, 14, 25, 17)] ∈ gwl := gwl_tb 567 rfl rfl
set_option maxRecDepth 100000 in
theorem mw958 : Cond.methodLink RL 128 yX11_instruct ∈ gwl := gwl_tb 1327 rfl rfl
set_option maxRecDepth 100000 in
theorem mw959 : Cond.instanceMethod yX11_instruct ∈ gwl := gwl_tb 1328 rfl rfl
set_option maxRecDepth 100000 in
theorem mw960 : Cond.selects RX11 yX11_instruct yX11_instruct ∈ gwl := gwl_tb 1329 rfl rfl
set_option maxRecDepth 100000 in
theorem mw961 : Cond.code yX11_instruct cX11_instruct 7 (some .int) ∈ gwl := gwl_tb 1330 rfl rfl
set_option maxRecDepth 100000 in
theorem mw962 : Cond.methodLink RL 129 yL_pause ∈ gwl := gwl_tb 603 rfl rfl
set_option maxRecDepth 100000 in
theorem mw963 : Cond.static yL_pause ∈ gwl := gwl_tb 604 rfl rfl
set_option maxRecDepth 100000 in
theorem mw964 : Cond.codeWith yL_pause cL_pause 5 (some .int) [(0, 17, 20, 13)] ∈ gwl := gwl_tb 605 rfl rfl
set_option maxRecDepth 100000 in
theorem mw965 : Cond.methodLink RL 132 yX11_pause ∈ gwl := gwl_tb 1341 rfl rfl
set_option maxRecDepth 100000 in
theorem mw966 : Cond.instanceMethod yX11_pause ∈ gwl := gwl_tb 1342 rfl rfl
set_option maxRecDepth 100000 in
theorem mw967 : Cond.selects RX11 yX11_pause yX11_pause ∈ gwl := gwl_tb 1343 rfl rfl
set_option maxRecDepth 100000 in
theorem mw968 : Cond.code yX11_pause cX11_pause 4 (some .boolean) ∈ gwl := gwl_tb 1344 rfl rfl
set_option maxRecDepth 100000 in
theorem mw969 : Cond.methodLink RL 133 yL_scale ∈ gwl := gwl_tb 610 rfl rfl
set_option maxRecDepth 100000 in
theorem mw970 : Cond.static yL_scale ∈ gwl := gwl_tb 611 rfl rfl
set_option maxRecDepth 100000 in
theorem mw971 : Cond.codeWith yL_scale cL_scale 5 (some .int) [(0, 10, 13, 13), (0, 10, 17, 15)] ∈ gwl := gwl_tb 612 rfl rfl
set_option maxRecDepth 100000 in
theorem mw972 : Cond.methodLink RL 136 yX11_scale ∈ gwl := gwl_tb 1345 rfl rfl
set_option maxRecDepth 100000 in
theorem mw973 : Cond.instanceMethod yX11_scale ∈ gwl := gwl_tb 1346 rfl rfl
set_option maxRecDepth 100000 in
theorem mw974 : Cond.selects RX11 yX11_scale yX11_scale ∈ gwl := gwl_tb 1347 rfl rfl
set_option maxRecDepth 100000 in
theorem mw975 : Cond.code yX11_scale cX11_scale 5 (some .int) ∈ gwl := gwl_tb 1348 rfl rfl
set_option maxRecDepth 100000 in
theorem mw976 : Cond.methodLink RL 137 yL_input ∈ gwl := gwl_tb 618 rfl rfl
set_option maxRecDepth 100000 in
theorem mw977 : Cond.static yL_input ∈ gwl := gwl_tb 619 rfl rfl
set_option maxRecDepth 100000 in
theorem mw978 : Cond.codeWith yL_input cL_input 5 (some .int) [(0, 10, 13, 13), (0, 10, 17, 15), (0, 10, 21, 17)] ∈ gwl := gwl_tb 620 rfl rfl
set_option maxRecDepth 100000 in
theorem mw979 : Cond.methodLink RL 139 yX11_input ∈ gwl := gwl_tb 1360 rfl rfl
set_option maxRecDepth 100000 in
theorem mw980 : Cond.instanceMethod yX11_input ∈ gwl := gwl_tb 1361 rfl rfl
set_option maxRecDepth 100000 in
theorem mw981 : Cond.selects RX11 yX11_input yX11_input ∈ gwl := gwl_tb 1362 rfl rfl
set_option maxRecDepth 100000 in
theorem mw982 : Cond.code yX11_input cX11_input 4 (some .int) ∈ gwl := gwl_tb 1363 rfl rfl
set_option maxRecDepth 100000 in
theorem mw983 : Cond.methodLink RL 140 yL_send ∈ gwl := gwl_tb 641 rfl rfl
set_option maxRecDepth 100000 in
theorem mw984 : Cond.static yL_send ∈ gwl := gwl_tb 642 rfl rfl
set_option maxRecDepth 100000 in
theorem mw985 : Cond.codeWith yL_send cL_send 4 (some .int) [(0, 16, 19, 13), (0, 16, 22, 17)] ∈ gwl := gwl_tb 643 rfl rfl
set_option maxRecDepth 100000 in
theorem mw986 : Cond.methodLink RL 143 yX11_send ∈ gwl := gwl_tb 1364 rfl rfl
set_option maxRecDepth 100000 in
theorem mw987 : Cond.instanceMethod yX11_send ∈ gwl := gwl_tb 1365 rfl rfl
set_option maxRecDepth 100000 in
theorem mw988 : Cond.selects RX11 yX11_send yX11_send ∈ gwl := gwl_tb 1366 rfl rfl
set_option maxRecDepth 100000 in
theorem mw989 : Cond.code yX11_send cX11_send 6 (some .boolean) ∈ gwl := gwl_tb 1367 rfl rfl
set_option maxRecDepth 100000 in
theorem mw990 : Cond.methodLink RL 144 yL_tick ∈ gwl := gwl_tb 661 rfl rfl
set_option maxRecDepth 100000 in
theorem mw991 : Cond.static yL_tick ∈ gwl := gwl_tb 662 rfl rfl
set_option maxRecDepth 100000 in
theorem mw992 : Cond.codeWith yL_tick cL_tick 4 (some .int) [(0, 9, 12, 15), (0, 9, 15, 17)] ∈ gwl := gwl_tb 663 rfl rfl
set_option maxRecDepth 100000 in
theorem mw993 : Cond.methodLink RL 146 yX11_tick ∈ gwl := gwl_tb 1368 rfl rfl
set_option maxRecDepth 100000 in
theorem mw994 : Cond.instanceMethod yX11_tick ∈ gwl := gwl_tb 1369 rfl rfl
set_option maxRecDepth 100000 in
theorem mw995 : Cond.selects RX11 yX11_tick yX11_tick ∈ gwl := gwl_tb 1370 rfl rfl
set_option maxRecDepth 100000 in
theorem mw996 : Cond.code yX11_tick cX11_tick 3 (some .int) ∈ gwl := gwl_tb 1371 rfl rfl
set_option maxRecDepth 100000 in
theorem mw997 : Cond.methodLink RL 147 yL_share ∈ gwl := gwl_tb 844 rfl rfl
set_option maxRecDepth 100000 in
theorem mw998 : Cond.static yL_share ∈ gwl := gwl_tb 845 rfl rfl
set_option maxRecDepth 100000 in
theorem mw999 : Cond.codeWith yL_share cL_share 4 (some .int) [(0, 9, 12, 13)] ∈ gwl := gwl_tb 846 rfl rfl
set_option maxRecDepth 100000 in
theorem mw1000 : Cond.methodLink RL 149 yX11_share ∈ gwl := gwl_tb 1428 rfl rfl
set_option maxRecDepth 100000 in
theorem mw1001 : Cond.instanceMethod yX11_share ∈ gwl := gwl_tb 1429 rfl rfl
set_option maxRecDepth 100000 in
theorem mw1002 : Cond.selects RX11 yX11_share yX11_share ∈ gwl := gwl_tb 1430 rfl rfl
set_option maxRecDepth 100000 in
theorem mw1003 : Cond.code yX11_share cX11_share 8 (some .int) ∈ gwl := gwl_tb 1431 rfl rfl
set_option maxRecDepth 100000 in
theorem mw1004 : Cond.methodLink RL 150 yL_move ∈ gwl := gwl_tb 867 rfl rfl
set_option maxRecDepth 100000 in
theorem mw1005 : Cond.static yL_move ∈ gwl := gwl_tb 868 rfl rfl
set_option maxRecDepth 100000 in
theorem mw1006 : Cond.codeWith yL_move cL_move 4 (some .int) [(0, 9, 12, 13), (0, 9, 15, 17)] ∈ gwl := gwl_tb 869 rfl rfl
set_option maxRecDepth 100000 in
theorem mw1007 : Cond.methodLink RL 152 yX11_move ∈ gwl := gwl_tb 1440 rfl rfl
set_option maxRecDepth 100000 in
theorem mw1008 : Cond.instanceMethod yX11_move ∈ gwl := gwl_tb 1441 rfl rfl
set_option maxRecDepth 100000 in
theorem mw1009 : Cond.selects RX11 yX11_move yX11_move ∈ gwl := gwl_tb 1442 rfl rfl
set_option maxRecDepth 100000 in
theorem mw1010 : Cond.code yX11_move cX11_move 5 (some .int) ∈ gwl := gwl_tb 1443 rfl rfl
set_option maxRecDepth 100000 in
theorem mw1011 : Cond.methodLink RL 153 yL_round ∈ gwl := gwl_tb 890 rfl rfl
set_option maxRecDepth 100000 in
theorem mw1012 : Cond.static yL_round ∈ gwl := gwl_tb 891 rfl rfl
set_option maxRecDepth 100000 in
theorem mw1013 : Cond.codeWith yL_round cL_round 5 (some .int) [(0, 10, 13, 13), (0, 10, 17, 15), (0, 10, 21, 17)] ∈ gwl := gwl_tb 892 rfl rfl
set_option maxRecDepth 100000 in
theorem mw1014 : Cond.methodLink RL 155 yX11_round ∈ gwl := gwl_tb 1447 rfl rfl
set_option maxRecDepth 100000 in
theorem mw1015 : Cond.instanceMethod yX11_round ∈ gwl := gwl_tb 1448 rfl rfl
set_option maxRecDepth 100000 in
theorem mw1016 : Cond.selects RX11 yX11_round yX11_round ∈ gwl := gwl_tb 1449 rfl rfl
set_option maxRecDepth 100000 in
theorem mw1017 : Cond.code yX11_round cX11_round 5 (some .int) ∈ gwl := gwl_tb 1450 rfl rfl
set_option maxRecDepth 100000 in
theorem mw1018 : Cond.methodLink RL 156 yL_land ∈ gwl := gwl_tb 903 rfl rfl
set_option maxRecDepth 100000 in
theorem mw1019 : Cond.static yL_land ∈ gwl := gwl_tb 904 rfl rfl
set_option maxRecDepth 100000 in
theorem mw1020 : Cond.codeWith yL_land cL_land 5 (some .int) [(0, 10, 13, 13), (0, 10, 17, 17)] ∈ gwl := gwl_tb 905 rfl rfl
set_option maxRecDepth 100000 in
theorem mw1021 : Cond.methodLink RL 158 yX11_land ∈ gwl := gwl_tb 1451 rfl rfl
set_option maxRecDepth 100000 in
theorem mw1022 : Cond.instanceMethod yX11_land ∈ gwl := gwl_tb 1452 rfl rfl
set_option maxRecDepth 100000 in
theorem mw1023 : Cond.selects RX11 yX11_land yX11_land ∈ gwl := gwl_tb 1453 rfl rfl
set_option maxRecDepth 100000 in
theorem mw1024 : Cond.code yX11_land cX11_land 4 (some .int) ∈ gwl := gwl_tb 1454 rfl rfl
set_option maxRecDepth 100000 in
theorem mw1025 : Cond.methodLink RL 159 yL_snapshot ∈ gwl := gwl_tb 914 rfl rfl
set_option maxRecDepth 100000 in
theorem mw1026 : Cond.static yL_snapshot ∈ gwl := gwl_tb 915 rfl rfl
set_option maxRecDepth 100000 in
theorem mw1027 : Cond.codeWith yL_snapshot cL_snapshot 4 (some .int) [(0, 9, 12, 13), (0, 9, 15, 17)] ∈ gwl := gwl_tb 916 rfl rfl
set_option maxRecDepth 100000 in
theorem mw1028 : Cond.methodLink RL 161 yX11_snapshot ∈ gwl := gwl_tb 1459 rfl rfl
set_option maxRecDepth 100000 in
theorem mw1029 : Cond.instanceMethod yX11_snapshot ∈ gwl := gwl_tb 1460 rfl rfl
set_option maxRecDepth 100000 in
theorem mw1030 : Cond.selects RX11 yX11_snapshot yX11_snapshot ∈ gwl := gwl_tb 1461 rfl rfl
set_option maxRecDepth 100000 in
theorem mw1031 : Cond.code yX11_snapshot cX11_snapshot 7 (some .int) ∈ gwl := gwl_tb 1462 rfl rfl
set_option maxRecDepth 100000 in
theorem mw1032 : Cond.methodLink RL 162 yL_restore ∈ gwl := gwl_tb 961 rfl rfl
set_option maxRecDepth 100000 in
theorem mw1033 : Cond.static yL_restore ∈ gwl := gwl_tb 962 rfl rfl
set_option maxRecDepth 100000 in
theorem mw1034 : Cond.codeWith yL_restore cL_restore 5 (some .int) [(0, 10, 13, 13), (0, 10, 17, 17)] ∈ gwl := gwl_tb 963 rfl rfl
set_option maxRecDepth 100000 in
theorem mw1035 : Cond.methodLink RL 164 yX11_restore ∈ gwl := gwl_tb 1467 rfl rfl
set_option maxRecDepth 100000 in
theorem mw1036 : Cond.instanceMethod yX11_restore ∈ gwl := gwl_tb 1468 rfl rfl
set_option maxRecDepth 100000 in
theorem mw1037 : Cond.selects RX11 yX11_restore yX11_restore ∈ gwl := gwl_tb 1469 rfl rfl
set_option maxRecDepth 100000 in
theorem mw1038 : Cond.code yX11_restore cX11_restore 5 (some .int) ∈ gwl := gwl_tb 1470 rfl rfl
set_option maxRecDepth 100000 in
theorem mw1039 : Cond.methodLink RL 165 yL_follow ∈ gwl := gwl_tb 984 rfl rfl
set_option maxRecDepth 100000 in
theorem mw1040 : Cond.static yL_follow ∈ gwl := gwl_tb 985 rfl rfl
set_option maxRecDepth 100000 in
theorem mw1041 : Cond.codeWith yL_follow cL_follow 5 (some .int) [(0, 17, 20, 13), (0, 17, 24, 17)] ∈ gwl := gwl_tb 986 rfl rfl
set_option maxRecDepth 100000 in
theorem mw1042 : Cond.methodLink RL 167 yX11_follow ∈ gwl := gwl_tb 1479 rfl rfl
set_option maxRecDepth 100000 in
theorem mw1043 : Cond.instanceMethod yX11_follow ∈ gwl := gwl_tb 1480 rfl rfl
set_option maxRecDepth 100000 in
theorem mw1044 : Cond.selects RX11 yX11_follow yX11_follow ∈ gwl := gwl_tb 1481 rfl rfl
set_option maxRecDepth 100000 in
theorem mw1045 : Cond.code yX11_follow cX11_follow 5 (some .boolean) ∈ gwl := gwl_tb 1482 rfl rfl
set_option maxRecDepth 100000 in
theorem mw1046 : Cond.methodLink RL 168 yL_step ∈ gwl := gwl_tb 1006 rfl rfl
set_option maxRecDepth 100000 in
theorem mw1047 : Cond.static yL_step ∈ gwl := gwl_tb 1007 rfl rfl
set_option maxRecDepth 100000 in
theorem mw1048 : Cond.codeWith yL_step cL_step 4 (some .int) [(0, 9, 12, 13), (0, 9, 15, 17)] ∈ gwl := gwl_tb 1008 rfl rfl
set_option maxRecDepth 100000 in
theorem mw1049 : Cond.methodLink RL 170 yX11_step ∈ gwl := gwl_tb 1491 rfl rfl
set_option maxRecDepth 100000 in
theorem mw1050 : Cond.instanceMethod yX11_step ∈ gwl := gwl_tb 1492 rfl rfl
set_option maxRecDepth 100000 in
theorem mw1051 : Cond.selects RX11 yX11_step yX11_step ∈ gwl := gwl_tb 1493 rfl rfl
set_option maxRecDepth 100000 in
theorem mw1052 : Cond.code yX11_step cX11_step 2 (some .int) ∈ gwl := gwl_tb 1494 rfl rfl
set_option maxRecDepth 100000 in
theorem mw1053 : Cond.methodLink RL 171 yL_fail ∈ gwl := gwl_tb 1014 rfl rfl
set_option maxRecDepth 100000 in
theorem mw1054 : Cond.static yL_fail ∈ gwl := gwl_tb 1015 rfl rfl
set_option maxRecDepth 100000 in
theorem mw1055 : Cond.codeWith yL_fail cL_fail 4 (some .int) [(0, 9, 12, 13), (0, 9, 15, 17)] ∈ gwl := gwl_tb 1016 rfl rfl
set_option maxRecDepth 100000 in
theorem mw1056 : Cond.methodLink RL 173 yX11_fail ∈ gwl := gwl_tb 1495 rfl rfl
set_option maxRecDepth 100000 in
theorem mw1057 : Cond.instanceMethod yX11_fail ∈ gwl := gwl_tb 1496 rfl rfl
set_option maxRecDepth 100000 in
theorem mw1058 : Cond.selects RX11 yX11_fail yX11_fail ∈ gwl := gwl_tb 1497 rfl rfl
set_option maxRecDepth 100000 in
theorem mw1059 : Cond.code yX11_fail cX11_fail 5 (some .int) ∈ gwl := gwl_tb 1498 rfl rfl
set_option maxRecDepth 100000 in
theorem mw1060 : Cond.methodLink RL 174 yL_mend ∈ gwl := gwl_tb 1036 rfl rfl
set_option maxRecDepth 100000 in
theorem mw1061 : Cond.static yL_mend ∈ gwl := gwl_tb 1037 rfl rfl
set_option maxRecDepth 100000 in
theorem mw1062 : Cond.codeWith yL_mend cL_mend 3 (some .int) [(0, 5, 8, 13), (0, 5, 11, 17)] ∈ gwl := gwl_tb 1038 rfl rfl
set_option maxRecDepth 100000 in
theorem mw1063 : Cond.methodLink RL 177 yX11_mend ∈ gwl := gwl_tb 1507 rfl rfl
set_option maxRecDepth 100000 in
theorem mw1064 : Cond.instanceMethod yX11_mend ∈ gwl := gwl_tb 1508 rfl rfl
set_option maxRecDepth 100000 in
theorem mw1065 : Cond.selects RX11 yX11_mend yX11_mend ∈ gwl := gwl_tb 1509 rfl rfl
set_option maxRecDepth 100000 in
theorem mw1066 : Cond.code yX11_mend cX11_mend 2 none ∈ gwl := gwl_tb 1510 rfl rfl
set_option maxRecDepth 100000 in
theorem mw1067 : Cond.methodLink RL 178 yX10_time ∈ gwl := gwl_tb 118 rfl rfl
set_option maxRecDepth 100000 in
theorem mw1068 : Cond.instanceMethod yX10_time ∈ gwl := gwl_tb 119 rfl rfl
set_option maxRecDepth 100000 in
theorem mw1069 : Cond.selects RX10 yX10_time yX10_time ∈ gwl := gwl_tb 120 rfl rfl
set_option maxRecDepth 100000 in
theorem mw1070 : Cond.code yX10_time cX10_time 1 (some .int) ∈ gwl := gwl_tb 121 rfl rfl
set_option maxRecDepth 100000 in
theorem mw1071 : Cond.methodLink RL 181 yX11_time ∈ gwl := gwl_tb 1511 rfl rfl
set_option maxRecDepth 100000 in
theorem mw1072 : Cond.instanceMethod yX11_time ∈ gwl := gwl_tb 1512 rfl rfl
set_option maxRecDepth 100000 in
theorem mw1073 : Cond.selects RX11 yX11_time yX11_time ∈ gwl := gwl_tb 1513 rfl rfl
set_option maxRecDepth 100000 in
theorem mw1074 : Cond.code yX11_time cX11_time 1 (some .int) ∈ gwl := gwl_tb 1514 rfl rfl
set_option maxRecDepth 100000 in
theorem mw1075 : Cond.methodLink RL 182 yL_of ∈ gwl := gwl_tb 1044 rfl rfl
set_option maxRecDepth 100000 in
theorem mw1076 : Cond.static yL_of ∈ gwl := gwl_tb 1045 rfl rfl
set_option maxRecDepth 100000 in
theorem mw1077 : Cond.codeWith yL_of cL_of 5 (some .int) [(0, 10, 13, 13), (0, 10, 17, 15)] ∈ gwl := gwl_tb 1046 rfl rfl
set_option maxRecDepth 100000 in
theorem mw1078 : Cond.methodLink RL 184 yX11_of ∈ gwl := gwl_tb 1519 rfl rfl
set_option maxRecDepth 100000 in
theorem mw1079 : Cond.instanceMethod yX11_of ∈ gwl := gwl_tb 1520 rfl rfl
set_option maxRecDepth 100000 in
theorem mw1080 : Cond.selects RX11 yX11_of yX11_of ∈ gwl := gwl_tb 1521 rfl rfl
set_option maxRecDepth 100000 in
theorem mw1081 : Cond.code yX11_of cX11_of 4 (some .int) ∈ gwl := gwl_tb 1522 rfl rfl
set_option maxRecDepth 100000 in
theorem mw1082 : Cond.methodLink RL 185 yL_register ∈ gwl := gwl_tb 1052 rfl rfl
set_option maxRecDepth 100000 in
theorem mw1083 : Cond.static yL_register ∈ gwl := gwl_tb 1053 rfl rfl
set_option maxRecDepth 100000 in
theorem mw1084 : Cond.codeWith yL_register cL_register 5 (some .int) [(0, 10, 13, 13)] ∈ gwl := gwl_tb 1054 rfl rfl
set_option maxRecDepth 100000 in
theorem mw1085 : Cond.methodLink RL 187 yX11_register ∈ gwl := gwl_tb 1523 rfl rfl
set_option maxRecDepth 100000 in
theorem mw1086 : Cond.instanceMethod yX11_register ∈ gwl := gwl_tb 1524 rfl rfl
set_option maxRecDepth 100000 in
theorem mw1087 : Cond.selects RX11 yX11_register yX11_register ∈ gwl := gwl_tb 1525 rfl rfl
set_option maxRecDepth 100000 in
theorem mw1088 : Cond.code yX11_register cX11_register 3 (some .int) ∈ gwl := gwl_tb 1526 rfl rfl
set_option maxRecDepth 100000 in
theorem mw1089 : Cond.methodLink RL 188 yL_word ∈ gwl := gwl_tb 1059 rfl rfl
set_option maxRecDepth 100000 in
theorem mw1090 : Cond.static yL_word ∈ gwl := gwl_tb 1060 rfl rfl
set_option maxRecDepth 100000 in
theorem mw1091 : Cond.codeWith yL_word cL_word 6 (some .int) [(0, 12, 15, 13)] ∈ gwl := gwl_tb 1061 rfl rfl
set_option maxRecDepth 100000 in
theorem mw1092 : Cond.methodLink RL 191 yX11_word ∈ gwl := gwl_tb 1527 rfl rfl
set_option maxRecDepth 100000 in
theorem mw1093 : Cond.instanceMethod yX11_word ∈ gwl := gwl_tb 1528 rfl rfl
set_option maxRecDepth 100000 in
theorem mw1094 : Cond.selects RX11 yX11_word yX11_word ∈ gwl := gwl_tb 1529 rfl rfl
set_option maxRecDepth 100000 in
theorem mw1095 : Cond.code yX11_word cX11_word 4 (some .int) ∈ gwl := gwl_tb 1530 rfl rfl
set_option maxRecDepth 100000 in
theorem mw1096 : Cond.methodLink RL 192 yL_pageOf ∈ gwl := gwl_tb 1066 rfl rfl
set_option maxRecDepth 100000 in
theorem mw1097 : Cond.static yL_pageOf ∈ gwl := gwl_tb 1067 rfl rfl
set_option maxRecDepth 100000 in
theorem mw1098 : Cond.codeWith yL_pageOf cL_pageOf 5 (some .int) [(0, 10, 13, 13)] ∈ gwl := gwl_tb 1068 rfl rfl
set_option maxRecDepth 100000 in
theorem mw1099 : Cond.methodLink RL 194 yX11_pageOf ∈ gwl := gwl_tb 1535 rfl rfl
set_option maxRecDepth 100000 in
theorem mw1100 : Cond.instanceMethod yX11_pageOf ∈ gwl := gwl_tb 1536 rfl rfl
set_option maxRecDepth 100000 in
theorem mw1101 : Cond.selects RX11 yX11_pageOf yX11_pageOf ∈ gwl := gwl_tb 1537 rfl rfl
set_option maxRecDepth 100000 in
theorem mw1102 : Cond.code yX11_pageOf cX11_pageOf 3 (some .int) ∈ gwl := gwl_tb 1538 rfl rfl
set_option maxRecDepth 100000 in
theorem mw1103 : Cond.methodLink RL 195 yL_frameOf ∈ gwl := gwl_tb 1078 rfl rfl
set_option maxRecDepth 100000 in
theorem mw1104 : Cond.static yL_frameOf ∈ gwl := gwl_tb 1079 rfl rfl
set_option maxRecDepth 100000 in
theorem mw1105 : Cond.codeWith yL_frameOf cL_frameOf 5 (some .int) [(0, 10, 13, 13)] ∈ gwl := gwl_tb 1080 rfl rfl
set_option maxRecDepth 100000 in
theorem mw1106 : Cond.methodLink RL 197 yX11_frameOf ∈ gwl := gwl_tb 1539 rfl rfl
set_option maxRecDepth 100000 in
theorem mw1107 : Cond.instanceMethod yX11_frameOf ∈ gwl := gwl_tb 1540 rfl rfl
set_option maxRecDepth 100000 in
theorem mw1108 : Cond.selects RX11 yX11_frameOf yX11_frameOf ∈ gwl := gwl_tb 1541 rfl rfl
set_option maxRecDepth 100000 in
theorem mw1109 : Cond.code yX11_frameOf cX11_frameOf 3 (some .int) ∈ gwl := gwl_tb 1542 rfl rfl
set_option maxRecDepth 100000 in
theorem mw1110 : Cond.methodLink RL 198 yL_used ∈ gwl := gwl_tb 1085 rfl rfl
set_option maxRecDepth 100000 in
theorem mw1111 : Cond.static yL_used ∈ gwl := gwl_tb 1086 rfl rfl
set_option maxRecDepth 100000 in
theorem mw1112 : Cond.codeWith yL_used cL_used 4 (some .int) [(0, 9, 12, 13)] ∈ gwl := gwl_tb 1087 rfl rfl
set_option maxRecDepth 100000 in
theorem mw1113 : Cond.methodLink RL 200 yX11_used ∈ gwl := gwl_tb 1543 rfl rfl
set_option maxRecDepth 100000 in
theorem mw1114 : Cond.instanceMethod yX11_used ∈ gwl := gwl_tb 1544 rfl rfl
set_option maxRecDepth 100000 in
theorem mw1115 : Cond.selects RX11 yX11_used yX11_used ∈ gwl := gwl_tb 1545 rfl rfl
set_option maxRecDepth 100000 in
theorem mw1116 : Cond.code yX11_used cX11_used 4 (some .int) ∈ gwl := gwl_tb 1546 rfl rfl
set_option maxRecDepth 100000 in
theorem mw1117 : Cond.methodLink RL 201 yL_exits ∈ gwl := gwl_tb 1096 rfl rfl
set_option maxRecDepth 100000 in
theorem mw1118 : Cond.static yL_exits ∈ gwl := gwl_tb 1097 rfl rfl
set_option maxRecDepth 100000 in
theorem mw1119 : Cond.codeWith yL_exits cL_exits 5 (some .int) [(0, 10, 13, 13), (0, 10, 17, 15)] ∈ gwl := gwl_tb 1098 rfl rfl
set_option maxRecDepth 100000 in
theorem mw1120 : Cond.methodLink RL 203 yX11_exits ∈ gwl := gwl_tb 1547 rfl rfl
set_option maxRecDepth 100000 in
theorem mw1121 : Cond.instanceMethod yX11_exits ∈ gwl := gwl_tb 1548 rfl rfl
set_option maxRecDepth 100000 in
theorem mw1122 : Cond.selects RX11 yX11_exits yX11_exits ∈ gwl := gwl_tb 1549 rfl rfl
set_option maxRecDepth 100000 in
theorem mw1123 : Cond.code yX11_exits cX11_exits 3 (some .int) ∈ gwl := gwl_tb 1550 rfl rfl
set_option maxRecDepth 100000 in
theorem mw1124 : Cond.methodLink RL 204 yL_out ∈ gwl := gwl_tb 1104 rfl rfl
set_option maxRecDepth 100000 in
theorem mw1125 : Cond.static yL_out ∈ gwl := gwl_tb 1105 rfl rfl
set_option maxRecDepth 100000 in
theorem mw1126 : Cond.codeWith yL_out cL_out 4 (some .int) [(0, 9, 12, 13)] ∈ gwl := gwl_tb 1106 rfl rfl
set_option maxRecDepth 100000 in
theorem mw1127 : Cond.methodLink RL 206 yX11_out ∈ gwl := gwl_tb 1551 rfl rfl
set_option maxRecDepth 100000 in
theorem mw1128 : Cond.instanceMethod yX11_out ∈ gwl := gwl_tb 1552 rfl rfl
set_option maxRecDepth 100000 in
theorem mw1129 : Cond.selects RX11 yX11_out yX11_out ∈ gwl := gwl_tb 1553 rfl rfl
set_option maxRecDepth 100000 in
theorem mw1130 : Cond.code yX11_out cX11_out 2 (some .int) ∈ gwl := gwl_tb 1554 rfl rfl
set_option maxRecDepth 100000 in
theorem mw1131 : Cond.methodLink RL 207 yL_outAt ∈ gwl := gwl_tb 1111 rfl rfl
set_option maxRecDepth 100000 in
theorem mw1132 : Cond.static yL_outAt ∈ gwl := gwl_tb 1112 rfl rfl
set_option maxRecDepth 100000 in
theorem mw1133 : Cond.codeWith yL_outAt cL_outAt 5 (some .int) [(0, 10, 13, 13)] ∈ gwl := gwl_tb 1113 rfl rfl
set_option maxRecDepth 100000 in
theorem mw1134 : Cond.methodLink RL 209 yX11_outAt ∈ gwl := gwl_tb 1555 rfl rfl
set_option maxRecDepth 100000 in
theorem mw1135 : Cond.instanceMethod yX11_outAt ∈ gwl := gwl_tb 1556 rfl rfl
set_option maxRecDepth 100000 in
theorem mw1136 : Cond.selects RX11 yX11_outAt yX11_outAt ∈ gwl := gwl_tb 1557 rfl rfl
set_option maxRecDepth 100000 in
theorem mw1137 : Cond.code yX11_outAt cX11_outAt 3 (some .int) ∈ gwl := gwl_tb 1558 rfl rfl
set_option maxRecDepth 100000 in
theorem mw1138 : Cond.methodLink RL 210 yL_held ∈ gwl := gwl_tb 1118 rfl rfl
set_option maxRecDepth 100000 in
theorem mw1139 : Cond.static yL_held ∈ gwl := gwl_tb 1119 rfl rfl
set_option maxRecDepth 100000 in
theorem mw1140 : Cond.codeWith yL_held cL_held 4 (some .int) [(0, 9, 12, 13)] ∈ gwl := gwl_tb 1120 rfl rfl
set_option maxRecDepth 100000 in
theorem mw1141 : Cond.methodLink RL 212 yX11_held ∈ gwl := gwl_tb 1559 rfl rfl
set_option maxRecDepth 100000 in
theorem mw1142 : Cond.instanceMethod yX11_held ∈ gwl := gwl_tb 1560 rfl rfl
set_option maxRecDepth 100000 in
theorem mw1143 : Cond.selects RX11 yX11_held yX11_held ∈ gwl := gwl_tb 1561 rfl rfl
set_option maxRecDepth 100000 in
theorem mw1144 : Cond.code yX11_held cX11_held 2 (some .int) ∈ gwl := gwl_tb 1562 rfl rfl
set_option maxRecDepth 100000 in
theorem mw1145 : Cond.methodLink RL 213 yL_stored ∈ gwl := gwl_tb 1125 rfl rfl
set_option maxRecDepth 100000 in
theorem mw1146 : Cond.static yL_stored ∈ gwl := gwl_tb 1126 rfl rfl
set_option maxRecDepth 100000 in
theorem mw1147 : Cond.codeWith yL_stored cL_stored 4 (some .int) [(0, 9, 12, 13)] ∈ gwl := gwl_tb 1127 rfl rfl
set_option maxRecDepth 100000 in
theorem mw1148 : Cond.methodLink RL 215 yX11_stored ∈ gwl := gwl_tb 1563 rfl rfl
set_option maxRecDepth 100000 in
theorem mw1149 : Cond.instanceMethod yX11_stored ∈ gwl := gwl_tb 1564 rfl rfl
set_option maxRecDepth 100000 in
theorem mw1150 : Cond.selects RX11 yX11_stored yX11_stored ∈ gwl := gwl_tb 1565 rfl rfl
set_option maxRecDepth 100000 in
theorem mw1151 : Cond.code yX11_stored cX11_stored 2 (some .int) ∈ gwl := gwl_tb 1566 rfl rfl
set_option maxRecDepth 100000 in
theorem mw1152 : Cond.methodLink RL 216 yL_isAsPlain ∈ gwl := gwl_tb 1132 rfl rfl
set_option maxRecDepth 100000 in
theorem mw1153 : Cond.static yL_isAsPlain ∈ gwl := gwl_tb 1133 rfl rfl
set_option maxRecDepth 100000 in
theorem mw1154 : Cond.codeWith yL_isAsPlain cL_isAsPlain 4 (some .int) [(0, 16, 19, 13)] ∈ gwl := gwl_tb 1134 rfl rfl
set_option maxRecDepth 100000 in
theorem mw1155 : Cond.methodLink RL 218 yX11_isAsPlain ∈ gwl := gwl_tb 1567 rfl rfl
set_option maxRecDepth 100000 in
theorem mw1156 : Cond.instanceMethod yX11_isAsPlain ∈ gwl := gwl_tb 1568 rfl rfl
set_option maxRecDepth 100000 in
theorem mw1157 : Cond.selects RX11 yX11_isAsPlain yX11_isAsPlain ∈ gwl := gwl_tb 1569 rfl rfl
set_option maxRecDepth 100000 in
theorem mw1158 : Cond.code yX11_isAsPlain cX11_isAsPlain 2 (some .boolean) ∈ gwl := gwl_tb 1570 rfl rfl
theorem pd_L_guest : (yL_guest).cls ≠ "java/lang/invoke/MethodHandle" ∧ (yL_guest).cls ≠ "java/lang/invoke/VarHandle" ∧ (parseMethodDescriptor (yL_guest).desc).map (fun d => d.parameters.length) = some 5 := ⟨by decide +kernel, by decide +kernel, by decide +kernel⟩
theorem pd_X11_guest : (yX11_guest).cls ≠ "java/lang/invoke/MethodHandle" ∧ (yX11_guest).cls ≠ "java/lang/invoke/VarHandle" ∧ (parseMethodDescriptor (yX11_guest).desc).map (fun d => d.parameters.length) = some 3 := ⟨by decide +kernel, by decide +kernel, by decide +kernel⟩
theorem pd_X11_thrown : (yX11_thrown).cls ≠ "java/lang/invoke/MethodHandle" ∧ (yX11_thrown).cls ≠ "java/lang/invoke/VarHandle" ∧ (parseMethodDescriptor (yX11_thrown).desc).map (fun d => d.parameters.length) = some 0 := ⟨by decide +kernel, by decide +kernel, by decide +kernel⟩
theorem pd_L_instruct : (yL_instruct).cls ≠ "java/lang/invoke/MethodHandle" ∧ (yL_instruct).cls ≠ "java/lang/invoke/VarHandle" ∧ (parseMethodDescriptor (yL_instruct).desc).map (fun d => d.parameters.length) = some 6 := ⟨by decide +kernel, by decide +kernel, by decide +kernel⟩
theorem pd_X11_instruct : (yX11_instruct).cls ≠ "java/lang/invoke/MethodHandle" ∧ (yX11_instruct).cls ≠ "java/lang/invoke/VarHandle" ∧ (parseMethodDescriptor (yX11_instruct).desc).map (fun d => d.parameters.length) = some 4 := ⟨by decide +kernel, by decide +kernel, by decide +kernel⟩
theorem pd_L_pause : (yL_pause).cls ≠ "java/lang/invoke/MethodHandle" ∧ (yL_pause).cls ≠ "java/lang/invoke/VarHandle" ∧ (parseMethodDescriptor (yL_pause).desc).map (fun d => d.parameters.length) = some 4 := ⟨by decide +kernel, by decide +kernel, by decide +kernel⟩
theorem pd_X11_pause : (yX11_pause).cls ≠ "java/lang/invoke/MethodHandle" ∧ (yX11_pause).cls ≠ "java/lang/invoke/VarHandle" ∧ (parseMethodDescriptor (yX11_pause).desc).map (fun d => d.parameters.length) = some 2 := ⟨by decide +kernel, by decide +kernel, by decide +kernel⟩
theorem pd_L_scale : (yL_scale).cls ≠ "java/lang/invoke/MethodHandle" ∧ (yL_scale).cls ≠ "java/lang/invoke/VarHandle" ∧ (parseMethodDescriptor (yL_scale).desc).map (fun d => d.parameters.length) = some 4 := ⟨by decide +kernel, by decide +kernel, by decide +kernel⟩
theorem pd_X11_scale : (yX11_scale).cls ≠ "java/lang/invoke/MethodHandle" ∧ (yX11_scale).cls ≠ "java/lang/invoke/VarHandle" ∧ (parseMethodDescriptor (yX11_scale).desc).map (fun d => d.parameters.length) = some 2 := ⟨by decide +kernel, by decide +kernel, by decide +kernel⟩
theorem pd_L_input : (yL_input).cls ≠ "java/lang/invoke/MethodHandle" ∧ (yL_input).cls ≠ "java/lang/invoke/VarHandle" ∧ (parseMethodDescriptor (yL_input).desc).map (fun d => d.parameters.length) = some 4 := ⟨by decide +kernel, by decide +kernel, by decide +kernel⟩
theorem pd_X11_input : (yX11_input).cls ≠ "java/lang/invoke/MethodHandle" ∧ (yX11_input).cls ≠ "java/lang/invoke/VarHandle" ∧ (parseMethodDescriptor (yX11_input).desc).map (fun d => d.parameters.length) = some 2 := ⟨by decide +kernel, by decide +kernel, by decide +kernel⟩
theorem pd_L_send : (yL_send).cls ≠ "java/lang/invoke/MethodHandle" ∧ (yL_send).cls ≠ "java/lang/invoke/VarHandle" ∧ (parseMethodDescriptor (yL_send).desc).map (fun d => d.parameters.length) = some 3 := ⟨by decide +kernel, by decide +kernel, by decide +kernel⟩
theorem pd_X11_send : (yX11_send).cls ≠ "java/lang/invoke/MethodHandle" ∧ (yX11_send).cls ≠ "java/lang/invoke/VarHandle" ∧ (parseMethodDescriptor (yX11_send).desc).map (fun d => d.parameters.length) = some 1 := ⟨by decide +kernel, by decide +kernel, by decide +kernel⟩
theorem pd_L_tick : (yL_tick).cls ≠ "java/lang/invoke/MethodHandle" ∧ (yL_tick).cls ≠ "java/lang/invoke/VarHandle" ∧ (parseMethodDescriptor (yL_tick).desc).map (fun d => d.parameters.length) = some 3 := ⟨by decide +kernel, by decide +kernel, by decide +kernel⟩
theorem pd_X11_tick : (yX11_tick).cls ≠ "java/lang/invoke/MethodHandle" ∧ (yX11_tick).cls ≠ "java/lang/invoke/VarHandle" ∧ (parseMethodDescriptor (yX11_tick).desc).map (fun d => d.parameters.length) = some 1 := ⟨by decide +kernel, by decide +kernel, by decide +kernel⟩
theorem pd_L_share : (yL_share).cls ≠ "java/lang/invoke/MethodHandle" ∧ (yL_share).cls ≠ "java/lang/invoke/VarHandle" ∧ (parseMethodDescriptor (yL_share).desc).map (fun d => d.parameters.length) = some 3 := ⟨by decide +kernel, by decide +kernel, by decide +kernel⟩
theorem pd_X11_share : (yX11_share).cls ≠ "java/lang/invoke/MethodHandle" ∧ (yX11_share).cls ≠ "java/lang/invoke/VarHandle" ∧ (parseMethodDescriptor (yX11_share).desc).map (fun d => d.parameters.length) = some 1 := ⟨by decide +kernel, by decide +kernel, by decide +kernel⟩
theorem pd_L_move : (yL_move).cls ≠ "java/lang/invoke/MethodHandle" ∧ (yL_move).cls ≠ "java/lang/invoke/VarHandle" ∧ (parseMethodDescriptor (yL_move).desc).map (fun d => d.parameters.length) = some 3 := ⟨by decide +kernel, by decide +kernel, by decide +kernel⟩
theorem pd_X11_move : (yX11_move).cls ≠ "java/lang/invoke/MethodHandle" ∧ (yX11_move).cls ≠ "java/lang/invoke/VarHandle" ∧ (parseMethodDescriptor (yX11_move).desc).map (fun d => d.parameters.length) = some 1 := ⟨by decide +kernel, by decide +kernel, by decide +kernel⟩
theorem pd_L_round : (yL_round).cls ≠ "java/lang/invoke/MethodHandle" ∧ (yL_round).cls ≠ "java/lang/invoke/VarHandle" ∧ (parseMethodDescriptor (yL_round).desc).map (fun d => d.parameters.length) = some 4 := ⟨by decide +kernel, by decide +kernel, by decide +kernel⟩
theorem pd_X11_round : (yX11_round).cls ≠ "java/lang/invoke/MethodHandle" ∧ (yX11_round).cls ≠ "java/lang/invoke/VarHandle" ∧ (parseMethodDescriptor (yX11_round).desc).map (fun d => d.parameters.length) = some 2 := ⟨by decide +kernel, by decide +kernel, by decide +kernel⟩
theorem pd_L_land : (yL_land).cls ≠ "java/lang/invoke/MethodHandle" ∧ (yL_land).cls ≠ "java/lang/invoke/VarHandle" ∧ (parseMethodDescriptor (yL_land).desc).map (fun d => d.parameters.length) = some 4 := ⟨by decide +kernel, by decide +kernel, by decide +kernel⟩
theorem pd_X11_land : (yX11_land).cls ≠ "java/lang/invoke/MethodHandle" ∧ (yX11_land).cls ≠ "java/lang/invoke/VarHandle" ∧ (parseMethodDescriptor (yX11_land).desc).map (fun d => d.parameters.length) = some 2 := ⟨by decide +kernel, by decide +kernel, by decide +kernel⟩
theorem pd_L_snapshot : (yL_snapshot).cls ≠ "java/lang/invoke/MethodHandle" ∧ (yL_snapshot).cls ≠ "java/lang/invoke/VarHandle" ∧ (parseMethodDescriptor (yL_snapshot).desc).map (fun d => d.parameters.length) = some 3 := ⟨by decide +kernel, by decide +kernel, by decide +kernel⟩
theorem pd_X11_snapshot : (yX11_snapshot).cls ≠ "java/lang/invoke/MethodHandle" ∧ (yX11_snapshot).cls ≠ "java/lang/invoke/VarHandle" ∧ (parseMethodDescriptor (yX11_snapshot).desc).map (fun d => d.parameters.length) = some 1 := ⟨by decide +kernel, by decide +kernel, by decide +kernel⟩
theorem pd_L_restore : (yL_restore).cls ≠ "java/lang/invoke/MethodHandle" ∧ (yL_restore).cls ≠ "java/lang/invoke/VarHandle" ∧ (parseMethodDescriptor (yL_restore).desc).map (fun d => d.parameters.length) = some 4 := ⟨by decide +kernel, by decide +kernel, by decide +kernel⟩
theorem pd_X11_restore : (yX11_restore).cls ≠ "java/lang/invoke/MethodHandle" ∧ (yX11_restore).cls ≠ "java/lang/invoke/VarHandle" ∧ (parseMethodDescriptor (yX11_restore).desc).map (fun d => d.parameters.length) = some 2 := ⟨by decide +kernel, by decide +kernel, by decide +kernel⟩
theorem pd_L_follow : (yL_follow).cls ≠ "java/lang/invoke/MethodHandle" ∧ (yL_follow).cls ≠ "java/lang/invoke/VarHandle" ∧ (parseMethodDescriptor (yL_follow).desc).map (fun d => d.parameters.length) = some 4 := ⟨by decide +kernel, by decide +kernel, by decide +kernel⟩
theorem pd_X11_follow : (yX11_follow).cls ≠ "java/lang/invoke/MethodHandle" ∧ (yX11_follow).cls ≠ "java/lang/invoke/VarHandle" ∧ (parseMethodDescriptor (yX11_follow).desc).map (fun d => d.parameters.length) = some 2 := ⟨by decide +kernel, by decide +kernel, by decide +kernel⟩
theorem pd_L_step : (yL_step).cls ≠ "java/lang/invoke/MethodHandle" ∧ (yL_step).cls ≠ "java/lang/invoke/VarHandle" ∧ (parseMethodDescriptor (yL_step).desc).map (fun d => d.parameters.length) = some 3 := ⟨by decide +kernel, by decide +kernel, by decide +kernel⟩
theorem pd_X11_step : (yX11_step).cls ≠ "java/lang/invoke/MethodHandle" ∧ (yX11_step).cls ≠ "java/lang/invoke/VarHandle" ∧ (parseMethodDescriptor (yX11_step).desc).map (fun d => d.parameters.length) = some 1 := ⟨by decide +kernel, by decide +kernel, by decide +kernel⟩
theorem pd_L_fail : (yL_fail).cls ≠ "java/lang/invoke/MethodHandle" ∧ (yL_fail).cls ≠ "java/lang/invoke/VarHandle" ∧ (parseMethodDescriptor (yL_fail).desc).map (fun d => d.parameters.length) = some 3 := ⟨by decide +kernel, by decide +kernel, by decide +kernel⟩
theorem pd_X11_fail : (yX11_fail).cls ≠ "java/lang/invoke/MethodHandle" ∧ (yX11_fail).cls ≠ "java/lang/invoke/VarHandle" ∧ (parseMethodDescriptor (yX11_fail).desc).map (fun d => d.parameters.length) = some 1 := ⟨by decide +kernel, by decide +kernel, by decide +kernel⟩
theorem pd_L_mend : (yL_mend).cls ≠ "java/lang/invoke/MethodHandle" ∧ (yL_mend).cls ≠ "java/lang/invoke/VarHandle" ∧ (parseMethodDescriptor (yL_mend).desc).map (fun d => d.parameters.length) = some 2 := ⟨by decide +kernel, by decide +kernel, by decide +kernel⟩
theorem pd_X11_mend : (yX11_mend).cls ≠ "java/lang/invoke/MethodHandle" ∧ (yX11_mend).cls ≠ "java/lang/invoke/VarHandle" ∧ (parseMethodDescriptor (yX11_mend).desc).map (fun d => d.parameters.length) = some 1 := ⟨by decide +kernel, by decide +kernel, by decide +kernel⟩
theorem pd_X10_time : (yX10_time).cls ≠ "java/lang/invoke/MethodHandle" ∧ (yX10_time).cls ≠ "java/lang/invoke/VarHandle" ∧ (parseMethodDescriptor (yX10_time).desc).map (fun d => d.parameters.length) = some 0 := ⟨by decide +kernel, by decide +kernel, by decide +kernel⟩
theorem pd_X11_time : (yX11_time).cls ≠ "java/lang/invoke/MethodHandle" ∧ (yX11_time).cls ≠ "java/lang/invoke/VarHandle" ∧ (parseMethodDescriptor (yX11_time).desc).map (fun d => d.parameters.length) = some 0 := ⟨by decide +kernel, by decide +kernel, by decide +kernel⟩
theorem pd_L_of : (yL_of).cls ≠ "java/lang/invoke/MethodHandle" ∧ (yL_of).cls ≠ "java/lang/invoke/VarHandle" ∧ (parseMethodDescriptor (yL_of).desc).map (fun d => d.parameters.length) = some 4 := ⟨by decide +kernel, by decide +kernel, by decide +kernel⟩
theorem pd_X11_of : (yX11_of).cls ≠ "java/lang/invoke/MethodHandle" ∧ (yX11_of).cls ≠ "java/lang/invoke/VarHandle" ∧ (parseMethodDescriptor (yX11_of).desc).map (fun d => d.parameters.length) = some 2 := ⟨by decide +kernel, by decide +kernel, by decide +kernel⟩
theorem pd_L_register : (yL_register).cls ≠ "java/lang/invoke/MethodHandle" ∧ (yL_register).cls ≠ "java/lang/invoke/VarHandle" ∧ (parseMethodDescriptor (yL_register).desc).map (fun d => d.parameters.length) = some 4 := ⟨by decide +kernel, by decide +kernel, by decide +kernel⟩
theorem pd_X11_register : (yX11_register).cls ≠ "java/lang/invoke/MethodHandle" ∧ (yX11_register).cls ≠ "java/lang/invoke/VarHandle" ∧ (parseMethodDescriptor (yX11_register).desc).map (fun d => d.parameters.length) = some 2 := ⟨by decide +kernel, by decide +kernel, by decide +kernel⟩
theorem pd_L_word : (yL_word).cls ≠ "java/lang/invoke/MethodHandle" ∧ (yL_word).cls ≠ "java/lang/invoke/VarHandle" ∧ (parseMethodDescriptor (yL_word).desc).map (fun d => d.parameters.length) = some 5 := ⟨by decide +kernel, by decide +kernel, by decide +kernel⟩
theorem pd_X11_word : (yX11_word).cls ≠ "java/lang/invoke/MethodHandle" ∧ (yX11_word).cls ≠ "java/lang/invoke/VarHandle" ∧ (parseMethodDescriptor (yX11_word).desc).map (fun d => d.parameters.length) = some 3 := ⟨by decide +kernel, by decide +kernel, by decide +kernel⟩
theorem pd_L_pageOf : (yL_pageOf).cls ≠ "java/lang/invoke/MethodHandle" ∧ (yL_pageOf).cls ≠ "java/lang/invoke/VarHandle" ∧ (parseMethodDescriptor (yL_pageOf).desc).map (fun d => d.parameters.length) = some 4 := ⟨by decide +kernel, by decide +kernel, by decide +kernel⟩
theorem pd_X11_pageOf : (yX11_pageOf).cls ≠ "java/lang/invoke/MethodHandle" ∧ (yX11_pageOf).cls ≠ "java/lang/invoke/VarHandle" ∧ (parseMethodDescriptor (yX11_pageOf).desc).map (fun d => d.parameters.length) = some 2 := ⟨by decide +kernel, by decide +kernel, by decide +kernel⟩
theorem pd_L_frameOf : (yL_frameOf).cls ≠ "java/lang/invoke/MethodHandle" ∧ (yL_frameOf).cls ≠ "java/lang/invoke/VarHandle" ∧ (parseMethodDescriptor (yL_frameOf).desc).map (fun d => d.parameters.length) = some 4 := ⟨by decide +kernel, by decide +kernel, by decide +kernel⟩
theorem pd_X11_frameOf : (yX11_frameOf).cls ≠ "java/lang/invoke/MethodHandle" ∧ (yX11_frameOf).cls ≠ "java/lang/invoke/VarHandle" ∧ (parseMethodDescriptor (yX11_frameOf).desc).map (fun d => d.parameters.length) = some 2 := ⟨by decide +kernel, by decide +kernel, by decide +kernel⟩
theorem pd_L_used : (yL_used).cls ≠ "java/lang/invoke/MethodHandle" ∧ (yL_used).cls ≠ "java/lang/invoke/VarHandle" ∧ (parseMethodDescriptor (yL_used).desc).map (fun d => d.parameters.length) = some 3 := ⟨by decide +kernel, by decide +kernel, by decide +kernel⟩
theorem pd_X11_used : (yX11_used).cls ≠ "java/lang/invoke/MethodHandle" ∧ (yX11_used).cls ≠ "java/lang/invoke/VarHandle" ∧ (parseMethodDescriptor (yX11_used).desc).map (fun d => d.parameters.length) = some 1 := ⟨by decide +kernel, by decide +kernel, by decide +kernel⟩
theorem pd_L_exits : (yL_exits).cls ≠ "java/lang/invoke/MethodHandle" ∧ (yL_exits).cls ≠ "java/lang/invoke/VarHandle" ∧ (parseMethodDescriptor (yL_exits).desc).map (fun d => d.parameters.length) = some 4 := ⟨by decide +kernel, by decide +kernel, by decide +kernel⟩
theorem pd_X11_exits : (yX11_exits).cls ≠ "java/lang/invoke/MethodHandle" ∧ (yX11_exits).cls ≠ "java/lang/invoke/VarHandle" ∧ (parseMethodDescriptor (yX11_exits).desc).map (fun d => d.parameters.length) = some 2 := ⟨by decide +kernel, by decide +kernel, by decide +kernel⟩
theorem pd_L_out : (yL_out).cls ≠ "java/lang/invoke/MethodHandle" ∧ (yL_out).cls ≠ "java/lang/invoke/VarHandle" ∧ (parseMethodDescriptor (yL_out).desc).map (fun d => d.parameters.length) = some 3 := ⟨by decide +kernel, by decide +kernel, by decide +kernel⟩
theorem pd_X11_out : (yX11_out).cls ≠ "java/lang/invoke/MethodHandle" ∧ (yX11_out).cls ≠ "java/lang/invoke/VarHandle" ∧ (parseMethodDescriptor (yX11_out).desc).map (fun d => d.parameters.length) = some 1 := ⟨by decide +kernel, by decide +kernel, by decide +kernel⟩
theorem pd_L_outAt : (yL_outAt).cls ≠ "java/lang/invoke/MethodHandle" ∧ (yL_outAt).cls ≠ "java/lang/invoke/VarHandle" ∧ (parseMethodDescriptor (yL_outAt).desc).map (fun d => d.parameters.length) = some 4 := ⟨by decide +kernel, by decide +kernel, by decide +kernel⟩
theorem pd_X11_outAt : (yX11_outAt).cls ≠ "java/lang/invoke/MethodHandle" ∧ (yX11_outAt).cls ≠ "java/lang/invoke/VarHandle" ∧ (parseMethodDescriptor (yX11_outAt).desc).map (fun d => d.parameters.length) = some 2 := ⟨by decide +kernel, by decide +kernel, by decide +kernel⟩
theorem pd_L_held : (yL_held).cls ≠ "java/lang/invoke/MethodHandle" ∧ (yL_held).cls ≠ "java/lang/invoke/VarHandle" ∧ (parseMethodDescriptor (yL_held).desc).map (fun d => d.parameters.length) = some 3 := ⟨by decide +kernel, by decide +kernel, by decide +kernel⟩
theorem pd_X11_held : (yX11_held).cls ≠ "java/lang/invoke/MethodHandle" ∧ (yX11_held).cls ≠ "java/lang/invoke/VarHandle" ∧ (parseMethodDescriptor (yX11_held).desc).map (fun d => d.parameters.length) = some 1 := ⟨by decide +kernel, by decide +kernel, by decide +kernel⟩
theorem pd_L_stored : (yL_stored).cls ≠ "java/lang/invoke/MethodHandle" ∧ (yL_stored).cls ≠ "java/lang/invoke/VarHandle" ∧ (parseMethodDescriptor (yL_stored).desc).map (fun d => d.parameters.length) = some 3 := ⟨by decide +kernel, by decide +kernel, by decide +kernel⟩
theorem pd_X11_stored : (yX11_stored).cls ≠ "java/lang/invoke/MethodHandle" ∧ (yX11_stored).cls ≠ "java/lang/invoke/VarHandle" ∧ (parseMethodDescriptor (yX11_stored).desc).map (fun d => d.parameters.length) = some 1 := ⟨by decide +kernel, by decide +kernel, by decide +kernel⟩
theorem pd_L_isAsPlain : (yL_isAsPlain).cls ≠ "java/lang/invoke/MethodHandle" ∧ (yL_isAsPlain).cls ≠ "java/lang/invoke/VarHandle" ∧ (parseMethodDescriptor (yL_isAsPlain).desc).map (fun d => d.parameters.length) = some 3 := ⟨by decide +kernel, by decide +kernel, by decide +kernel⟩
theorem pd_X11_isAsPlain : (yX11_isAsPlain).cls ≠ "java/lang/invoke/MethodHandle" ∧ (yX11_isAsPlain).cls ≠ "java/lang/invoke/VarHandle" ∧ (parseMethodDescriptor (yX11_isAsPlain).desc).map (fun d => d.parameters.length) = some 1 := ⟨by decide +kernel, by decide +kernel, by decide +kernel⟩
/-- the law's locals: the script, the class's object, the reference, the answers' row, where it stands -/
abbrev lvL (b : Nat) (i : Int32) : List (Nat × AV) := [(0, .inl (.ref b)), (1, .inr (some (4, 0, 0))), (2, .inr (some (5, 0, 0))), (3, .inr (some (6, 0, 0))), (4, .inl (.int i))]
/-- what exists at each of the law's steps -/
def OKE (E : EE) : Prop := PC 10 E 4 0 0 ∧ PC 11 E 5 0 0 ∧ liveC E 6 0 0 = true ∧ E.2.2.2.1 = 1 ∧ rawN E
noncomputable def lw_guest (E : EE) (κ : K) (a1 a2 a3 : Int32) : Option (EE × K) := match f_X10_guest E κ a1 a2 a3 with
  | none => none
  | some ((E1, κ1), rs) => gdp (OKE E1 ∧ ∀ e, rs = .inr e → e ∈ ([1, 2, 3] : List Nat)) <| match f_X11_guest E1 (lwS κ1 rs) a1 a2 a3 with
    | none => none
    | some (κ2, c) => gdp ((∀ e, rs = .inr e → e ∈ ([1, 2, 3] : List Nat)) ∧ kV κ2 5 0 0 0 = lwC [1, 2, 3] rs ∧ ∀ r, rs = .inl r → kV κ2 6 0 0 0 = c) (some (E1, κ2))
set_option maxHeartbeats 4000000 in
set_option maxRecDepth 100000 in
theorem w_law_guest {l0 : Launch} (hfl : l0.stackTraces = false) {X : MX} {B : BX (EE × K)} {g : GP} (O : CK l0 X B g cL_law RL 12 462) (hKP : ∀ E, KPok B E) (hmL : B.2.2.2.1 = 7) {b L : Nat} {xs : Nat → Int32} (hs : B.2.2.2.2.2.2.2.2 X → LWX b L xs B.2.2.1 X) {n : Nat} (hn : n + 4 < L) (hL : L ≤ 2560) {E : EE} {κ : K} (hO : OKE E) {x' : EE × K} (h : lw_guest E κ (xs (n + 1)) (xs (n + 2)) (bI (xs (n + 3))) = some x') (kk : J X B x' 2121 (lvL b (nI n)) []) : J X B (E, κ) 172 (lvL b (nI n)) [] := by
  obtain ⟨h0, h5, h6, hH, hRN⟩ := hO
  have hS : Stab E (.inr (some (6, 0, 0))) := ⟨h6, by decide⟩
  unfold lw_guest at h
  cases hf : f_X10_guest E κ (xs (n + 1)) (xs (n + 2)) (bI (xs (n + 3))) with
  | none => rw [hf] at h; cases h
  | some q =>
    obtain ⟨⟨E1, κ1⟩, rs⟩ := q
    rw [hf] at h
    dsimp only at h
    obtain ⟨⟨⟨g0, g5, g6, gH, gRN⟩, he⟩, h⟩ := gdp_some h
    have gS : Stab E1 (.inr (some (6, 0, 0))) := ⟨g6, by decide⟩
    cases hm : f_X11_guest E1 (lwS κ1 rs) (xs (n + 1)) (xs (n + 2)) (bI (xs (n + 3))) with
    | none => rw [hm] at h; cases h
    | some q =>
      obtain ⟨κ2, c⟩ := q
      rw [hm] at h
      dsimp only at h
      obtain ⟨⟨-, hth, hc⟩, h⟩ := gdp_some h
      cases h
      refine J_aload_n O.mo dL_law_172 1 rfl ?_
      refine J_arg O hs (n := n) (k := 1) (by omega) hL (by decide) (q0 := 0) (q4 := 4) rfl rfl dL_law_173 dL_law_174 dL_law_176 dL_law_177 dL_law_178 ?_
      refine J_arg O hs (n := n) (k := 2) (by omega) hL (by decide) (q0 := 0) (q4 := 4) rfl rfl dL_law_179 dL_law_180 dL_law_182 dL_law_183 dL_law_184 ?_
      refine J_argB O hs (n := n) (k := 3) (by omega) hL (by decide) (q0 := 0) (q4 := 4) rfl rfl dL_law_185 dL_law_186 dL_law_188 dL_law_189 dL_law_190 dL_law_191 dL_law_194 dL_law_195 dL_law_198 ?_
      refine J_aload_n O.mo dL_law_199 3 rfl ?_
      refine J_callSW O (hKP _) (as := [.inr (some (4, 0, 0)), .inl (.int (xs (n + 1))), .inl (.int (xs (n + 2))), .inl (.int (bI (xs (n + 3)))), .inr (some (6, 0, 0))]) (rest := []) (r := some (.inl (.int (lwC [1, 2, 3] rs)))) (c_L_guest hfl h0 h6 g6 hH hRN (bI_01 _) hf he) rfl mw943 mw944 mw945 mw946 pd_L_guest rfl (by decide) rfl (Nat.le_of_ble_eq_true rfl) (sl_v (sl_p (s10_0 h0) (sl_p (s11_0 h5) (sl_p hS (sl_v sl_0))))) st_0 dL_law_200 ?_
      change J X B (E1, (lwS κ1 rs)) 203 (lvL b (nI n)) [.inl (.int (lwC [1, 2, 3] rs))]
      refine J_istore O.mo (lv' := lvL b (nI n)) dL_law_203 (by rw [hmL]; decide) rfl rfl ?_
      refine J_aload_n O.mo dL_law_205 3 rfl ?_
      refine J_arg O hs (n := n) (k := 1) (by omega) hL (by decide) (q0 := 1) (q4 := 5) rfl rfl dL_law_206 dL_law_207 dL_law_209 dL_law_210 dL_law_211 ?_
      refine J_arg O hs (n := n) (k := 2) (by omega) hL (by decide) (q0 := 1) (q4 := 5) rfl rfl dL_law_212 dL_law_213 dL_law_215 dL_law_216 dL_law_217 ?_
      refine J_argB O hs (n := n) (k := 3) (by omega) hL (by decide) (q0 := 1) (q4 := 5) rfl rfl dL_law_218 dL_law_219 dL_law_221 dL_law_222 dL_law_223 dL_law_224 dL_law_227 dL_law_228 dL_law_231 ?_
      refine J_callV O (hKP _) (as := [.inl (.int (xs (n + 1))), .inl (.int (xs (n + 2))), .inl (.int (bI (xs (n + 3))))]) (rest := []) (r := some (.inl (.int c))) (c_X11_guest hfl g5 hm) rfl (kd0 := 11) (k11_0 g5) (l11_0 g5) (T := TX11) (N := 42) rfl (by decide) mw947 mw948 mw949 mw517 mw950 pd_X11_guest rfl (by decide) rfl (Nat.le_of_ble_eq_true rfl) (sl_v (sl_v (sl_p (s10_0 g0) (sl_p (s11_0 g5) (sl_p gS (sl_v sl_0)))))) st_0 dL_law_232 ?_
      change J X B (E1, κ2) 235 ((5, .inl (.int (lwC [1, 2, 3] rs))) :: lvL b (nI n)) [.inl (.int c)]
      refine J_istore O.mo (lv' := ((5, .inl (.int (lwC [1, 2, 3] rs))) :: lvL b (nI n))) dL_law_235 (by rw [hmL]; decide) rfl rfl ?_
      refine J_aload_n O.mo dL_law_237 4 rfl ?_
      refine J_callV O (hKP _) (as := []) (rest := []) (r := some (.inl (.int (kV κ2 5 0 0 0)))) (c_X11_thrown hfl g5 rfl) rfl (kd0 := 11) (k11_0 g5) (l11_0 g5) (T := TX11) (N := 42) rfl (by decide) mw951 mw952 mw953 mw517 mw954 pd_X11_thrown rfl (by decide) rfl (Nat.le_of_ble_eq_true rfl) (sl_v (sl_v (sl_v (sl_p (s10_0 g0) (sl_p (s11_0 g5) (sl_p gS (sl_v sl_0))))))) st_0 dL_law_238 ?_
      change J X B (E1, κ2) 241 ((6, .inl (.int c)) :: (5, .inl (.int (lwC [1, 2, 3] rs))) :: lvL b (nI n)) [.inl (.int (kV κ2 5 0 0 0))]
      rw [hth]
      refine J_iload O.mo dL_law_241 1 rfl ?_
      refine J_icmp_eq O.mo (tgt := 248) dL_law_243 (by decide) (fun _ => ?_) (fun hz => absurd rfl hz)
      refine J_iload O.mo dL_law_248 1 rfl ?_
      refine J_if_ne O.mo (tgt := 265) dL_law_250 (by decide) (fun _ => ?_) (fun hz => ?_)
      · refine J_goto O.mo (tgt := 2121) dL_law_265 (by decide) ?_
        exact J_sub [2, 3, 4, 5, 6] rfl kk
      · cases rs with
        | inr e =>
          exfalso
          have he1 := he e rfl
          simp only [List.mem_cons, List.not_mem_nil, or_false] at he1
          rcases he1 with rfl | rfl | rfl <;> exact absurd hz (by decide)
        | inl r =>
          refine J_aload_n O.mo dL_law_253 5 rfl ?_
          refine J_iconst O.mo (v := 0) dL_law_254 (by decide) ?_
          refine J_lald O g6 rfl vp00 (kj := 0) (by decide) dL_law_255 ?_
          rw [hc r rfl]
          refine J_iload O.mo dL_law_256 0 rfl ?_
          refine J_i2l O.mo dL_law_258 ?_
          refine J_lcmp O.mo dL_law_259 ?_
          rw [lg_cmp_self]
          refine J_if_eq O.mo (tgt := 265) dL_law_260 (by decide) (fun _ => ?_) (fun hz => absurd rfl hz)
          refine J_goto O.mo (tgt := 2121) dL_law_265 (by decide) ?_
          exact J_sub [2, 3, 4, 5, 6] rfl kk
noncomputable def lw_instruct (E : EE) (κ : K) (a1 a2 a3 a4 : Int32) : Option (EE × K) := match f_X10_instruct E κ a1 a2 a3 a4 with
  | none => none
  | some (κ1, rs) => match f_X11_instruct E (lwS κ1 rs) a1 a2 a3 a4 with
    | none => none
    | some (κ2, c) => gdp ((∀ e, rs = .inr e → e ∈ ([1, 2, 3] : List Nat)) ∧ kV κ2 5 0 0 0 = lwC [1, 2, 3] rs ∧ ∀ r, rs = .inl r → kV κ2 6 0 0 0 = c) (some (E, κ2))
set_option maxHeartbeats 4000000 in
set_option maxRecDepth 100000 in
theorem w_law_instruct {l0 : Launch} (hfl : l0.stackTraces = false) {X : MX} {B : BX (EE × K)} {g : GP} (O : CK l0 X B g cL_law RL 12 462) (hKP : ∀ E, KPok B E) (hmL : B.2.2.2.1 = 7) {b L : Nat} {xs : Nat → Int32} (hs : B.2.2.2.2.2.2.2.2 X → LWX b L xs B.2.2.1 X) {n : Nat} (hn : n + 4 < L) (hL : L ≤ 2560) {E : EE} {κ : K} (hO : OKE E) {x' : EE × K} (h : lw_instruct E κ (xs (n + 1)) (xs (n + 2)) (xs (n + 3)) (xs (n + 4)) = some x') (kk : J X B x' 2121 (lvL b (nI n)) []) : J X B (E, κ) 268 (lvL b (nI n)) [] := by
  obtain ⟨h0, h5, h6, hH, hRN⟩ := hO
  have hS : Stab E (.inr (some (6, 0, 0))) := ⟨h6, by decide⟩
  unfold lw_instruct at h
  cases hf : f_X10_instruct E κ (xs (n + 1)) (xs (n + 2)) (xs (n + 3)) (xs (n + 4)) with
  | none => rw [hf] at h; cases h
  | some q =>
    obtain ⟨κ1, rs⟩ := q
    rw [hf] at h
    dsimp only at h
    cases hm : f_X11_instruct E (lwS κ1 rs) (xs (n + 1)) (xs (n + 2)) (xs (n + 3)) (xs (n + 4)) with
    | none => rw [hm] at h; cases h
    | some q =>
      obtain ⟨κ2, c⟩ := q
      rw [hm] at h
      dsimp only at h
      obtain ⟨⟨he, hth, hc⟩, h⟩ := gdp_some h
      cases h
      refine J_aload_n O.mo dL_law_268 1 rfl ?_
      refine J_arg O hs (n := n) (k := 1) (by omega) hL (by decide) (q0 := 0) (q4 := 4) rfl rfl dL_law_269 dL_law_270 dL_law_272 dL_law_273 dL_law_274 ?_
      refine J_arg O hs (n := n) (k := 2) (by omega) hL (by decide) (q0 := 0) (q4 := 4) rfl rfl dL_law_275 dL_law_276 dL_law_278 dL_law_279 dL_law_280 ?_
      refine J_arg O hs (n := n) (k := 3) (by omega) hL (by decide) (q0 := 0) (q4 := 4) rfl rfl dL_law_281 dL_law_282 dL_law_284 dL_law_285 dL_law_286 ?_
      refine J_arg O hs (n := n) (k := 4) (by omega) hL (by decide) (q0 := 0) (q4 := 4) rfl rfl dL_law_287 dL_law_288 dL_law_290 dL_law_291 dL_law_292 ?_
      refine J_aload_n O.mo dL_law_293 3 rfl ?_
      refine J_callSW O (hKP _) (as := [.inr (some (4, 0, 0)), .inl (.int (xs (n + 1))), .inl (.int (xs (n + 2))), .inl (.int (xs (n + 3))), .inl (.int (xs (n + 4))), .inr (some (6, 0, 0))]) (rest := []) (r := some (.inl (.int (lwC [1, 2, 3] rs)))) (c_L_instruct hfl h0 h6 hf he) rfl mw955 mw956 mw945 mw957 pd_L_instruct rfl (by decide) rfl (Nat.le_of_ble_eq_true rfl) (sl_v (sl_p (s10_0 h0) (sl_p (s11_0 h5) (sl_p hS (sl_v sl_0))))) st_0 dL_law_294 ?_
      change J X B (E, (lwS κ1 rs)) 297 (lvL b (nI n)) [.inl (.int (lwC [1, 2, 3] rs))]
      refine J_istore O.mo (lv' := lvL b (nI n)) dL_law_297 (by rw [hmL]; decide) rfl rfl ?_
      refine J_aload_n O.mo dL_law_299 3 rfl ?_
      refine J_arg O hs (n := n) (k := 1) (by omega) hL (by decide) (q0 := 1) (q4 := 5) rfl rfl dL_law_300 dL_law_301 dL_law_303 dL_law_304 dL_law_305 ?_
      refine J_arg O hs (n := n) (k := 2) (by omega) hL (by decide) (q0 := 1) (q4 := 5) rfl rfl dL_law_306 dL_law_307 dL_law_309 dL_law_310 dL_law_311 ?_
      refine J_arg O hs (n := n) (k := 3) (by omega) hL (by decide) (q0 := 1) (q4 := 5) rfl rfl dL_law_312 dL_law_313 dL_law_315 dL_law_316 dL_law_317 ?_
      refine J_arg O hs (n := n) (k := 4) (by omega) hL (by decide) (q0 := 1) (q4 := 5) rfl rfl dL_law_318 dL_law_319 dL_law_321 dL_law_322 dL_law_323 ?_
      refine J_callV O (hKP _) (as := [.inl (.int (xs (n + 1))), .inl (.int (xs (n + 2))), .inl (.int (xs (n + 3))), .inl (.int (xs (n + 4)))]) (rest := []) (r := some (.inl (.int c))) (c_X11_instruct hfl h5 hm) rfl (kd0 := 11) (k11_0 h5) (l11_0 h5) (T := TX11) (N := 42) rfl (by decide) mw958 mw959 mw960 mw517 mw961 pd_X11_instruct rfl (by decide) rfl (Nat.le_of_ble_eq_true rfl) (sl_v (sl_v (sl_p (s10_0 h0) (sl_p (s11_0 h5) (sl_p hS (sl_v sl_0)))))) st_0 dL_law_324 ?_
      change J X B (E, κ2) 327 ((5, .inl (.int (lwC [1, 2, 3] rs))) :: lvL b (nI n)) [.inl (.int c)]
      refine J_istore O.mo (lv' := ((5, .inl (.int (lwC [1, 2, 3] rs))) :: lvL b (nI n))) dL_law_327 (by rw [hmL]; decide) rfl rfl ?_
      refine J_aload_n O.mo dL_law_329 4 rfl ?_
      refine J_callV O (hKP _) (as := []) (rest := []) (r := some (.inl (.int (kV κ2 5 0 0 0)))) (c_X11_thrown hfl h5 rfl) rfl (kd0 := 11) (k11_0 h5) (l11_0 h5) (T := TX11) (N := 42) rfl (by decide) mw951 mw952 mw953 mw517 mw954 pd_X11_thrown rfl (by decide) rfl (Nat.le_of_ble_eq_true rfl) (sl_v (sl_v (sl_v (sl_p (s10_0 h0) (sl_p (s11_0 h5) (sl_p hS (sl_v sl_0))))))) st_0 dL_law_330 ?_
      change J X B (E, κ2) 333 ((6, .inl (.int c)) :: (5, .inl (.int (lwC [1, 2, 3] rs))) :: lvL b (nI n)) [.inl (.int (kV κ2 5 0 0 0))]
      rw [hth]
      refine J_iload O.mo dL_law_333 1 rfl ?_
      refine J_icmp_eq O.mo (tgt := 340) dL_law_335 (by decide) (fun _ => ?_) (fun hz => absurd rfl hz)
      refine J_iload O.mo dL_law_340 1 rfl ?_
      refine J_if_ne O.mo (tgt := 357) dL_law_342 (by decide) (fun _ => ?_) (fun hz => ?_)
      · refine J_goto O.mo (tgt := 2121) dL_law_357 (by decide) ?_
        exact J_sub [2, 3, 4, 5, 6] rfl kk
      · cases rs with
        | inr e =>
          exfalso
          have he1 := he e rfl
          simp only [List.mem_cons, List.not_mem_nil, or_false] at he1
          rcases he1 with rfl | rfl | rfl <;> exact absurd hz (by decide)
        | inl r =>
          refine J_aload_n O.mo dL_law_345 5 rfl ?_
          refine J_iconst O.mo (v := 0) dL_law_346 (by decide) ?_
          refine J_lald O h6 rfl vp00 (kj := 0) (by decide) dL_law_347 ?_
          rw [hc r rfl]
          refine J_iload O.mo dL_law_348 0 rfl ?_
          refine J_i2l O.mo dL_law_350 ?_
          refine J_lcmp O.mo dL_law_351 ?_
          rw [lg_cmp_self]
          refine J_if_eq O.mo (tgt := 357) dL_law_352 (by decide) (fun _ => ?_) (fun hz => absurd rfl hz)
          refine J_goto O.mo (tgt := 2121) dL_law_357 (by decide) ?_
          exact J_sub [2, 3, 4, 5, 6] rfl kk
noncomputable def lw_pause (E : EE) (κ : K) (a1 a2 : Int32) : Option (EE × K) := match f_X10_pause E κ a1 a2 with
  | none => none
  | some (κ1, rs) => match f_X11_pause E (lwB κ1 rs) a1 a2 with
    | none => none
    | some (κ2, c) => gdp ((∀ e, rs = .inr e → e ∈ ([1] : List Nat)) ∧ kV κ2 5 0 0 0 = lwC [1] rs ∧ ∀ r, rs = .inl r → kV κ2 6 0 0 0 = bI c) (some (E, κ2))
set_option maxHeartbeats 4000000 in
set_option maxRecDepth 100000 in
theorem w_law_pause {l0 : Launch} (hfl : l0.stackTraces = false) {X : MX} {B : BX (EE × K)} {g : GP} (O : CK l0 X B g cL_law RL 12 462) (hKP : ∀ E, KPok B E) (hmL : B.2.2.2.1 = 7) {b L : Nat} {xs : Nat → Int32} (hs : B.2.2.2.2.2.2.2.2 X → LWX b L xs B.2.2.1 X) {n : Nat} (hn : n + 4 < L) (hL : L ≤ 2560) {E : EE} {κ : K} (hO : OKE E) {x' : EE × K} (h : lw_pause E κ (xs (n + 1)) (bI (xs (n + 2))) = some x') (kk : J X B x' 2121 (lvL b (nI n)) []) : J X B (E, κ) 360 (lvL b (nI n)) [] := by
  obtain ⟨h0, h5, h6, hH, hRN⟩ := hO
  have hS : Stab E (.inr (some (6, 0, 0))) := ⟨h6, by decide⟩
  unfold lw_pause at h
  cases hf : f_X10_pause E κ (xs (n + 1)) (bI (xs (n + 2))) with
  | none => rw [hf] at h; cases h
  | some q =>
    obtain ⟨κ1, rs⟩ := q
    rw [hf] at h
    dsimp only at h
    cases hm : f_X11_pause E (lwB κ1 rs) (xs (n + 1)) (bI (xs (n + 2))) with
    | none => rw [hm] at h; cases h
    | some q =>
      obtain ⟨κ2, c⟩ := q
      rw [hm] at h
      dsimp only at h
      obtain ⟨⟨he, hth, hc⟩, h⟩ := gdp_some h
      cases h
      refine J_aload_n O.mo dL_law_360 1 rfl ?_
      refine J_arg O hs (n := n) (k := 1) (by omega) hL (by decide) (q0 := 0) (q4 := 4) rfl rfl dL_law_361 dL_law_362 dL_law_364 dL_law_365 dL_law_366 ?_
      refine J_argB O hs (n := n) (k := 2) (by omega) hL (by decide) (q0 := 0) (q4 := 4) rfl rfl dL_law_367 dL_law_368 dL_law_370 dL_law_371 dL_law_372 dL_law_373 dL_law_376 dL_law_377 dL_law_380 ?_
      refine J_aload_n O.mo dL_law_381 3 rfl ?_
      refine J_callSW O (hKP _) (as := [.inr (some (4, 0, 0)), .inl (.int (xs (n + 1))), .inl (.int (bI (xs (n + 2)))), .inr (some (6, 0, 0))]) (rest := []) (r := some (.inl (.int (lwC [1] rs)))) (c_L_pause hfl h0 h6 hf he) rfl mw962 mw963 mw945 mw964 pd_L_pause rfl (by decide) rfl (Nat.le_of_ble_eq_true rfl) (sl_v (sl_p (s10_0 h0) (sl_p (s11_0 h5) (sl_p hS (sl_v sl_0))))) st_0 dL_law_382 ?_
      change J X B (E, (lwB κ1 rs)) 385 (lvL b (nI n)) [.inl (.int (lwC [1] rs))]
      refine J_istore O.mo (lv' := lvL b (nI n)) dL_law_385 (by rw [hmL]; decide) rfl rfl ?_
      refine J_aload_n O.mo dL_law_387 3 rfl ?_
      refine J_arg O hs (n := n) (k := 1) (by omega) hL (by decide) (q0 := 1) (q4 := 5) rfl rfl dL_law_388 dL_law_389 dL_law_391 dL_law_392 dL_law_393 ?_
      refine J_argB O hs (n := n) (k := 2) (by omega) hL (by decide) (q0 := 1) (q4 := 5) rfl rfl dL_law_394 dL_law_395 dL_law_397 dL_law_398 dL_law_399 dL_law_400 dL_law_403 dL_law_404 dL_law_407 ?_
      refine J_callV O (hKP _) (as := [.inl (.int (xs (n + 1))), .inl (.int (bI (xs (n + 2))))]) (rest := []) (r := some (.inl (.int c))) (c_X11_pause hfl h5 hm) rfl (kd0 := 11) (k11_0 h5) (l11_0 h5) (T := TX11) (N := 42) rfl (by decide) mw965 mw966 mw967 mw517 mw968 pd_X11_pause rfl (by decide) rfl (Nat.le_of_ble_eq_true rfl) (sl_v (sl_v (sl_p (s10_0 h0) (sl_p (s11_0 h5) (sl_p hS (sl_v sl_0)))))) st_0 dL_law_408 ?_
      change J X B (E, κ2) 411 ((5, .inl (.int (lwC [1] rs))) :: lvL b (nI n)) [.inl (.int c)]
      refine J_istore O.mo (lv' := ((5, .inl (.int (lwC [1] rs))) :: lvL b (nI n))) dL_law_411 (by rw [hmL]; decide) rfl rfl ?_
      refine J_aload_n O.mo dL_law_413 4 rfl ?_
      refine J_callV O (hKP _) (as := []) (rest := []) (r := some (.inl (.int (kV κ2 5 0 0 0)))) (c_X11_thrown hfl h5 rfl) rfl (kd0 := 11) (k11_0 h5) (l11_0 h5) (T := TX11) (N := 42) rfl (by decide) mw951 mw952 mw953 mw517 mw954 pd_X11_thrown rfl (by decide) rfl (Nat.le_of_ble_eq_true rfl) (sl_v (sl_v (sl_v (sl_p (s10_0 h0) (sl_p (s11_0 h5) (sl_p hS (sl_v sl_0))))))) st_0 dL_law_414 ?_
      change J X B (E, κ2) 417 ((6, .inl (.int c)) :: (5, .inl (.int (lwC [1] rs))) :: lvL b (nI n)) [.inl (.int (kV κ2 5 0 0 0))]
      rw [hth]
      refine J_iload O.mo dL_law_417 1 rfl ?_
      refine J_icmp_eq O.mo (tgt := 424) dL_law_419 (by decide) (fun _ => ?_) (fun hz => absurd rfl hz)
      refine J_iload O.mo dL_law_424 1 rfl ?_
      refine J_if_ne O.mo (tgt := 448) dL_law_426 (by decide) (fun _ => ?_) (fun hz => ?_)
      · refine J_goto O.mo (tgt := 2121) dL_law_448 (by decide) ?_
        exact J_sub [2, 3, 4, 5, 6] rfl kk
      · cases rs with
        | inr e =>
          exfalso
          have he1 := he e rfl
          simp only [List.mem_cons, List.not_mem_nil, or_false] at he1
          subst he1
          exact absurd hz (by decide)
        | inl r =>
          refine J_aload_n O.mo dL_law_429 5 rfl ?_
          refine J_iconst O.mo (v := 0) dL_law_430 (by decide) ?_
          refine J_lald O h6 rfl vp00 (kj := 0) (by decide) dL_law_431 ?_
          rw [hc r rfl]
          refine J_iload O.mo dL_law_432 0 rfl ?_
          refine J_if_eq O.mo (tgt := 441) dL_law_434 (by decide) (fun hb => ?_) (fun hb => ?_)
          · refine J_lconst O.mo (v := (bI c).toInt64) dL_law_441 (by rw [show bI c = 0 from if_pos hb]; decide) ?_
            refine J_lcmp O.mo dL_law_442 ?_
            rw [lg_cmp_self]
            refine J_if_eq O.mo (tgt := 448) dL_law_443 (by decide) (fun _ => ?_) (fun hz => absurd rfl hz)
            refine J_goto O.mo (tgt := 2121) dL_law_448 (by decide) ?_
            exact J_sub [2, 3, 4, 5, 6] rfl kk
          · refine J_lconst O.mo (v := (bI c).toInt64) dL_law_437 (by rw [show bI c = 1 from if_neg hb]; decide) ?_
            refine J_goto O.mo (tgt := 442) dL_law_438 (by decide) ?_
            refine J_lcmp O.mo dL_law_442 ?_
            rw [lg_cmp_self]
            refine J_if_eq O.mo (tgt := 448) dL_law_443 (by decide) (fun _ => ?_) (fun hz => absurd rfl hz)
            refine J_goto O.mo (tgt := 2121) dL_law_448 (by decide) ?_
            exact J_sub [2, 3, 4, 5, 6] rfl kk
noncomputable def lw_scale (E : EE) (κ : K) (a1 a2 : Int32) : Option (EE × K) := match f_X10_scale E κ a1 a2 with
  | none => none
  | some (κ1, rs) => match f_X11_scale E (lwS κ1 rs) a1 a2 with
    | none => none
    | some (κ2, c) => gdp ((∀ e, rs = .inr e → e ∈ ([1, 2] : List Nat)) ∧ kV κ2 5 0 0 0 = lwC [1, 2] rs ∧ ∀ r, rs = .inl r → kV κ2 6 0 0 0 = c) (some (E, κ2))
set_option maxHeartbeats 4000000 in
set_option maxRecDepth 100000 in
theorem w_law_scale {l0 : Launch} (hfl : l0.stackTraces = false) {X : MX} {B : BX (EE × K)} {g : GP} (O : CK l0 X B g cL_law RL 12 462) (hKP : ∀ E, KPok B E) (hmL : B.2.2.2.1 = 7) {b L : Nat} {xs : Nat → Int32} (hs : B.2.2.2.2.2.2.2.2 X → LWX b L xs B.2.2.1 X) {n : Nat} (hn : n + 4 < L) (hL : L ≤ 2560) {E : EE} {κ : K} (hO : OKE E) {x' : EE × K} (h : lw_scale E κ (xs (n + 1)) (xs (n + 2)) = some x') (kk : J X B x' 2121 (lvL b (nI n)) []) : J X B (E, κ) 451 (lvL b (nI n)) [] := by
  obtain ⟨h0, h5, h6, hH, hRN⟩ := hO
  have hS : Stab E (.inr (some (6, 0, 0))) := ⟨h6, by decide⟩
  unfold lw_scale at h
  cases hf : f_X10_scale E κ (xs (n + 1)) (xs (n + 2)) with
  | none => rw [hf] at h; cases h
  | some q =>
    obtain ⟨κ1, rs⟩ := q
    rw [hf] at h
    dsimp only at h
    cases hm : f_X11_scale E (lwS κ1 rs) (xs (n + 1)) (xs (n + 2)) with
    | none => rw [hm] at h; cases h
    | some q =>
      obtain ⟨κ2, c⟩ := q
      rw [hm] at h
      dsimp only at h
      obtain ⟨⟨he, hth, hc⟩, h⟩ := gdp_some h
      cases h
      refine J_aload_n O.mo dL_law_451 1 rfl ?_
      refine J_arg O hs (n := n) (k := 1) (by omega) hL (by decide) (q0 := 0) (q4 := 4) rfl rfl dL_law_452 dL_law_453 dL_law_455 dL_law_456 dL_law_457 ?_
      refine J_arg O hs (n := n) (k := 2) (by omega) hL (by decide) (q0 := 0) (q4 := 4) rfl rfl dL_law_458 dL_law_459 dL_law_461 dL_law_462 dL_law_463 ?_
      refine J_aload_n O.mo dL_law_464 3 rfl ?_
      refine J_callSW O (hKP _) (as := [.inr (some (4, 0, 0)), .inl (.int (xs (n + 1))), .inl (.int (xs (n + 2))), .inr (some (6, 0, 0))]) (rest := []) (r := some (.inl (.int (lwC [1, 2] rs)))) (c_L_scale hfl h0 h6 hf he) rfl mw969 mw970 mw945 mw971 pd_L_scale rfl (by decide) rfl (Nat.le_of_ble_eq_true rfl) (sl_v (sl_p (s10_0 h0) (sl_p (s11_0 h5) (sl_p hS (sl_v sl_0))))) st_0 dL_law_465 ?_
      change J X B (E, (lwS κ1 rs)) 468 (lvL b (nI n)) [.inl (.int (lwC [1, 2] rs))]
      refine J_istore O.mo (lv' := lvL b (nI n)) dL_law_468 (by rw [hmL]; decide) rfl rfl ?_
      refine J_aload_n O.mo dL_law_470 3 rfl ?_
      refine J_arg O hs (n := n) (k := 1) (by omega) hL (by decide) (q0 := 1) (q4 := 5) rfl rfl dL_law_471 dL_law_472 dL_law_474 dL_law_475 dL_law_476 ?_
      refine J_arg O hs (n := n) (k := 2) (by omega) hL (by decide) (q0 := 1) (q4 := 5) rfl rfl dL_law_477 dL_law_478 dL_law_480 dL_law_481 dL_law_482 ?_
      refine J_callV O (hKP _) (as := [.inl (.int (xs (n + 1))), .inl (.int (xs (n + 2)))]) (rest := []) (r := some (.inl (.int c))) (c_X11_scale hfl h5 hm) rfl (kd0 := 11) (k11_0 h5) (l11_0 h5) (T := TX11) (N := 42) rfl (by decide) mw972 mw973 mw974 mw517 mw975 pd_X11_scale rfl (by decide) rfl (Nat.le_of_ble_eq_true rfl) (sl_v (sl_v (sl_p (s10_0 h0) (sl_p (s11_0 h5) (sl_p hS (sl_v sl_0)))))) st_0 dL_law_483 ?_
      change J X B (E, κ2) 486 ((5, .inl (.int (lwC [1, 2] rs))) :: lvL b (nI n)) [.inl (.int c)]
      refine J_istore O.mo (lv' := ((5, .inl (.int (lwC [1, 2] rs))) :: lvL b (nI n))) dL_law_486 (by rw [hmL]; decide) rfl rfl ?_
      refine J_aload_n O.mo dL_law_488 4 rfl ?_
      refine J_callV O (hKP _) (as := []) (rest := []) (r := some (.inl (.int (kV κ2 5 0 0 0)))) (c_X11_thrown hfl h5 rfl) rfl (kd0 := 11) (k11_0 h5) (l11_0 h5) (T := TX11) (N := 42) rfl (by decide) mw951 mw952 mw953 mw517 mw954 pd_X11_thrown rfl (by decide) rfl (Nat.le_of_ble_eq_true rfl) (sl_v (sl_v (sl_v (sl_p (s10_0 h0) (sl_p (s11_0 h5) (sl_p hS (sl_v sl_0))))))) st_0 dL_law_489 ?_
      change J X B (E, κ2) 492 ((6, .inl (.int c)) :: (5, .inl (.int (lwC [1, 2] rs))) :: lvL b (nI n)) [.inl (.int (kV κ2 5 0 0 0))]
      rw [hth]
      refine J_iload O.mo dL_law_492 1 rfl ?_
      refine J_icmp_eq O.mo (tgt := 499) dL_law_494 (by decide) (fun _ => ?_) (fun hz => absurd rfl hz)
      refine J_iload O.mo dL_law_499 1 rfl ?_
      refine J_if_ne O.mo (tgt := 516) dL_law_501 (by decide) (fun _ => ?_) (fun hz => ?_)
      · refine J_goto O.mo (tgt := 2121) dL_law_516 (by decide) ?_
        exact J_sub [2, 3, 4, 5, 6] rfl kk
      · cases rs with
        | inr e =>
          exfalso
          have he1 := he e rfl
          simp only [List.mem_cons, List.not_mem_nil, or_false] at he1
          rcases he1 with rfl | rfl <;> exact absurd hz (by decide)
        | inl r =>
          refine J_aload_n O.mo dL_law_504 5 rfl ?_
          refine J_iconst O.mo (v := 0) dL_law_505 (by decide) ?_
          refine J_lald O h6 rfl vp00 (kj := 0) (by decide) dL_law_506 ?_
          rw [hc r rfl]
          refine J_iload O.mo dL_law_507 0 rfl ?_
          refine J_i2l O.mo dL_law_509 ?_
          refine J_lcmp O.mo dL_law_510 ?_
          rw [lg_cmp_self]
          refine J_if_eq O.mo (tgt := 516) dL_law_511 (by decide) (fun _ => ?_) (fun hz => absurd rfl hz)
          refine J_goto O.mo (tgt := 2121) dL_law_516 (by decide) ?_
          exact J_sub [2, 3, 4, 5, 6] rfl kk
noncomputable def lw_input (E : EE) (κ : K) (a1 a2 : Int32) : Option (EE × K) := match f_X10_input E κ a1 a2 with
  | none => none
  | some (κ1, rs) => match f_X11_input E (lwS κ1 rs) a1 a2 with
    | none => none
    | some (κ2, c) => gdp ((∀ e, rs = .inr e → e ∈ ([1, 2, 3] : List Nat)) ∧ kV κ2 5 0 0 0 = lwC [1, 2, 3] rs ∧ ∀ r, rs = .inl r → kV κ2 6 0 0 0 = c) (some (E, κ2))
set_option maxHeartbeats 4000000 in
set_option maxRecDepth 100000 in
theorem w_law_input {l0 : Launch} (hfl : l0.stackTraces = false) {X : MX} {B : BX (EE × K)} {g : GP} (O : CK l0 X B g cL_law RL 12 462) (hKP : ∀ E, KPok B E) (hmL : B.2.2.2.1 = 7) {b L : Nat} {xs : Nat → Int32} (hs : B.2.2.2.2.2.2.2.2 X → LWX b L xs B.2.2.1 X) {n : Nat} (hn : n + 4 < L) (hL : L ≤ 2560) {E : EE} {κ : K} (hO : OKE E) {x' : EE × K} (h : lw_input E κ (xs (n + 1)) (xs (n + 2)) = some x') (kk : J X B x' 2121 (lvL b (nI n)) []) : J X B (E, κ) 519 (lvL b (nI n)) [] := by
  obtain ⟨h0, h5, h6, hH, hRN⟩ := hO
  have hS : Stab E (.inr (some (6, 0, 0))) := ⟨h6, by decide⟩
  unfold lw_input at h
  cases hf : f_X10_input E κ (xs (n + 1)) (xs (n + 2)) with
  | none => rw [hf] at h; cases h
  | some q =>
    obtain ⟨κ1, rs⟩ := q
    rw [hf] at h
    dsimp only at h
    cases hm : f_X11_input E (lwS κ1 rs) (xs (n + 1)) (xs (n + 2)) with
    | none => rw [hm] at h; cases h
    | some q =>
      obtain ⟨κ2, c⟩ := q
      rw [hm] at h
      dsimp only at h
      obtain ⟨⟨he, hth, hc⟩, h⟩ := gdp_some h
      cases h
      refine J_aload_n O.mo dL_law_519 1 rfl ?_
      refine J_arg O hs (n := n) (k := 1) (by omega) hL (by decide) (q0 := 0) (q4 := 4) rfl rfl dL_law_520 dL_law_521 dL_law_523 dL_law_524 dL_law_525 ?_
      refine J_arg O hs (n := n) (k := 2) (by omega) hL (by decide) (q0 := 0) (q4 := 4) rfl rfl dL_law_526 dL_law_527 dL_law_529 dL_law_530 dL_law_531 ?_
      refine J_aload_n O.mo dL_law_532 3 rfl ?_
      refine J_callSW O (hKP _) (as := [.inr (some (4, 0, 0)), .inl (.int (xs (n + 1))), .inl (.int (xs (n + 2))), .inr (some (6, 0, 0))]) (rest := []) (r := some (.inl (.int (lwC [1, 2, 3] rs)))) (c_L_input hfl h0 h6 hf he) rfl mw976 mw977 mw945 mw978 pd_L_input rfl (by decide) rfl (Nat.le_of_ble_eq_true rfl) (sl_v (sl_p (s10_0 h0) (sl_p (s11_0 h5) (sl_p hS (sl_v sl_0))))) st_0 dL_law_533 ?_
      change J X B (E, (lwS κ1 rs)) 536 (lvL b (nI n)) [.inl (.int (lwC [1, 2, 3] rs))]
      refine J_istore O.mo (lv' := lvL b (nI n)) dL_law_536 (by rw [hmL]; decide) rfl rfl ?_
      refine J_aload_n O.mo dL_law_538 3 rfl ?_
      refine J_arg O hs (n := n) (k := 1) (by omega) hL (by decide) (q0 := 1) (q4 := 5) rfl rfl dL_law_539 dL_law_540 dL_law_542 dL_law_543 dL_law_544 ?_
      refine J_arg O hs (n := n) (k := 2) (by omega) hL (by decide) (q0 := 1) (q4 := 5) rfl rfl dL_law_545 dL_law_546 dL_law_548 dL_law_549 dL_law_550 ?_
      refine J_callV O (hKP _) (as := [.inl (.int (xs (n + 1))), .inl (.int (xs (n + 2)))]) (rest := []) (r := some (.inl (.int c))) (c_X11_input hfl h5 hm) rfl (kd0 := 11) (k11_0 h5) (l11_0 h5) (T := TX11) (N := 42) rfl (by decide) mw979 mw980 mw981 mw517 mw982 pd_X11_input rfl (by decide) rfl (Nat.le_of_ble_eq_true rfl) (sl_v (sl_v (sl_p (s10_0 h0) (sl_p (s11_0 h5) (sl_p hS (sl_v sl_0)))))) st_0 dL_law_551 ?_
      change J X B (E, κ2) 554 ((5, .inl (.int (lwC [1, 2, 3] rs))) :: lvL b (nI n)) [.inl (.int c)]
      refine J_istore O.mo (lv' := ((5, .inl (.int (lwC [1, 2, 3] rs))) :: lvL b (nI n))) dL_law_554 (by rw [hmL]; decide) rfl rfl ?_
      refine J_aload_n O.mo dL_law_556 4 rfl ?_
      refine J_callV O (hKP _) (as := []) (rest := []) (r := some (.inl (.int (kV κ2 5 0 0 0)))) (c_X11_thrown hfl h5 rfl) rfl (kd0 := 11) (k11_0 h5) (l11_0 h5) (T := TX11) (N := 42) rfl (by decide) mw951 mw952 mw953 mw517 mw954 pd_X11_thrown rfl (by decide) rfl (Nat.le_of_ble_eq_true rfl) (sl_v (sl_v (sl_v (sl_p (s10_0 h0) (sl_p (s11_0 h5) (sl_p hS (sl_v sl_0))))))) st_0 dL_law_557 ?_
      change J X B (E, κ2) 560 ((6, .inl (.int c)) :: (5, .inl (.int (lwC [1, 2, 3] rs))) :: lvL b (nI n)) [.inl (.int (kV κ2 5 0 0 0))]
      rw [hth]
      refine J_iload O.mo dL_law_560 1 rfl ?_
      refine J_icmp_eq O.mo (tgt := 567) dL_law_562 (by decide) (fun _ => ?_) (fun hz => absurd rfl hz)
      refine J_iload O.mo dL_law_567 1 rfl ?_
      refine J_if_ne O.mo (tgt := 584) dL_law_569 (by decide) (fun _ => ?_) (fun hz => ?_)
      · refine J_goto O.mo (tgt := 2121) dL_law_584 (by decide) ?_
        exact J_sub [2, 3, 4, 5, 6] rfl kk
      · cases rs with
        | inr e =>
          exfalso
          have he1 := he e rfl
          simp only [List.mem_cons, List.not_mem_nil, or_false] at he1
          rcases he1 with rfl | rfl | rfl <;> exact absurd hz (by decide)
        | inl r =>
          refine J_aload_n O.mo dL_law_572 5 rfl ?_
          refine J_iconst O.mo (v := 0) dL_law_573 (by decide) ?_
          refine J_lald O h6 rfl vp00 (kj := 0) (by decide) dL_law_574 ?_
          rw [hc r rfl]
          refine J_iload O.mo dL_law_575 0 rfl ?_
          refine J_i2l O.mo dL_law_577 ?_
          refine J_lcmp O.mo dL_law_578 ?_
          rw [lg_cmp_self]
          refine J_if_eq O.mo (tgt := 584) dL_law_579 (by decide) (fun _ => ?_) (fun hz => absurd rfl hz)
          refine J_goto O.mo (tgt := 2121) dL_law_584 (by decide) ?_
          exact J_sub [2, 3, 4, 5, 6] rfl kk
noncomputable def lw_send (E : EE) (κ : K) (a1 : Int32) : Option (EE × K) := match f_X10_send E κ a1 with
  | none => none
  | some (κ1, rs) => match f_X11_send E (lwB κ1 rs) a1 with
    | none => none
    | some (κ2, c) => gdp ((∀ e, rs = .inr e → e ∈ ([1, 3] : List Nat)) ∧ kV κ2 5 0 0 0 = lwC [1, 3] rs ∧ ∀ r, rs = .inl r → kV κ2 6 0 0 0 = bI c) (some (E, κ2))
set_option maxHeartbeats 4000000 in
set_option maxRecDepth 100000 in
theorem w_law_send {l0 : Launch} (hfl : l0.stackTraces = false) {X : MX} {B : BX (EE × K)} {g : GP} (O : CK l0 X B g cL_law RL 12 462) (hKP : ∀ E, KPok B E) (hmL : B.2.2.2.1 = 7) {b L : Nat} {xs : Nat → Int32} (hs : B.2.2.2.2.2.2.2.2 X → LWX b L xs B.2.2.1 X) {n : Nat} (hn : n + 4 < L) (hL : L ≤ 2560) {E : EE} {κ : K} (hO : OKE E) {x' : EE × K} (h : lw_send E κ (xs (n + 1)) = some x') (kk : J X B x' 2121 (lvL b (nI n)) []) : J X B (E, κ) 587 (lvL b (nI n)) [] := by
  obtain ⟨h0, h5, h6, hH, hRN⟩ := hO
  have hS : Stab E (.inr (some (6, 0, 0))) := ⟨h6, by decide⟩
  unfold lw_send at h
  cases hf : f_X10_send E κ (xs (n + 1)) with
  | none => rw [hf] at h; cases h
  | some q =>
    obtain ⟨κ1, rs⟩ := q
    rw [hf] at h
    dsimp only at h
    cases hm : f_X11_send E (lwB κ1 rs) (xs (n + 1)) with
    | none => rw [hm] at h; cases h
    | some q =>
      obtain ⟨κ2, c⟩ := q
      rw [hm] at h
      dsimp only at h
      obtain ⟨⟨he, hth, hc⟩, h⟩ := gdp_some h
      cases h
      refine J_aload_n O.mo dL_law_587 1 rfl ?_
      refine J_arg O hs (n := n) (k := 1) (by omega) hL (by decide) (q0 := 0) (q4 := 4) rfl rfl dL_law_588 dL_law_589 dL_law_591 dL_law_592 dL_law_593 ?_
      refine J_aload_n O.mo dL_law_594 3 rfl ?_
      refine J_callSW O (hKP _) (as := [.inr (some (4, 0, 0)), .inl (.int (xs (n + 1))), .inr (some (6, 0, 0))]) (rest := []) (r := some (.inl (.int (lwC [1, 3] rs)))) (c_L_send hfl h0 h6 hf he) rfl mw983 mw984 mw945 mw985 pd_L_send rfl (by decide) rfl (Nat.le_of_ble_eq_true rfl) (sl_v (sl_p (s10_0 h0) (sl_p (s11_0 h5) (sl_p hS (sl_v sl_0))))) st_0 dL_law_595 ?_
      change J X B (E, (lwB κ1 rs)) 598 (lvL b (nI n)) [.inl (.int (lwC [1, 3] rs))]
      refine J_istore O.mo (lv' := lvL b (nI n)) dL_law_598 (by rw [hmL]; decide) rfl rfl ?_
      refine J_aload_n O.mo dL_law_600 3 rfl ?_
      refine J_arg O hs (n := n) (k := 1) (by omega) hL (by decide) (q0 := 1) (q4 := 5) rfl rfl dL_law_601 dL_law_602 dL_law_604 dL_law_605 dL_law_606 ?_
      refine J_callV O (hKP _) (as := [.inl (.int (xs (n + 1)))]) (rest := []) (r := some (.inl (.int c))) (c_X11_send hfl h5 hm) rfl (kd0 := 11) (k11_0 h5) (l11_0 h5) (T := TX11) (N := 42) rfl (by decide) mw986 mw987 mw988 mw517 mw989 pd_X11_send rfl (by decide) rfl (Nat.le_of_ble_eq_true rfl) (sl_v (sl_v (sl_p (s10_0 h0) (sl_p (s11_0 h5) (sl_p hS (sl_v sl_0)))))) st_0 dL_law_607 ?_
      change J X B (E, κ2) 610 ((5, .inl (.int (lwC [1, 3] rs))) :: lvL b (nI n)) [.inl (.int c)]
      refine J_istore O.mo (lv' := ((5, .inl (.int (lwC [1, 3] rs))) :: lvL b (nI n))) dL_law_610 (by rw [hmL]; decide) rfl rfl ?_
      refine J_aload_n O.mo dL_law_612 4 rfl ?_
      refine J_callV O (hKP _) (as := []) (rest := []) (r := some (.inl (.int (kV κ2 5 0 0 0)))) (c_X11_thrown hfl h5 rfl) rfl (kd0 := 11) (k11_0 h5) (l11_0 h5) (T := TX11) (N := 42) rfl (by decide) mw951 mw952 mw953 mw517 mw954 pd_X11_thrown rfl (by decide) rfl (Nat.le_of_ble_eq_true rfl) (sl_v (sl_v (sl_v (sl_p (s10_0 h0) (sl_p (s11_0 h5) (sl_p hS (sl_v sl_0))))))) st_0 dL_law_613 ?_
      change J X B (E, κ2) 616 ((6, .inl (.int c)) :: (5, .inl (.int (lwC [1, 3] rs))) :: lvL b (nI n)) [.inl (.int (kV κ2 5 0 0 0))]
      rw [hth]
      refine J_iload O.mo dL_law_616 1 rfl ?_
      refine J_icmp_eq O.mo (tgt := 623) dL_law_618 (by decide) (fun _ => ?_) (fun hz => absurd rfl hz)
      refine J_iload O.mo dL_law_623 1 rfl ?_
      refine J_if_ne O.mo (tgt := 647) dL_law_625 (by decide) (fun _ => ?_) (fun hz => ?_)
      · refine J_goto O.mo (tgt := 2121) dL_law_647 (by decide) ?_
        exact J_sub [2, 3, 4, 5, 6] rfl kk
      · cases rs with
        | inr e =>
          exfalso
          have he1 := he e rfl
          simp only [List.mem_cons, List.not_mem_nil, or_false] at he1
          rcases he1 with rfl | rfl <;> exact absurd hz (by decide)
        | inl r =>
          refine J_aload_n O.mo dL_law_628 5 rfl ?_
          refine J_iconst O.mo (v := 0) dL_law_629 (by decide) ?_
          refine J_lald O h6 rfl vp00 (kj := 0) (by decide) dL_law_630 ?_
          rw [hc r rfl]
          refine J_iload O.mo dL_law_631 0 rfl ?_
          refine J_if_eq O.mo (tgt := 640) dL_law_633 (by decide) (fun hb => ?_) (fun hb => ?_)
          · refine J_lconst O.mo (v := (bI c).toInt64) dL_law_640 (by rw [show bI c = 0 from if_pos hb]; decide) ?_
            refine J_lcmp O.mo dL_law_641 ?_
            rw [lg_cmp_self]
            refine J_if_eq O.mo (tgt := 647) dL_law_642 (by decide) (fun _ => ?_) (fun hz => absurd rfl hz)
            refine J_goto O.mo (tgt := 2121) dL_law_647 (by decide) ?_
            exact J_sub [2, 3, 4, 5, 6] rfl kk
          · refine J_lconst O.mo (v := (bI c).toInt64) dL_law_636 (by rw [show bI c = 1 from if_neg hb]; decide) ?_
            refine J_goto O.mo (tgt := 641) dL_law_637 (by decide) ?_
            refine J_lcmp O.mo dL_law_641 ?_
            rw [lg_cmp_self]
            refine J_if_eq O.mo (tgt := 647) dL_law_642 (by decide) (fun _ => ?_) (fun hz => absurd rfl hz)
            refine J_goto O.mo (tgt := 2121) dL_law_647 (by decide) ?_
            exact J_sub [2, 3, 4, 5, 6] rfl kk
noncomputable def lw_tick (E : EE) (κ : K) (a1 : Int32) : Option (EE × K) := match f_X10_tick E κ a1 with
  | none => none
  | some (κ1, rs) => match f_X11_tick E (lwS κ1 rs) a1 with
    | none => none
    | some (κ2, c) => gdp ((∀ e, rs = .inr e → e ∈ ([2, 3] : List Nat)) ∧ kV κ2 5 0 0 0 = lwC [2, 3] rs ∧ ∀ r, rs = .inl r → kV κ2 6 0 0 0 = c) (some (E, κ2))
set_option maxHeartbeats 4000000 in
set_option maxRecDepth 100000 in
theorem w_law_tick {l0 : Launch} (hfl : l0.stackTraces = false) {X : MX} {B : BX (EE × K)} {g : GP} (O : CK l0 X B g cL_law RL 12 462) (hKP : ∀ E, KPok B E) (hmL : B.2.2.2.1 = 7) {b L : Nat} {xs : Nat → Int32} (hs : B.2.2.2.2.2.2.2.2 X → LWX b L xs B.2.2.1 X) {n : Nat} (hn : n + 4 < L) (hL : L ≤ 2560) {E : EE} {κ : K} (hO : OKE E) {x' : EE × K} (h : lw_tick E κ (xs (n + 1)) = some x') (kk : J X B x' 2121 (lvL b (nI n)) []) : J X B (E, κ) 650 (lvL b (nI n)) [] := by
  obtain ⟨h0, h5, h6, hH, hRN⟩ := hO
  have hS : Stab E (.inr (some (6, 0, 0))) := ⟨h6, by decide⟩
  unfold lw_tick at h
  cases hf : f_X10_tick E κ (xs (n + 1)) with
  | none => rw [hf] at h; cases h
  | some q =>
    obtain ⟨κ1, rs⟩ := q
    rw [hf] at h
    dsimp only at h
    cases hm : f_X11_tick E (lwS κ1 rs) (xs (n + 1)) with
    | none => rw [hm] at h; cases h
    | some q =>
      obtain ⟨κ2, c⟩ := q
      rw [hm] at h
      dsimp only at h
      obtain ⟨⟨he, hth, hc⟩, h⟩ := gdp_some h
      cases h
      refine J_aload_n O.mo dL_law_650 1 rfl ?_
      refine J_arg O hs (n := n) (k := 1) (by omega) hL (by decide) (q0 := 0) (q4 := 4) rfl rfl dL_law_651 dL_law_652 dL_law_654 dL_law_655 dL_law_656 ?_
      refine J_aload_n O.mo dL_law_657 3 rfl ?_
      refine J_callSW O (hKP _) (as := [.inr (some (4, 0, 0)), .inl (.int (xs (n + 1))), .inr (some (6, 0, 0))]) (rest := []) (r := some (.inl (.int (lwC [2, 3] rs)))) (c_L_tick hfl h0 h6 hf he) rfl mw990 mw991 mw945 mw992 pd_L_tick rfl (by decide) rfl (Nat.le_of_ble_eq_true rfl) (sl_v (sl_p (s10_0 h0) (sl_p (s11_0 h5) (sl_p hS (sl_v sl_0))))) st_0 dL_law_658 ?_
      change J X B (E, (lwS κ1 rs)) 661 (lvL b (nI n)) [.inl (.int (lwC [2, 3] rs))]
      refine J_istore O.mo (lv' := lvL b (nI n)) dL_law_661 (by rw [hmL]; decide) rfl rfl ?_
      refine J_aload_n O.mo dL_law_663 3 rfl ?_
      refine J_arg O hs (n := n) (k := 1) (by omega) hL (by decide) (q0 := 1) (q4 := 5) rfl rfl dL_law_664 dL_law_665 dL_law_667 dL_law_668 dL_law_669 ?_
      refine J_callV O (hKP _) (as := [.inl (.int (xs (n + 1)))]) (rest := []) (r := some (.inl (.int c))) (c_X11_tick hfl h5 hm) rfl (kd0 := 11) (k11_0 h5) (l11_0 h5) (T := TX11) (N := 42) rfl (by decide) mw993 mw994 mw995 mw517 mw996 pd_X11_tick rfl (by decide) rfl (Nat.le_of_ble_eq_true rfl) (sl_v (sl_v (sl_p (s10_0 h0) (sl_p (s11_0 h5) (sl_p hS (sl_v sl_0)))))) st_0 dL_law_670 ?_
      change J X B (E, κ2) 673 ((5, .inl (.int (lwC [2, 3] rs))) :: lvL b (nI n)) [.inl (.int c)]
      refine J_istore O.mo (lv' := ((5, .inl (.int (lwC [2, 3] rs))) :: lvL b (nI n))) dL_law_673 (by rw [hmL]; decide) rfl rfl ?_
      refine J_aload_n O.mo dL_law_675 4 rfl ?_
      refine J_callV O (hKP _) (as := []) (rest := []) (r := some (.inl (.int (kV κ2 5 0 0 0)))) (c_X11_thrown hfl h5 rfl) rfl (kd0 := 11) (k11_0 h5) (l11_0 h5) (T := TX11) (N := 42) rfl (by decide) mw951 mw952 mw953 mw517 mw954 pd_X11_thrown rfl (by decide) rfl (Nat.le_of_ble_eq_true rfl) (sl_v (sl_v (sl_v (sl_p (s10_0 h0) (sl_p (s11_0 h5) (sl_p hS (sl_v sl_0))))))) st_0 dL_law_676 ?_
      change J X B (E, κ2) 679 ((6, .inl (.int c)) :: (5, .inl (.int (lwC [2, 3] rs))) :: lvL b (nI n)) [.inl (.int (kV κ2 5 0 0 0))]
      rw [hth]
      refine J_iload O.mo dL_law_679 1 rfl ?_
      refine J_icmp_eq O.mo (tgt := 686) dL_law_681 (by decide) (fun _ => ?_) (fun hz => absurd rfl hz)
      refine J_iload O.mo dL_law_686 1 rfl ?_
      refine J_if_ne O.mo (tgt := 703) dL_law_688 (by decide) (fun _ => ?_) (fun hz => ?_)
      · refine J_goto O.mo (tgt := 2121) dL_law_703 (by decide) ?_
        exact J_sub [2, 3, 4, 5, 6] rfl kk
      · cases rs with
        | inr e =>
          exfalso
          have he1 := he e rfl
          simp only [List.mem_cons, List.not_mem_nil, or_false] at he1
          rcases he1 with rfl | rfl <;> exact absurd hz (by decide)
        | inl r =>
          refine J_aload_n O.mo dL_law_691 5 rfl ?_
          refine J_iconst O.mo (v := 0) dL_law_692 (by decide) ?_
          refine J_lald O h6 rfl vp00 (kj := 0) (by decide) dL_law_693 ?_
          rw [hc r rfl]
          refine J_iload O.mo dL_law_694 0 rfl ?_
          refine J_i2l O.mo dL_law_696 ?_
          refine J_lcmp O.mo dL_law_697 ?_
          rw [lg_cmp_self]
          refine J_if_eq O.mo (tgt := 703) dL_law_698 (by decide) (fun _ => ?_) (fun hz => absurd rfl hz)
          refine J_goto O.mo (tgt := 2121) dL_law_703 (by decide) ?_
          exact J_sub [2, 3, 4, 5, 6] rfl kk
noncomputable def lw_share (E : EE) (κ : K) (a1 : Int32) : Option (EE × K) := match f_X10_share E κ a1 with
  | none => none
  | some (κ1, rs) => match f_X11_share E (lwS κ1 rs) a1 with
    | none => none
    | some (κ2, c) => gdp ((∀ e, rs = .inr e → e ∈ ([1] : List Nat)) ∧ kV κ2 5 0 0 0 = lwC [1] rs ∧ ∀ r, rs = .inl r → kV κ2 6 0 0 0 = c) (some (E, κ2))
set_option maxHeartbeats 4000000 in
set_option maxRecDepth 100000 in
theorem w_law_share {l0 : Launch} (hfl : l0.stackTraces = false) {X : MX} {B : BX (EE × K)} {g : GP} (O : CK l0 X B g cL_law RL 12 462) (hKP : ∀ E, KPok B E) (hmL : B.2.2.2.1 = 7) {b L : Nat} {xs : Nat → Int32} (hs : B.2.2.2.2.2.2.2.2 X → LWX b L xs B.2.2.1 X) {n : Nat} (hn : n + 4 < L) (hL : L ≤ 2560) {E : EE} {κ : K} (hO : OKE E) {x' : EE × K} (h : lw_share E κ (xs (n + 1)) = some x') (kk : J X B x' 2121 (lvL b (nI n)) []) : J X B (E, κ) 706 (lvL b (nI n)) [] := by
  obtain ⟨h0, h5, h6, hH, hRN⟩ := hO
  have hS : Stab E (.inr (some (6, 0, 0))) := ⟨h6, by decide⟩
  unfold lw_share at h
  cases hf : f_X10_share E κ (xs (n + 1)) with
  | none => rw [hf] at h; cases h
  | some q =>
    obtain ⟨κ1, rs⟩ := q
    rw [hf] at h
    dsimp only at h
    cases hm : f_X11_share E (lwS κ1 rs) (xs (n + 1)) with
    | none => rw [hm] at h; cases h
    | some q =>
      obtain ⟨κ2, c⟩ := q
      rw [hm] at h
      dsimp only at h
      obtain ⟨⟨he, hth, hc⟩, h⟩ := gdp_some h
      cases h
      refine J_aload_n O.mo dL_law_706 1 rfl ?_
      refine J_arg O hs (n := n) (k := 1) (by omega) hL (by decide) (q0 := 0) (q4 := 4) rfl rfl dL_law_707 dL_law_708 dL_law_710 dL_law_711 dL_law_712 ?_
      refine J_aload_n O.mo dL_law_713 3 rfl ?_
      refine J_callSW O (hKP _) (as := [.inr (some (4, 0, 0)), .inl (.int (xs (n + 1))), .inr (some (6, 0, 0))]) (rest := []) (r := some (.inl (.int (lwC [1] rs)))) (c_L_share hfl h0 h6 hf he) rfl mw997 mw998 mw945 mw999 pd_L_share rfl (by decide) rfl (Nat.le_of_ble_eq_true rfl) (sl_v (sl_p (s10_0 h0) (sl_p (s11_0 h5) (sl_p hS (sl_v sl_0))))) st_0 dL_law_714 ?_
      change J X B (E, (lwS κ1 rs)) 717 (lvL b (nI n)) [.inl (.int (lwC [1] rs))]
      refine J_istore O.mo (lv' := lvL b (nI n)) dL_law_717 (by rw [hmL]; decide) rfl rfl ?_
      refine J_aload_n O.mo dL_law_719 3 rfl ?_
      refine J_arg O hs (n := n) (k := 1) (by omega) hL (by decide) (q0 := 1) (q4 := 5) rfl rfl dL_law_720 dL_law_721 dL_law_723 dL_law_724 dL_law_725 ?_
      refine J_callV O (hKP _) (as := [.inl (.int (xs (n + 1)))]) (rest := []) (r := some (.inl (.int c))) (c_X11_share hfl h5 hm) rfl (kd0 := 11) (k11_0 h5) (l11_0 h5) (T := TX11) (N := 42) rfl (by decide) mw1000 mw1001 mw1002 mw517 mw1003 pd_X11_share rfl (by decide) rfl (Nat.le_of_ble_eq_true rfl) (sl_v (sl_v (sl_p (s10_0 h0) (sl_p (s11_0 h5) (sl_p hS (sl_v sl_0)))))) st_0 dL_law_726 ?_
      change J X B (E, κ2) 729 ((5, .inl (.int (lwC [1] rs))) :: lvL b (nI n)) [.inl (.int c)]
      refine J_istore O.mo (lv' := ((5, .inl (.int (lwC [1] rs))) :: lvL b (nI n))) dL_law_729 (by rw [hmL]; decide) rfl rfl ?_
      refine J_aload_n O.mo dL_law_731 4 rfl ?_
      refine J_callV O (hKP _) (as := []) (rest := []) (r := some (.inl (.int (kV κ2 5 0 0 0)))) (c_X11_thrown hfl h5 rfl) rfl (kd0 := 11) (k11_0 h5) (l11_0 h5) (T := TX11) (N := 42) rfl (by decide) mw951 mw952 mw953 mw517 mw954 pd_X11_thrown rfl (by decide) rfl (Nat.le_of_ble_eq_true rfl) (sl_v (sl_v (sl_v (sl_p (s10_0 h0) (sl_p (s11_0 h5) (sl_p hS (sl_v sl_0))))))) st_0 dL_law_732 ?_
      change J X B (E, κ2) 735 ((6, .inl (.int c)) :: (5, .inl (.int (lwC [1] rs))) :: lvL b (nI n)) [.inl (.int (kV κ2 5 0 0 0))]
      rw [hth]
      refine J_iload O.mo dL_law_735 1 rfl ?_
      refine J_icmp_eq O.mo (tgt := 742) dL_law_737 (by decide) (fun _ => ?_) (fun hz => absurd rfl hz)
      refine J_iload O.mo dL_law_742 1 rfl ?_
      refine J_if_ne O.mo (tgt := 759) dL_law_744 (by decide) (fun _ => ?_) (fun hz => ?_)
      · refine J_goto O.mo (tgt := 2121) dL_law_759 (by decide) ?_
        exact J_sub [2, 3, 4, 5, 6] rfl kk
      · cases rs with
        | inr e =>
          exfalso
          have he1 := he e rfl
          simp only [List.mem_cons, List.not_mem_nil, or_false] at he1
          subst he1
          exact absurd hz (by decide)
        | inl r =>
          refine J_aload_n O.mo dL_law_747 5 rfl ?_
          refine J_iconst O.mo (v := 0) dL_law_748 (by decide) ?_
          refine J_lald O h6 rfl vp00 (kj := 0) (by decide) dL_law_749 ?_
          rw [hc r rfl]
          refine J_iload O.mo dL_law_750 0 rfl ?_
          refine J_i2l O.mo dL_law_752 ?_
          refine J_lcmp O.mo dL_law_753 ?_
          rw [lg_cmp_self]
          refine J_if_eq O.mo (tgt := 759) dL_law_754 (by decide) (fun _ => ?_) (fun hz => absurd rfl hz)
          refine J_goto O.mo (tgt := 2121) dL_law_759 (by decide) ?_
          exact J_sub [2, 3, 4, 5, 6] rfl kk
noncomputable def lw_move (E : EE) (κ : K) (a1 : Int32) : Option (EE × K) := match f_X10_move E κ a1 with
  | none => none
  | some (κ1, rs) => match f_X11_move E (lwS κ1 rs) a1 with
    | none => none
    | some (κ2, c) => gdp ((∀ e, rs = .inr e → e ∈ ([1, 3] : List Nat)) ∧ kV κ2 5 0 0 0 = lwC [1, 3] rs ∧ ∀ r, rs = .inl r → kV κ2 6 0 0 0 = c) (some (E, κ2))
set_option maxHeartbeats 4000000 in
set_option maxRecDepth 100000 in
theorem w_law_move {l0 : Launch} (hfl : l0.stackTraces = false) {X : MX} {B : BX (EE × K)} {g : GP} (O : CK l0 X B g cL_law RL 12 462) (hKP : ∀ E, KPok B E) (hmL : B.2.2.2.1 = 7) {b L : Nat} {xs : Nat → Int32} (hs : B.2.2.2.2.2.2.2.2 X → LWX b L xs B.2.2.1 X) {n : Nat} (hn : n + 4 < L) (hL : L ≤ 2560) {E : EE} {κ : K} (hO : OKE E) {x' : EE × K} (h : lw_move E κ (xs (n + 1)) = some x') (kk : J X B x' 2121 (lvL b (nI n)) []) : J X B (E, κ) 762 (lvL b (nI n)) [] := by
  obtain ⟨h0, h5, h6, hH, hRN⟩ := hO
  have hS : Stab E (.inr (some (6, 0, 0))) := ⟨h6, by decide⟩
  unfold lw_move at h
  cases hf : f_X10_move E κ (xs (n + 1)) with
  | none => rw [hf] at h; cases h
  | some q =>
    obtain ⟨κ1, rs⟩ := q
    rw [hf] at h
    dsimp only at h
    cases hm : f_X11_move E (lwS κ1 rs) (xs (n + 1)) with
    | none => rw [hm] at h; cases h
    | some q =>
      obtain ⟨κ2, c⟩ := q
      rw [hm] at h
      dsimp only at h
      obtain ⟨⟨he, hth, hc⟩, h⟩ := gdp_some h
      cases h
      refine J_aload_n O.mo dL_law_762 1 rfl ?_
      refine J_arg O hs (n := n) (k := 1) (by omega) hL (by decide) (q0 := 0) (q4 := 4) rfl rfl dL_law_763 dL_law_764 dL_law_766 dL_law_767 dL_law_768 ?_
      refine J_aload_n O.mo dL_law_769 3 rfl ?_
      refine J_callSW O (hKP _) (as := [.inr (some (4, 0, 0)), .inl (.int (xs (n + 1))), .inr (some (6, 0, 0))]) (rest := []) (r := some (.inl (.int (lwC [1, 3] rs)))) (c_L_move hfl h0 h6 hf he) rfl mw1004 mw1005 mw945 mw1006 pd_L_move rfl (by decide) rfl (Nat.le_of_ble_eq_true rfl) (sl_v (sl_p (s10_0 h0) (sl_p (s11_0 h5) (sl_p hS (sl_v sl_0))))) st_0 dL_law_770 ?_
      change J X B (E, (lwS κ1 rs)) 773 (lvL b (nI n)) [.inl (.int (lwC [1, 3] rs))]
      refine J_istore O.mo (lv' := lvL b (nI n)) dL_law_773 (by rw [hmL]; decide) rfl rfl ?_
      refine J_aload_n O.mo dL_law_775 3 rfl ?_
      refine J_arg O hs (n := n) (k := 1) (by omega) hL (by decide) (q0 := 1) (q4 := 5) rfl rfl dL_law_776 dL_law_777 dL_law_779 dL_law_780 dL_law_781 ?_
      refine J_callV O (hKP _) (as := [.inl (.int (xs (n + 1)))]) (rest := []) (r := some (.inl (.int c))) (c_X11_move hfl h5 hm) rfl (kd0 := 11) (k11_0 h5) (l11_0 h5) (T := TX11) (N := 42) rfl (by decide) mw1007 mw1008 mw1009 mw517 mw1010 pd_X11_move rfl (by decide) rfl (Nat.le_of_ble_eq_true rfl) (sl_v (sl_v (sl_p (s10_0 h0) (sl_p (s11_0 h5) (sl_p hS (sl_v sl_0)))))) st_0 dL_law_782 ?_
      change J X B (E, κ2) 785 ((5, .inl (.int (lwC [1, 3] rs))) :: lvL b (nI n)) [.inl (.int c)]
      refine J_istore O.mo (lv' := ((5, .inl (.int (lwC [1, 3] rs))) :: lvL b (nI n))) dL_law_785 (by rw [hmL]; decide) rfl rfl ?_
      refine J_aload_n O.mo dL_law_787 4 rfl ?_
      refine J_callV O (hKP _) (as := []) (rest := []) (r := some (.inl (.int (kV κ2 5 0 0 0)))) (c_X11_thrown hfl h5 rfl) rfl (kd0 := 11) (k11_0 h5) (l11_0 h5) (T := TX11) (N := 42) rfl (by decide) mw951 mw952 mw953 mw517 mw954 pd_X11_thrown rfl (by decide) rfl (Nat.le_of_ble_eq_true rfl) (sl_v (sl_v (sl_v (sl_p (s10_0 h0) (sl_p (s11_0 h5) (sl_p hS (sl_v sl_0))))))) st_0 dL_law_788 ?_
      change J X B (E, κ2) 791 ((6, .inl (.int c)) :: (5, .inl (.int (lwC [1, 3] rs))) :: lvL b (nI n)) [.inl (.int (kV κ2 5 0 0 0))]
      rw [hth]
      refine J_iload O.mo dL_law_791 1 rfl ?_
      refine J_icmp_eq O.mo (tgt := 798) dL_law_793 (by decide) (fun _ => ?_) (fun hz => absurd rfl hz)
      refine J_iload O.mo dL_law_798 1 rfl ?_
      refine J_if_ne O.mo (tgt := 815) dL_law_800 (by decide) (fun _ => ?_) (fun hz => ?_)
      · refine J_goto O.mo (tgt := 2121) dL_law_815 (by decide) ?_
        exact J_sub [2, 3, 4, 5, 6] rfl kk
      · cases rs with
        | inr e =>
          exfalso
          have he1 := he e rfl
          simp only [List.mem_cons, List.not_mem_nil, or_false] at he1
          rcases he1 with rfl | rfl <;> exact absurd hz (by decide)
        | inl r =>
          refine J_aload_n O.mo dL_law_803 5 rfl ?_
          refine J_iconst O.mo (v := 0) dL_law_804 (by decide) ?_
          refine J_lald O h6 rfl vp00 (kj := 0) (by decide) dL_law_805 ?_
          rw [hc r rfl]
          refine J_iload O.mo dL_law_806 0 rfl ?_
          refine J_i2l O.mo dL_law_808 ?_
          refine J_lcmp O.mo dL_law_809 ?_
          rw [lg_cmp_self]
          refine J_if_eq O.mo (tgt := 815) dL_law_810 (by decide) (fun _ => ?_) (fun hz => absurd rfl hz)
          refine J_goto O.mo (tgt := 2121) dL_law_815 (by decide) ?_
          exact J_sub [2, 3, 4, 5, 6] rfl kk
noncomputable def lw_round (E : EE) (κ : K) (a1 a2 : Int32) : Option (EE × K) := match f_X10_round E κ a1 a2 with
  | none => none
  | some (κ1, rs) => match f_X11_round E (lwS κ1 rs) a1 a2 with
    | none => none
    | some (κ2, c) => gdp ((∀ e, rs = .inr e → e ∈ ([1, 2, 3] : List Nat)) ∧ kV κ2 5 0 0 0 = lwC [1, 2, 3] rs ∧ ∀ r, rs = .inl r → kV κ2 6 0 0 0 = c) (some (E, κ2))
set_option maxHeartbeats 4000000 in
set_option maxRecDepth 100000 in
theorem w_law_round {l0 : Launch} (hfl : l0.stackTraces = false) {X : MX} {B : BX (EE × K)} {g : GP} (O : CK l0 X B g cL_law RL 12 462) (hKP : ∀ E, KPok B E) (hmL : B.2.2.2.1 = 7) {b L : Nat} {xs : Nat → Int32} (hs : B.2.2.2.2.2.2.2.2 X → LWX b L xs B.2.2.1 X) {n : Nat} (hn : n + 4 < L) (hL : L ≤ 2560) {E : EE} {κ : K} (hO : OKE E) {x' : EE × K} (h : lw_round E κ (xs (n + 1)) (xs (n + 2)) = some x') (kk : J X B x' 2121 (lvL b (nI n)) []) : J X B (E, κ) 818 (lvL b (nI n)) [] := by
  obtain ⟨h0, h5, h6, hH, hRN⟩ := hO
  have hS : Stab E (.inr (some (6, 0, 0))) := ⟨h6, by decide⟩
  unfold lw_round at h
  cases hf : f_X10_round E κ (xs (n + 1)) (xs (n + 2)) with
  | none => rw [hf] at h; cases h
  | some q =>
    obtain ⟨κ1, rs⟩ := q
    rw [hf] at h
    dsimp only at h
    cases hm : f_X11_round E (lwS κ1 rs) (xs (n + 1)) (xs (n + 2)) with
    | none => rw [hm] at h; cases h
    | some q =>
      obtain ⟨κ2, c⟩ := q
      rw [hm] at h
      dsimp only at h
      obtain ⟨⟨he, hth, hc⟩, h⟩ := gdp_some h
      cases h
      refine J_aload_n O.mo dL_law_818 1 rfl ?_
      refine J_arg O hs (n := n) (k := 1) (by omega) hL (by decide) (q0 := 0) (q4 := 4) rfl rfl dL_law_819 dL_law_820 dL_law_822 dL_law_823 dL_law_824 ?_
      refine J_arg O hs (n := n) (k := 2) (by omega) hL (by decide) (q0 := 0) (q4 := 4) rfl rfl dL_law_825 dL_law_826 dL_law_828 dL_law_829 dL_law_830 ?_
      refine J_aload_n O.mo dL_law_831 3 rfl ?_
      refine J_callSW O (hKP _) (as := [.inr (some (4, 0, 0)), .inl (.int (xs (n + 1))), .inl (.int (xs (n + 2))), .inr (some (6, 0, 0))]) (rest := []) (r := some (.inl (.int (lwC [1, 2, 3] rs)))) (c_L_round hfl h0 h6 hf he) rfl mw1011 mw1012 mw945 mw1013 pd_L_round rfl (by decide) rfl (Nat.le_of_ble_eq_true rfl) (sl_v (sl_p (s10_0 h0) (sl_p (s11_0 h5) (sl_p hS (sl_v sl_0))))) st_0 dL_law_832 ?_
      change J X B (E, (lwS κ1 rs)) 835 (lvL b (nI n)) [.inl (.int (lwC [1, 2, 3] rs))]
      refine J_istore O.mo (lv' := lvL b (nI n)) dL_law_835 (by rw [hmL]; decide) rfl rfl ?_
      refine J_aload_n O.mo dL_law_837 3 rfl ?_
      refine J_arg O hs (n := n) (k := 1) (by omega) hL (by decide) (q0 := 1) (q4 := 5) rfl rfl dL_law_838 dL_law_839 dL_law_841 dL_law_842 dL_law_843 ?_
      refine J_arg O hs (n := n) (k := 2) (by omega) hL (by decide) (q0 := 1) (q4 := 5) rfl rfl dL_law_844 dL_law_845 dL_law_847 dL_law_848 dL_law_849 ?_
      refine J_callV O (hKP _) (as := [.inl (.int (xs (n + 1))), .inl (.int (xs (n + 2)))]) (rest := []) (r := some (.inl (.int c))) (c_X11_round hfl h5 hm) rfl (kd0 := 11) (k11_0 h5) (l11_0 h5) (T := TX11) (N := 42) rfl (by decide) mw1014 mw1015 mw1016 mw517 mw1017 pd_X11_round rfl (by decide) rfl (Nat.le_of_ble_eq_true rfl) (sl_v (sl_v (sl_p (s10_0 h0) (sl_p (s11_0 h5) (sl_p hS (sl_v sl_0)))))) st_0 dL_law_850 ?_
      change J X B (E, κ2) 853 ((5, .inl (.int (lwC [1, 2, 3] rs))) :: lvL b (nI n)) [.inl (.int c)]
      refine J_istore O.mo (lv' := ((5, .inl (.int (lwC [1, 2, 3] rs))) :: lvL b (nI n))) dL_law_853 (by rw [hmL]; decide) rfl rfl ?_
      refine J_aload_n O.mo dL_law_855 4 rfl ?_
      refine J_callV O (hKP _) (as := []) (rest := []) (r := some (.inl (.int (kV κ2 5 0 0 0)))) (c_X11_thrown hfl h5 rfl) rfl (kd0 := 11) (k11_0 h5) (l11_0 h5) (T := TX11) (N := 42) rfl (by decide) mw951 mw952 mw953 mw517 mw954 pd_X11_thrown rfl (by decide) rfl (Nat.le_of_ble_eq_true rfl) (sl_v (sl_v (sl_v (sl_p (s10_0 h0) (sl_p (s11_0 h5) (sl_p hS (sl_v sl_0))))))) st_0 dL_law_856 ?_
      change J X B (E, κ2) 859 ((6, .inl (.int c)) :: (5, .inl (.int (lwC [1, 2, 3] rs))) :: lvL b (nI n)) [.inl (.int (kV κ2 5 0 0 0))]
      rw [hth]
      refine J_iload O.mo dL_law_859 1 rfl ?_
      refine J_icmp_eq O.mo (tgt := 866) dL_law_861 (by decide) (fun _ => ?_) (fun hz => absurd rfl hz)
      refine J_iload O.mo dL_law_866 1 rfl ?_
      refine J_if_ne O.mo (tgt := 883) dL_law_868 (by decide) (fun _ => ?_) (fun hz => ?_)
      · refine J_goto O.mo (tgt := 2121) dL_law_883 (by decide) ?_
        exact J_sub [2, 3, 4, 5, 6] rfl kk
      · cases rs with
        | inr e =>
          exfalso
          have he1 := he e rfl
          simp only [List.mem_cons, List.not_mem_nil, or_false] at he1
          rcases he1 with rfl | rfl | rfl <;> exact absurd hz (by decide)
        | inl r =>
          refine J_aload_n O.mo dL_law_871 5 rfl ?_
          refine J_iconst O.mo (v := 0) dL_law_872 (by decide) ?_
          refine J_lald O h6 rfl vp00 (kj := 0) (by decide) dL_law_873 ?_
          rw [hc r rfl]
          refine J_iload O.mo dL_law_874 0 rfl ?_
          refine J_i2l O.mo dL_law_876 ?_
          refine J_lcmp O.mo dL_law_877 ?_
          rw [lg_cmp_self]
          refine J_if_eq O.mo (tgt := 883) dL_law_878 (by decide) (fun _ => ?_) (fun hz => absurd rfl hz)
          refine J_goto O.mo (tgt := 2121) dL_law_883 (by decide) ?_
          exact J_sub [2, 3, 4, 5, 6] rfl kk
noncomputable def lw_land (E : EE) (κ : K) (a1 a2 : Int32) : Option (EE × K) := match f_X10_land E κ a1 a2 with
  | none => none
  | some (κ1, rs) => match f_X11_land E (lwS κ1 rs) a1 a2 with
    | none => none
    | some (κ2, c) => gdp ((∀ e, rs = .inr e → e ∈ ([1, 3] : List Nat)) ∧ kV κ2 5 0 0 0 = lwC [1, 3] rs ∧ ∀ r, rs = .inl r → kV κ2 6 0 0 0 = c) (some (E, κ2))
set_option maxHeartbeats 4000000 in
set_option maxRecDepth 100000 in
theorem w_law_land {l0 : Launch} (hfl : l0.stackTraces = false) {X : MX} {B : BX (EE × K)} {g : GP} (O : CK l0 X B g cL_law RL 12 462) (hKP : ∀ E, KPok B E) (hmL : B.2.2.2.1 = 7) {b L : Nat} {xs : Nat → Int32} (hs : B.2.2.2.2.2.2.2.2 X → LWX b L xs B.2.2.1 X) {n : Nat} (hn : n + 4 < L) (hL : L ≤ 2560) {E : EE} {κ : K} (hO : OKE E) {x' : EE × K} (h : lw_land E κ (xs (n + 1)) (bI (xs (n + 2))) = some x') (kk : J X B x' 2121 (lvL b (nI n)) []) : J X B (E, κ) 886 (lvL b (nI n)) [] := by
  obtain ⟨h0, h5, h6, hH, hRN⟩ := hO
  have hS : Stab E (.inr (some (6, 0, 0))) := ⟨h6, by decide⟩
  unfold lw_land at h
  cases hf : f_X10_land E κ (xs (n + 1)) (bI (xs (n + 2))) with
  | none => rw [hf] at h; cases h
  | some q =>
    obtain ⟨κ1, rs⟩ := q
    rw [hf] at h
    dsimp only at h
    cases hm : f_X11_land E (lwS κ1 rs) (xs (n + 1)) (bI (xs (n + 2))) with
    | none => rw [hm] at h; cases h
    | some q =>
      obtain ⟨κ2, c⟩ := q
      rw [hm] at h
      dsimp only at h
      obtain ⟨⟨he, hth, hc⟩, h⟩ := gdp_some h
      cases h
      refine J_aload_n O.mo dL_law_886 1 rfl ?_
      refine J_arg O hs (n := n) (k := 1) (by omega) hL (by decide) (q0 := 0) (q4 := 4) rfl rfl dL_law_887 dL_law_888 dL_law_890 dL_law_891 dL_law_892 ?_
      refine J_argB O hs (n := n) (k := 2) (by omega) hL (by decide) (q0 := 0) (q4 := 4) rfl rfl dL_law_893 dL_law_894 dL_law_896 dL_law_897 dL_law_898 dL_law_899 dL_law_902 dL_law_903 dL_law_906 ?_
      refine J_aload_n O.mo dL_law_907 3 rfl ?_
      refine J_callSW O (hKP _) (as := [.inr (some (4, 0, 0)), .inl (.int (xs (n + 1))), .inl (.int (bI (xs (n + 2)))), .inr (some (6, 0, 0))]) (rest := []) (r := some (.inl (.int (lwC [1, 3] rs)))) (c_L_land hfl h0 h6 hf he) rfl mw1018 mw1019 mw945 mw1020 pd_L_land rfl (by decide) rfl (Nat.le_of_ble_eq_true rfl) (sl_v (sl_p (s10_0 h0) (sl_p (s11_0 h5) (sl_p hS (sl_v sl_0))))) st_0 dL_law_908 ?_
      change J X B (E, (lwS κ1 rs)) 911 (lvL b (nI n)) [.inl (.int (lwC [1, 3] rs))]
      refine J_istore O.mo (lv' := lvL b (nI n)) dL_law_911 (by rw [hmL]; decide) rfl rfl ?_
      refine J_aload_n O.mo dL_law_913 3 rfl ?_
      refine J_arg O hs (n := n) (k := 1) (by omega) hL (by decide) (q0 := 1) (q4 := 5) rfl rfl dL_law_914 dL_law_915 dL_law_917 dL_law_918 dL_law_919 ?_
      refine J_argB O hs (n := n) (k := 2) (by omega) hL (by decide) (q0 := 1) (q4 := 5) rfl rfl dL_law_920 dL_law_921 dL_law_923 dL_law_924 dL_law_925 dL_law_926 dL_law_929 dL_law_930 dL_law_933 ?_
      refine J_callV O (hKP _) (as := [.inl (.int (xs (n + 1))), .inl (.int (bI (xs (n + 2))))]) (rest := []) (r := some (.inl (.int c))) (c_X11_land hfl h5 hm) rfl (kd0 := 11) (k11_0 h5) (l11_0 h5) (T := TX11) (N := 42) rfl (by decide) mw1021 mw1022 mw1023 mw517 mw1024 pd_X11_land rfl (by decide) rfl (Nat.le_of_ble_eq_true rfl) (sl_v (sl_v (sl_p (s10_0 h0) (sl_p (s11_0 h5) (sl_p hS (sl_v sl_0)))))) st_0 dL_law_934 ?_
      change J X B (E, κ2) 937 ((5, .inl (.int (lwC [1, 3] rs))) :: lvL b (nI n)) [.inl (.int c)]
      refine J_istore O.mo (lv' := ((5, .inl (.int (lwC [1, 3] rs))) :: lvL b (nI n))) dL_law_937 (by rw [hmL]; decide) rfl rfl ?_
      refine J_aload_n O.mo dL_law_939 4 rfl ?_
      refine J_callV O (hKP _) (as := []) (rest := []) (r := some (.inl (.int (kV κ2 5 0 0 0)))) (c_X11_thrown hfl h5 rfl) rfl (kd0 := 11) (k11_0 h5) (l11_0 h5) (T := TX11) (N := 42) rfl (by decide) mw951 mw952 mw953 mw517 mw954 pd_X11_thrown rfl (by decide) rfl (Nat.le_of_ble_eq_true rfl) (sl_v (sl_v (sl_v (sl_p (s10_0 h0) (sl_p (s11_0 h5) (sl_p hS (sl_v sl_0))))))) st_0 dL_law_940 ?_
      change J X B (E, κ2) 943 ((6, .inl (.int c)) :: (5, .inl (.int (lwC [1, 3] rs))) :: lvL b (nI n)) [.inl (.int (kV κ2 5 0 0 0))]
      rw [hth]
      refine J_iload O.mo dL_law_943 1 rfl ?_
      refine J_icmp_eq O.mo (tgt := 950) dL_law_945 (by decide) (fun _ => ?_) (fun hz => absurd rfl hz)
      refine J_iload O.mo dL_law_950 1 rfl ?_
      refine J_if_ne O.mo (tgt := 967) dL_law_952 (by decide) (fun _ => ?_) (fun hz => ?_)
      · refine J_goto O.mo (tgt := 2121) dL_law_967 (by decide) ?_
        exact J_sub [2, 3, 4, 5, 6] rfl kk
      · cases rs with
        | inr e =>
          exfalso
          have he1 := he e rfl
          simp only [List.mem_cons, List.not_mem_nil, or_false] at he1
          rcases he1 with rfl | rfl <;> exact absurd hz (by decide)
        | inl r =>
          refine J_aload_n O.mo dL_law_955 5 rfl ?_
          refine J_iconst O.mo (v := 0) dL_law_956 (by decide) ?_
          refine J_lald O h6 rfl vp00 (kj := 0) (by decide) dL_law_957 ?_
          rw [hc r rfl]
          refine J_iload O.mo dL_law_958 0 rfl ?_
          refine J_i2l O.mo dL_law_960 ?_
          refine J_lcmp O.mo dL_law_961 ?_
          rw [lg_cmp_self]
          refine J_if_eq O.mo (tgt := 967) dL_law_962 (by decide) (fun _ => ?_) (fun hz => absurd rfl hz)
          refine J_goto O.mo (tgt := 2121) dL_law_967 (by decide) ?_
          exact J_sub [2, 3, 4, 5, 6] rfl kk
noncomputable def lw_snapshot (E : EE) (κ : K) (a1 : Int32) : Option (EE × K) := match f_X10_snapshot E κ a1 with
  | none => none
  | some ((E1, κ1), rs) => gdp (OKE E1 ∧ ∀ e, rs = .inr e → e ∈ ([1, 3] : List Nat)) <| match f_X11_snapshot E1 (lwS κ1 rs) a1 with
    | none => none
    | some (κ2, c) => gdp ((∀ e, rs = .inr e → e ∈ ([1, 3] : List Nat)) ∧ kV κ2 5 0 0 0 = lwC [1, 3] rs ∧ ∀ r, rs = .inl r → kV κ2 6 0 0 0 = c) (some (E1, κ2))
set_option maxHeartbeats 4000000 in
set_option maxRecDepth 100000 in
theorem w_law_snapshot {l0 : Launch} (hfl : l0.stackTraces = false) {X : MX} {B : BX (EE × K)} {g : GP} (O : CK l0 X B g cL_law RL 12 462) (hKP : ∀ E, KPok B E) (hmL : B.2.2.2.1 = 7) {b L : Nat} {xs : Nat → Int32} (hs : B.2.2.2.2.2.2.2.2 X → LWX b L xs B.2.2.1 X) {n : Nat} (hn : n + 4 < L) (hL : L ≤ 2560) {E : EE} {κ : K} (hO : OKE E) {x' : EE × K} (h : lw_snapshot E κ (xs (n + 1)) = some x') (kk : J X B x' 2121 (lvL b (nI n)) []) : J X B (E, κ) 970 (lvL b (nI n)) [] := by
  obtain ⟨h0, h5, h6, hH, hRN⟩ := hO
  have hS : Stab E (.inr (some (6, 0, 0))) := ⟨h6, by decide⟩
  unfold lw_snapshot at h
  cases hf : f_X10_snapshot E κ (xs (n + 1)) with
  | none => rw [hf] at h; cases h
  | some q =>
    obtain ⟨⟨E1, κ1⟩, rs⟩ := q
    rw [hf] at h
    dsimp only at h
    obtain ⟨⟨⟨g0, g5, g6, gH, gRN⟩, he⟩, h⟩ := gdp_some h
    have gS : Stab E1 (.inr (some (6, 0, 0))) := ⟨g6, by decide⟩
    cases hm : f_X11_snapshot E1 (lwS κ1 rs) (xs (n + 1)) with
    | none => rw [hm] at h; cases h
    | some q =>
      obtain ⟨κ2, c⟩ := q
      rw [hm] at h
      dsimp only at h
      obtain ⟨⟨-, hth, hc⟩, h⟩ := gdp_some h
      cases h
      refine J_aload_n O.mo dL_law_970 1 rfl ?_
      refine J_arg O hs (n := n) (k := 1) (by omega) hL (by decide) (q0 := 0) (q4 := 4) rfl rfl dL_law_971 dL_law_972 dL_law_974 dL_law_975 dL_law_976 ?_
      refine J_aload_n O.mo dL_law_977 3 rfl ?_
      refine J_callSW O (hKP _) (as := [.inr (some (4, 0, 0)), .inl (.int (xs (n + 1))), .inr (some (6, 0, 0))]) (rest := []) (r := some (.inl (.int (lwC [1, 3] rs)))) (c_L_snapshot hfl h0 h6 g6 hH hRN hf he) rfl mw1025 mw1026 mw945 mw1027 pd_L_snapshot rfl (by decide) rfl (Nat.le_of_ble_eq_true rfl) (sl_v (sl_p (s10_0 h0) (sl_p (s11_0 h5) (sl_p hS (sl_v sl_0))))) st_0 dL_law_978 ?_
      change J X B (E1, (lwS κ1 rs)) 981 (lvL b (nI n)) [.inl (.int (lwC [1, 3] rs))]
      refine J_istore O.mo (lv' := lvL b (nI n)) dL_law_981 (by rw [hmL]; decide) rfl rfl ?_
      refine J_aload_n O.mo dL_law_983 3 rfl ?_
      refine J_arg O hs (n := n) (k := 1) (by omega) hL (by decide) (q0 := 1) (q4 := 5) rfl rfl dL_law_984 dL_law_985 dL_law_987 dL_law_988 dL_law_989 ?_
      refine J_callV O (hKP _) (as := [.inl (.int (xs (n + 1)))]) (rest := []) (r := some (.inl (.int c))) (c_X11_snapshot hfl g5 hm) rfl (kd0 := 11) (k11_0 g5) (l11_0 g5) (T := TX11) (N := 42) rfl (by decide) mw1028 mw1029 mw1030 mw517 mw1031 pd_X11_snapshot rfl (by decide) rfl (Nat.le_of_ble_eq_true rfl) (sl_v (sl_v (sl_p (s10_0 g0) (sl_p (s11_0 g5) (sl_p gS (sl_v sl_0)))))) st_0 dL_law_990 ?_
      change J X B (E1, κ2) 993 ((5, .inl (.int (lwC [1, 3] rs))) :: lvL b (nI n)) [.inl (.int c)]
      refine J_istore O.mo (lv' := ((5, .inl (.int (lwC [1, 3] rs))) :: lvL b (nI n))) dL_law_993 (by rw [hmL]; decide) rfl rfl ?_
      refine J_aload_n O.mo dL_law_995 4 rfl ?_
      refine J_callV O (hKP _) (as := []) (rest := []) (r := some (.inl (.int (kV κ2 5 0 0 0)))) (c_X11_thrown hfl g5 rfl) rfl (kd0 := 11) (k11_0 g5) (l11_0 g5) (T := TX11) (N := 42) rfl (by decide) mw951 mw952 mw953 mw517 mw954 pd_X11_thrown rfl (by decide) rfl (Nat.le_of_ble_eq_true rfl) (sl_v (sl_v (sl_v (sl_p (s10_0 g0) (sl_p (s11_0 g5) (sl_p gS (sl_v sl_0))))))) st_0 dL_law_996 ?_
      change J X B (E1, κ2) 999 ((6, .inl (.int c)) :: (5, .inl (.int (lwC [1, 3] rs))) :: lvL b (nI n)) [.inl (.int (kV κ2 5 0 0 0))]
      rw [hth]
      refine J_iload O.mo dL_law_999 1 rfl ?_
      refine J_icmp_eq O.mo (tgt := 1006) dL_law_1001 (by decide) (fun _ => ?_) (fun hz => absurd rfl hz)
      refine J_iload O.mo dL_law_1006 1 rfl ?_
      refine J_if_ne O.mo (tgt := 1023) dL_law_1008 (by decide) (fun _ => ?_) (fun hz => ?_)
      · refine J_goto O.mo (tgt := 2121) dL_law_1023 (by decide) ?_
        exact J_sub [2, 3, 4, 5, 6] rfl kk
      · cases rs with
        | inr e =>
          exfalso
          have he1 := he e rfl
          simp only [List.mem_cons, List.not_mem_nil, or_false] at he1
          rcases he1 with rfl | rfl <;> exact absurd hz (by decide)
        | inl r =>
          refine J_aload_n O.mo dL_law_1011 5 rfl ?_
          refine J_iconst O.mo (v := 0) dL_law_1012 (by decide) ?_
          refine J_lald O g6 rfl vp00 (kj := 0) (by decide) dL_law_1013 ?_
          rw [hc r rfl]
          refine J_iload O.mo dL_law_1014 0 rfl ?_
          refine J_i2l O.mo dL_law_1016 ?_
          refine J_lcmp O.mo dL_law_1017 ?_
          rw [lg_cmp_self]
          refine J_if_eq O.mo (tgt := 1023) dL_law_1018 (by decide) (fun _ => ?_) (fun hz => absurd rfl hz)
          refine J_goto O.mo (tgt := 2121) dL_law_1023 (by decide) ?_
          exact J_sub [2, 3, 4, 5, 6] rfl kk
noncomputable def lw_restore (E : EE) (κ : K) (a1 a2 : Int32) : Option (EE × K) := match f_X10_restore E κ a1 a2 with
  | none => none
  | some (κ1, rs) => match f_X11_restore E (lwS κ1 rs) a1 a2 with
    | none => none
    | some (κ2, c) => gdp ((∀ e, rs = .inr e → e ∈ ([1, 3] : List Nat)) ∧ kV κ2 5 0 0 0 = lwC [1, 3] rs ∧ ∀ r, rs = .inl r → kV κ2 6 0 0 0 = c) (some (E, κ2))
set_option maxHeartbeats 4000000 in
set_option maxRecDepth 100000 in
theorem w_law_restore {l0 : Launch} (hfl : l0.stackTraces = false) {X : MX} {B : BX (EE × K)} {g : GP} (O : CK l0 X B g cL_law RL 12 462) (hKP : ∀ E, KPok B E) (hmL : B.2.2.2.1 = 7) {b L : Nat} {xs : Nat → Int32} (hs : B.2.2.2.2.2.2.2.2 X → LWX b L xs B.2.2.1 X) {n : Nat} (hn : n + 4 < L) (hL : L ≤ 2560) {E : EE} {κ : K} (hO : OKE E) {x' : EE × K} (h : lw_restore E κ (xs (n + 1)) (xs (n + 2)) = some x') (kk : J X B x' 2121 (lvL b (nI n)) []) : J X B (E, κ) 1026 (lvL b (nI n)) [] := by
  obtain ⟨h0, h5, h6, hH, hRN⟩ := hO
  have hS : Stab E (.inr (some (6, 0, 0))) := ⟨h6, by decide⟩
  unfold lw_restore at h
  cases hf : f_X10_restore E κ (xs (n + 1)) (xs (n + 2)) with
  | none => rw [hf] at h; cases h
  | some q =>
    obtain ⟨κ1, rs⟩ := q
    rw [hf] at h
    dsimp only at h
    cases hm : f_X11_restore E (lwS κ1 rs) (xs (n + 1)) (xs (n + 2)) with
    | none => rw [hm] at h; cases h
    | some q =>
      obtain ⟨κ2, c⟩ := q
      rw [hm] at h
      dsimp only at h
      obtain ⟨⟨he, hth, hc⟩, h⟩ := gdp_some h
      cases h
      refine J_aload_n O.mo dL_law_1026 1 rfl ?_
      refine J_arg O hs (n := n) (k := 1) (by omega) hL (by decide) (q0 := 0) (q4 := 4) rfl rfl dL_law_1027 dL_law_1028 dL_law_1030 dL_law_1031 dL_law_1032 ?_
      refine J_arg O hs (n := n) (k := 2) (by omega) hL (by decide) (q0 := 0) (q4 := 4) rfl rfl dL_law_1033 dL_law_1034 dL_law_1036 dL_law_1037 dL_law_1038 ?_
      refine J_aload_n O.mo dL_law_1039 3 rfl ?_
      refine J_callSW O (hKP _) (as := [.inr (some (4, 0, 0)), .inl (.int (xs (n + 1))), .inl (.int (xs (n + 2))), .inr (some (6, 0, 0))]) (rest := []) (r := some (.inl (.int (lwC [1, 3] rs)))) (c_L_restore hfl h0 h6 hf he) rfl mw1032 mw1033 mw945 mw1034 pd_L_restore rfl (by decide) rfl (Nat.le_of_ble_eq_true rfl) (sl_v (sl_p (s10_0 h0) (sl_p (s11_0 h5) (sl_p hS (sl_v sl_0))))) st_0 dL_law_1040 ?_
      change J X B (E, (lwS κ1 rs)) 1043 (lvL b (nI n)) [.inl (.int (lwC [1, 3] rs))]
      refine J_istore O.mo (lv' := lvL b (nI n)) dL_law_1043 (by rw [hmL]; decide) rfl rfl ?_
      refine J_aload_n O.mo dL_law_1045 3 rfl ?_
      refine J_arg O hs (n := n) (k := 1) (by omega) hL (by decide) (q0 := 1) (q4 := 5) rfl rfl dL_law_1046 dL_law_1047 dL_law_1049 dL_law_1050 dL_law_1051 ?_
      refine J_arg O hs (n := n) (k := 2) (by omega) hL (by decide) (q0 := 1) (q4 := 5) rfl rfl dL_law_1052 dL_law_1053 dL_law_1055 dL_law_1056 dL_law_1057 ?_
      refine J_callV O (hKP _) (as := [.inl (.int (xs (n + 1))), .inl (.int (xs (n + 2)))]) (rest := []) (r := some (.inl (.int c))) (c_X11_restore hfl h5 hm) rfl (kd0 := 11) (k11_0 h5) (l11_0 h5) (T := TX11) (N := 42) rfl (by decide) mw1035 mw1036 mw1037 mw517 mw1038 pd_X11_restore rfl (by decide) rfl (Nat.le_of_ble_eq_true rfl) (sl_v (sl_v (sl_p (s10_0 h0) (sl_p (s11_0 h5) (sl_p hS (sl_v sl_0)))))) st_0 dL_law_1058 ?_
      change J X B (E, κ2) 1061 ((5, .inl (.int (lwC [1, 3] rs))) :: lvL b (nI n)) [.inl (.int c)]
      refine J_istore O.mo (lv' := ((5, .inl (.int (lwC [1, 3] rs))) :: lvL b (nI n))) dL_law_1061 (by rw [hmL]; decide) rfl rfl ?_
      refine J_aload_n O.mo dL_law_1063 4 rfl ?_
      refine J_callV O (hKP _) (as := []) (rest := []) (r := some (.inl (.int (kV κ2 5 0 0 0)))) (c_X11_thrown hfl h5 rfl) rfl (kd0 := 11) (k11_0 h5) (l11_0 h5) (T := TX11) (N := 42) rfl (by decide) mw951 mw952 mw953 mw517 mw954 pd_X11_thrown rfl (by decide) rfl (Nat.le_of_ble_eq_true rfl) (sl_v (sl_v (sl_v (sl_p (s10_0 h0) (sl_p (s11_0 h5) (sl_p hS (sl_v sl_0))))))) st_0 dL_law_1064 ?_
      change J X B (E, κ2) 1067 ((6, .inl (.int c)) :: (5, .inl (.int (lwC [1, 3] rs))) :: lvL b (nI n)) [.inl (.int (kV κ2 5 0 0 0))]
      rw [hth]
      refine J_iload O.mo dL_law_1067 1 rfl ?_
      refine J_icmp_eq O.mo (tgt := 1074) dL_law_1069 (by decide) (fun _ => ?_) (fun hz => absurd rfl hz)
      refine J_iload O.mo dL_law_1074 1 rfl ?_
      refine J_if_ne O.mo (tgt := 1091) dL_law_1076 (by decide) (fun _ => ?_) (fun hz => ?_)
      · refine J_goto O.mo (tgt := 2121) dL_law_1091 (by decide) ?_
        exact J_sub [2, 3, 4, 5, 6] rfl kk
      · cases rs with
        | inr e =>
          exfalso
          have he1 := he e rfl
          simp only [List.mem_cons, List.not_mem_nil, or_false] at he1
          rcases he1 with rfl | rfl <;> exact absurd hz (by decide)
        | inl r =>
          refine J_aload_n O.mo dL_law_1079 5 rfl ?_
          refine J_iconst O.mo (v := 0) dL_law_1080 (by decide) ?_
          refine J_lald O h6 rfl vp00 (kj := 0) (by decide) dL_law_1081 ?_
          rw [hc r rfl]
          refine J_iload O.mo dL_law_1082 0 rfl ?_
          refine J_i2l O.mo dL_law_1084 ?_
          refine J_lcmp O.mo dL_law_1085 ?_
          rw [lg_cmp_self]
          refine J_if_eq O.mo (tgt := 1091) dL_law_1086 (by decide) (fun _ => ?_) (fun hz => absurd rfl hz)
          refine J_goto O.mo (tgt := 2121) dL_law_1091 (by decide) ?_
          exact J_sub [2, 3, 4, 5, 6] rfl kk
noncomputable def lw_follow (E : EE) (κ : K) (a1 a2 : Int32) : Option (EE × K) := match f_X10_follow E κ a1 a2 with
  | none => none
  | some (κ1, rs) => match f_X11_follow E (lwB κ1 rs) a1 a2 with
    | none => none
    | some (κ2, c) => gdp ((∀ e, rs = .inr e → e ∈ ([1, 3] : List Nat)) ∧ kV κ2 5 0 0 0 = lwC [1, 3] rs ∧ ∀ r, rs = .inl r → kV κ2 6 0 0 0 = bI c) (some (E, κ2))
set_option maxHeartbeats 4000000 in
set_option maxRecDepth 100000 in
theorem w_law_follow {l0 : Launch} (hfl : l0.stackTraces = false) {X : MX} {B : BX (EE × K)} {g : GP} (O : CK l0 X B g cL_law RL 12 462) (hKP : ∀ E, KPok B E) (hmL : B.2.2.2.1 = 7) {b L : Nat} {xs : Nat → Int32} (hs : B.2.2.2.2.2.2.2.2 X → LWX b L xs B.2.2.1 X) {n : Nat} (hn : n + 4 < L) (hL : L ≤ 2560) {E : EE} {κ : K} (hO : OKE E) {x' : EE × K} (h : lw_follow E κ (xs (n + 1)) (bI (xs (n + 2))) = some x') (kk : J X B x' 2121 (lvL b (nI n)) []) : J X B (E, κ) 1094 (lvL b (nI n)) [] := by
  obtain ⟨h0, h5, h6, hH, hRN⟩ := hO
  have hS : Stab E (.inr (some (6, 0, 0))) := ⟨h6, by decide⟩
  unfold lw_follow at h
  cases hf : f_X10_follow E κ (xs (n + 1)) (bI (xs (n + 2))) with
  | none => rw [hf] at h; cases h
  | some q =>
    obtain ⟨κ1, rs⟩ := q
    rw [hf] at h
    dsimp only at h
    cases hm : f_X11_follow E (lwB κ1 rs) (xs (n + 1)) (bI (xs (n + 2))) with
    | none => rw [hm] at h; cases h
    | some q =>
      obtain ⟨κ2, c⟩ := q
      rw [hm] at h
      dsimp only at h
      obtain ⟨⟨he, hth, hc⟩, h⟩ := gdp_some h
      cases h
      refine J_aload_n O.mo dL_law_1094 1 rfl ?_
      refine J_arg O hs (n := n) (k := 1) (by omega) hL (by decide) (q0 := 0) (q4 := 4) rfl rfl dL_law_1095 dL_law_1096 dL_law_1098 dL_law_1099 dL_law_1100 ?_
      refine J_argB O hs (n := n) (k := 2) (by omega) hL (by decide) (q0 := 0) (q4 := 4) rfl rfl dL_law_1101 dL_law_1102 dL_law_1104 dL_law_1105 dL_law_1106 dL_law_1107 dL_law_1110 dL_law_1111 dL_law_1114 ?_
      refine J_aload_n O.mo dL_law_1115 3 rfl ?_
      refine J_callSW O (hKP _) (as := [.inr (some (4, 0, 0)), .inl (.int (xs (n + 1))), .inl (.int (bI (xs (n + 2)))), .inr (some (6, 0, 0))]) (rest := []) (r := some (.inl (.int (lwC [1, 3] rs)))) (c_L_follow hfl h0 h6 hf he) rfl mw1039 mw1040 mw945 mw1041 pd_L_follow rfl (by decide) rfl (Nat.le_of_ble_eq_true rfl) (sl_v (sl_p (s10_0 h0) (sl_p (s11_0 h5) (sl_p hS (sl_v sl_0))))) st_0 dL_law_1116 ?_
      change J X B (E, (lwB κ1 rs)) 1119 (lvL b (nI n)) [.inl (.int (lwC [1, 3] rs))]
      refine J_istore O.mo (lv' := lvL b (nI n)) dL_law_1119 (by rw [hmL]; decide) rfl rfl ?_
      refine J_aload_n O.mo dL_law_1121 3 rfl ?_
      refine J_arg O hs (n := n) (k := 1) (by omega) hL (by decide) (q0 := 1) (q4 := 5) rfl rfl dL_law_1122 dL_law_1123 dL_law_1125 dL_law_1126 dL_law_1127 ?_
      refine J_argB O hs (n := n) (k := 2) (by omega) hL (by decide) (q0 := 1) (q4 := 5) rfl rfl dL_law_1128 dL_law_1129 dL_law_1131 dL_law_1132 dL_law_1133 dL_law_1134 dL_law_1137 dL_law_1138 dL_law_1141 ?_
      refine J_callV O (hKP _) (as := [.inl (.int (xs (n + 1))), .inl (.int (bI (xs (n + 2))))]) (rest := []) (r := some (.inl (.int c))) (c_X11_follow hfl h5 hm) rfl (kd0 := 11) (k11_0 h5) (l11_0 h5) (T := TX11) (N := 42) rfl (by decide) mw1042 mw1043 mw1044 mw517 mw1045 pd_X11_follow rfl (by decide) rfl (Nat.le_of_ble_eq_true rfl) (sl_v (sl_v (sl_p (s10_0 h0) (sl_p (s11_0 h5) (sl_p hS (sl_v sl_0)))))) st_0 dL_law_1142 ?_
      change J X B (E, κ2) 1145 ((5, .inl (.int (lwC [1, 3] rs))) :: lvL b (nI n)) [.inl (.int c)]
      refine J_istore O.mo (lv' := ((5, .inl (.int (lwC [1, 3] rs))) :: lvL b (nI n))) dL_law_1145 (by rw [hmL]; decide) rfl rfl ?_
      refine J_aload_n O.mo dL_law_1147 4 rfl ?_
      refine J_callV O (hKP _) (as := []) (rest := []) (r := some (.inl (.int (kV κ2 5 0 0 0)))) (c_X11_thrown hfl h5 rfl) rfl (kd0 := 11) (k11_0 h5) (l11_0 h5) (T := TX11) (N := 42) rfl (by decide) mw951 mw952 mw953 mw517 mw954 pd_X11_thrown rfl (by decide) rfl (Nat.le_of_ble_eq_true rfl) (sl_v (sl_v (sl_v (sl_p (s10_0 h0) (sl_p (s11_0 h5) (sl_p hS (sl_v sl_0))))))) st_0 dL_law_1148 ?_
      change J X B (E, κ2) 1151 ((6, .inl (.int c)) :: (5, .inl (.int (lwC [1, 3] rs))) :: lvL b (nI n)) [.inl (.int (kV κ2 5 0 0 0))]
      rw [hth]
      refine J_iload O.mo dL_law_1151 1 rfl ?_
      refine J_icmp_eq O.mo (tgt := 1158) dL_law_1153 (by decide) (fun _ => ?_) (fun hz => absurd rfl hz)
      refine J_iload O.mo dL_law_1158 1 rfl ?_
      refine J_if_ne O.mo (tgt := 1182) dL_law_1160 (by decide) (fun _ => ?_) (fun hz => ?_)
      · refine J_goto O.mo (tgt := 2121) dL_law_1182 (by decide) ?_
        exact J_sub [2, 3, 4, 5, 6] rfl kk
      · cases rs with
        | inr e =>
          exfalso
          have he1 := he e rfl
          simp only [List.mem_cons, List.not_mem_nil, or_false] at he1
          rcases he1 with rfl | rfl <;> exact absurd hz (by decide)
        | inl r =>
          refine J_aload_n O.mo dL_law_1163 5 rfl ?_
          refine J_iconst O.mo (v := 0) dL_law_1164 (by decide) ?_
          refine J_lald O h6 rfl vp00 (kj := 0) (by decide) dL_law_1165 ?_
          rw [hc r rfl]
          refine J_iload O.mo dL_law_1166 0 rfl ?_
          refine J_if_eq O.mo (tgt := 1175) dL_law_1168 (by decide) (fun hb => ?_) (fun hb => ?_)
          · refine J_lconst O.mo (v := (bI c).toInt64) dL_law_1175 (by rw [show bI c = 0 from if_pos hb]; decide) ?_
            refine J_lcmp O.mo dL_law_1176 ?_
            rw [lg_cmp_self]
            refine J_if_eq O.mo (tgt := 1182) dL_law_1177 (by decide) (fun _ => ?_) (fun hz => absurd rfl hz)
            refine J_goto O.mo (tgt := 2121) dL_law_1182 (by decide) ?_
            exact J_sub [2, 3, 4, 5, 6] rfl kk
          · refine J_lconst O.mo (v := (bI c).toInt64) dL_law_1171 (by rw [show bI c = 1 from if_neg hb]; decide) ?_
            refine J_goto O.mo (tgt := 1176) dL_law_1172 (by decide) ?_
            refine J_lcmp O.mo dL_law_1176 ?_
            rw [lg_cmp_self]
            refine J_if_eq O.mo (tgt := 1182) dL_law_1177 (by decide) (fun _ => ?_) (fun hz => absurd rfl hz)
            refine J_goto O.mo (tgt := 2121) dL_law_1182 (by decide) ?_
            exact J_sub [2, 3, 4, 5, 6] rfl kk
noncomputable def lw_step (E : EE) (κ : K) (a1 : Int32) : Option (EE × K) := match f_X10_step E κ a1 with
  | none => none
  | some (κ1, rs) => match f_X11_step E (lwS κ1 rs) a1 with
    | none => none
    | some (κ2, c) => gdp ((∀ e, rs = .inr e → e ∈ ([1, 3] : List Nat)) ∧ kV κ2 5 0 0 0 = lwC [1, 3] rs ∧ ∀ r, rs = .inl r → kV κ2 6 0 0 0 = c) (some (E, κ2))
set_option maxHeartbeats 4000000 in
set_option maxRecDepth 100000 in
theorem w_law_step {l0 : Launch} (hfl : l0.stackTraces = false) {X : MX} {B : BX (EE × K)} {g : GP} (O : CK l0 X B g cL_law RL 12 462) (hKP : ∀ E, KPok B E) (hmL : B.2.2.2.1 = 7) {b L : Nat} {xs : Nat → Int32} (hs : B.2.2.2.2.2.2.2.2 X → LWX b L xs B.2.2.1 X) {n : Nat} (hn : n + 4 < L) (hL : L ≤ 2560) {E : EE} {κ : K} (hO : OKE E) {x' : EE × K} (h : lw_step E κ (xs (n + 1)) = some x') (kk : J X B x' 2121 (lvL b (nI n)) []) : J X B (E, κ) 1185 (lvL b (nI n)) [] := by
  obtain ⟨h0, h5, h6, hH, hRN⟩ := hO
  have hS : Stab E (.inr (some (6, 0, 0))) := ⟨h6, by decide⟩
  unfold lw_step at h
  cases hf : f_X10_step E κ (xs (n + 1)) with
  | none => rw [hf] at h; cases h
  | some q =>
    obtain ⟨κ1, rs⟩ := q
    rw [hf] at h
    dsimp only at h
    cases hm : f_X11_step E (lwS κ1 rs) (xs (n + 1)) with
    | none => rw [hm] at h; cases h
    | some q =>
      obtain ⟨κ2, c⟩ := q
      rw [hm] at h
      dsimp only at h
      obtain ⟨⟨he, hth, hc⟩, h⟩ := gdp_some h
      cases h
      refine J_aload_n O.mo dL_law_1185 1 rfl ?_
      refine J_arg O hs (n := n) (k := 1) (by omega) hL (by decide) (q0 := 0) (q4 := 4) rfl rfl dL_law_1186 dL_law_1187 dL_law_1189 dL_law_1190 dL_law_1191 ?_
      refine J_aload_n O.mo dL_law_1192 3 rfl ?_
      refine J_callSW O (hKP _) (as := [.inr (some (4, 0, 0)), .inl (.int (xs (n + 1))), .inr (some (6, 0, 0))]) (rest := []) (r := some (.inl (.int (lwC [1, 3] rs)))) (c_L_step hfl h0 h6 hf he) rfl mw1046 mw1047 mw945 mw1048 pd_L_step rfl (by decide) rfl (Nat.le_of_ble_eq_true rfl) (sl_v (sl_p (s10_0 h0) (sl_p (s11_0 h5) (sl_p hS (sl_v sl_0))))) st_0 dL_law_1193 ?_
      change J X B (E, (lwS κ1 rs)) 1196 (lvL b (nI n)) [.inl (.int (lwC [1, 3] rs))]
      refine J_istore O.mo (lv' := lvL b (nI n)) dL_law_1196 (by rw [hmL]; decide) rfl rfl ?_
      refine J_aload_n O.mo dL_law_1198 3 rfl ?_
      refine J_arg O hs (n := n) (k := 1) (by omega) hL (by decide) (q0 := 1) (q4 := 5) rfl rfl dL_law_1199 dL_law_1200 dL_law_1202 dL_law_1203 dL_law_1204 ?_
      refine J_callV O (hKP _) (as := [.inl (.int (xs (n + 1)))]) (rest := []) (r := some (.inl (.int c))) (c_X11_step hfl h5 hm) rfl (kd0 := 11) (k11_0 h5) (l11_0 h5) (T := TX11) (N := 42) rfl (by decide) mw1049 mw1050 mw1051 mw517 mw1052 pd_X11_step rfl (by decide) rfl (Nat.le_of_ble_eq_true rfl) (sl_v (sl_v (sl_p (s10_0 h0) (sl_p (s11_0 h5) (sl_p hS (sl_v sl_0)))))) st_0 dL_law_1205 ?_
      change J X B (E, κ2) 1208 ((5, .inl (.int (lwC [1, 3] rs))) :: lvL b (nI n)) [.inl (.int c)]
      refine J_istore O.mo (lv' := ((5, .inl (.int (lwC [1, 3] rs))) :: lvL b (nI n))) dL_law_1208 (by rw [hmL]; decide) rfl rfl ?_
      refine J_aload_n O.mo dL_law_1210 4 rfl ?_
      refine J_callV O (hKP _) (as := []) (rest := []) (r := some (.inl (.int (kV κ2 5 0 0 0)))) (c_X11_thrown hfl h5 rfl) rfl (kd0 := 11) (k11_0 h5) (l11_0 h5) (T := TX11) (N := 42) rfl (by decide) mw951 mw952 mw953 mw517 mw954 pd_X11_thrown rfl (by decide) rfl (Nat.le_of_ble_eq_true rfl) (sl_v (sl_v (sl_v (sl_p (s10_0 h0) (sl_p (s11_0 h5) (sl_p hS (sl_v sl_0))))))) st_0 dL_law_1211 ?_
      change J X B (E, κ2) 1214 ((6, .inl (.int c)) :: (5, .inl (.int (lwC [1, 3] rs))) :: lvL b (nI n)) [.inl (.int (kV κ2 5 0 0 0))]
      rw [hth]
      refine J_iload O.mo dL_law_1214 1 rfl ?_
      refine J_icmp_eq O.mo (tgt := 1221) dL_law_1216 (by decide) (fun _ => ?_) (fun hz => absurd rfl hz)
      refine J_iload O.mo dL_law_1221 1 rfl ?_
      refine J_if_ne O.mo (tgt := 1238) dL_law_1223 (by decide) (fun _ => ?_) (fun hz => ?_)
      · refine J_goto O.mo (tgt := 2121) dL_law_1238 (by decide) ?_
        exact J_sub [2, 3, 4, 5, 6] rfl kk
      · cases rs with
        | inr e =>
          exfalso
          have he1 := he e rfl
          simp only [List.mem_cons, List.not_mem_nil, or_false] at he1
          rcases he1 with rfl | rfl <;> exact absurd hz (by decide)
        | inl r =>
          refine J_aload_n O.mo dL_law_1226 5 rfl ?_
          refine J_iconst O.mo (v := 0) dL_law_1227 (by decide) ?_
          refine J_lald O h6 rfl vp00 (kj := 0) (by decide) dL_law_1228 ?_
          rw [hc r rfl]
          refine J_iload O.mo dL_law_1229 0 rfl ?_
          refine J_i2l O.mo dL_law_1231 ?_
          refine J_lcmp O.mo dL_law_1232 ?_
          rw [lg_cmp_self]
          refine J_if_eq O.mo (tgt := 1238) dL_law_1233 (by decide) (fun _ => ?_) (fun hz => absurd rfl hz)
          refine J_goto O.mo (tgt := 2121) dL_law_1238 (by decide) ?_
          exact J_sub [2, 3, 4, 5, 6] rfl kk
noncomputable def lw_fail (E : EE) (κ : K) (a1 : Int32) : Option (EE × K) := match f_X10_fail E κ a1 with
  | none => none
  | some (κ1, rs) => match f_X11_fail E (lwS κ1 rs) a1 with
    | none => none
    | some (κ2, c) => gdp ((∀ e, rs = .inr e → e ∈ ([1, 3] : List Nat)) ∧ kV κ2 5 0 0 0 = lwC [1, 3] rs ∧ ∀ r, rs = .inl r → kV κ2 6 0 0 0 = c) (some (E, κ2))
set_option maxHeartbeats 4000000 in
set_option maxRecDepth 100000 in
theorem w_law_fail {l0 : Launch} (hfl : l0.stackTraces = false) {X : MX} {B : BX (EE × K)} {g : GP} (O : CK l0 X B g cL_law RL 12 462) (hKP : ∀ E, KPok B E) (hmL : B.2.2.2.1 = 7) {b L : Nat} {xs : Nat → Int32} (hs : B.2.2.2.2.2.2.2.2 X → LWX b L xs B.2.2.1 X) {n : Nat} (hn : n + 4 < L) (hL : L ≤ 2560) {E : EE} {κ : K} (hO : OKE E) {x' : EE × K} (h : lw_fail E κ (xs (n + 1)) = some x') (kk : J X B x' 2121 (lvL b (nI n)) []) : J X B (E, κ) 1241 (lvL b (nI n)) [] := by
  obtain ⟨h0, h5, h6, hH, hRN⟩ := hO
  have hS : Stab E (.inr (some (6, 0, 0))) := ⟨h6, by decide⟩
  unfold lw_fail at h
  cases hf : f_X10_fail E κ (xs (n + 1)) with
  | none => rw [hf] at h; cases h
  | some q =>
    obtain ⟨κ1, rs⟩ := q
    rw [hf] at h
    dsimp only at h
    cases hm : f_X11_fail E (lwS κ1 rs) (xs (n + 1)) with
    | none => rw [hm] at h; cases h
    | some q =>
      obtain ⟨κ2, c⟩ := q
      rw [hm] at h
      dsimp only at h
      obtain ⟨⟨he, hth, hc⟩, h⟩ := gdp_some h
      cases h
      refine J_aload_n O.mo dL_law_1241 1 rfl ?_
      refine J_arg O hs (n := n) (k := 1) (by omega) hL (by decide) (q0 := 0) (q4 := 4) rfl rfl dL_law_1242 dL_law_1243 dL_law_1245 dL_law_1246 dL_law_1247 ?_
      refine J_aload_n O.mo dL_law_1248 3 rfl ?_
      refine J_callSW O (hKP _) (as := [.inr (some (4, 0, 0)), .inl (.int (xs (n + 1))), .inr (some (6, 0, 0))]) (rest := []) (r := some (.inl (.int (lwC [1, 3] rs)))) (c_L_fail hfl h0 h6 hf he) rfl mw1053 mw1054 mw945 mw1055 pd_L_fail rfl (by decide) rfl (Nat.le_of_ble_eq_true rfl) (sl_v (sl_p (s10_0 h0) (sl_p (s11_0 h5) (sl_p hS (sl_v sl_0))))) st_0 dL_law_1249 ?_
      change J X B (E, (lwS κ1 rs)) 1252 (lvL b (nI n)) [.inl (.int (lwC [1, 3] rs))]
      refine J_istore O.mo (lv' := lvL b (nI n)) dL_law_1252 (by rw [hmL]; decide) rfl rfl ?_
      refine J_aload_n O.mo dL_law_1254 3 rfl ?_
      refine J_arg O hs (n := n) (k := 1) (by omega) hL (by decide) (q0 := 1) (q4 := 5) rfl rfl dL_law_1255 dL_law_1256 dL_law_1258 dL_law_1259 dL_law_1260 ?_
      refine J_callV O (hKP _) (as := [.inl (.int (xs (n + 1)))]) (rest := []) (r := some (.inl (.int c))) (c_X11_fail hfl h5 hm) rfl (kd0 := 11) (k11_0 h5) (l11_0 h5) (T := TX11) (N := 42) rfl (by decide) mw1056 mw1057 mw1058 mw517 mw1059 pd_X11_fail rfl (by decide) rfl (Nat.le_of_ble_eq_true rfl) (sl_v (sl_v (sl_p (s10_0 h0) (sl_p (s11_0 h5) (sl_p hS (sl_v sl_0)))))) st_0 dL_law_1261 ?_
      change J X B (E, κ2) 1264 ((5, .inl (.int (lwC [1, 3] rs))) :: lvL b (nI n)) [.inl (.int c)]
      refine J_istore O.mo (lv' := ((5, .inl (.int (lwC [1, 3] rs))) :: lvL b (nI n))) dL_law_1264 (by rw [hmL]; decide) rfl rfl ?_
      refine J_aload_n O.mo dL_law_1266 4 rfl ?_
      refine J_callV O (hKP _) (as := []) (rest := []) (r := some (.inl (.int (kV κ2 5 0 0 0)))) (c_X11_thrown hfl h5 rfl) rfl (kd0 := 11) (k11_0 h5) (l11_0 h5) (T := TX11) (N := 42) rfl (by decide) mw951 mw952 mw953 mw517 mw954 pd_X11_thrown rfl (by decide) rfl (Nat.le_of_ble_eq_true rfl) (sl_v (sl_v (sl_v (sl_p (s10_0 h0) (sl_p (s11_0 h5) (sl_p hS (sl_v sl_0))))))) st_0 dL_law_1267 ?_
      change J X B (E, κ2) 1270 ((6, .inl (.int c)) :: (5, .inl (.int (lwC [1, 3] rs))) :: lvL b (nI n)) [.inl (.int (kV κ2 5 0 0 0))]
      rw [hth]
      refine J_iload O.mo dL_law_1270 1 rfl ?_
      refine J_icmp_eq O.mo (tgt := 1277) dL_law_1272 (by decide) (fun _ => ?_) (fun hz => absurd rfl hz)
      refine J_iload O.mo dL_law_1277 1 rfl ?_
      refine J_if_ne O.mo (tgt := 1294) dL_law_1279 (by decide) (fun _ => ?_) (fun hz => ?_)
      · refine J_goto O.mo (tgt := 2121) dL_law_1294 (by decide) ?_
        exact J_sub [2, 3, 4, 5, 6] rfl kk
      · cases rs with
        | inr e =>
          exfalso
          have he1 := he e rfl
          simp only [List.mem_cons, List.not_mem_nil, or_false] at he1
          rcases he1 with rfl | rfl <;> exact absurd hz (by decide)
        | inl r =>
          refine J_aload_n O.mo dL_law_1282 5 rfl ?_
          refine J_iconst O.mo (v := 0) dL_law_1283 (by decide) ?_
          refine J_lald O h6 rfl vp00 (kj := 0) (by decide) dL_law_1284 ?_
          rw [hc r rfl]
          refine J_iload O.mo dL_law_1285 0 rfl ?_
          refine J_i2l O.mo dL_law_1287 ?_
          refine J_lcmp O.mo dL_law_1288 ?_
          rw [lg_cmp_self]
          refine J_if_eq O.mo (tgt := 1294) dL_law_1289 (by decide) (fun _ => ?_) (fun hz => absurd rfl hz)
          refine J_goto O.mo (tgt := 2121) dL_law_1294 (by decide) ?_
          exact J_sub [2, 3, 4, 5, 6] rfl kk
noncomputable def lw_mend (E : EE) (κ : K) (a1 : Int32) : Option (EE × K) := match f_X10_mend E κ a1 with
  | none => none
  | some (κ1, rs) => match f_X11_mend E κ1 a1 with
    | none => none
    | some (κ2, c) => gdp ((∀ e, rs = .inr e → e ∈ ([1, 3] : List Nat)) ∧ kV κ2 5 0 0 0 = lwC [1, 3] rs) (some (E, κ2))
set_option maxHeartbeats 4000000 in
set_option maxRecDepth 100000 in
theorem w_law_mend {l0 : Launch} (hfl : l0.stackTraces = false) {X : MX} {B : BX (EE × K)} {g : GP} (O : CK l0 X B g cL_law RL 12 462) (hKP : ∀ E, KPok B E) (hmL : B.2.2.2.1 = 7) {b L : Nat} {xs : Nat → Int32} (hs : B.2.2.2.2.2.2.2.2 X → LWX b L xs B.2.2.1 X) {n : Nat} (hn : n + 4 < L) (hL : L ≤ 2560) {E : EE} {κ : K} (hO : OKE E) {x' : EE × K} (h : lw_mend E κ (xs (n + 1)) = some x') (kk : J X B x' 2121 (lvL b (nI n)) []) : J X B (E, κ) 1297 (lvL b (nI n)) [] := by
  obtain ⟨h0, h5, h6, hH, hRN⟩ := hO
  have hS : Stab E (.inr (some (6, 0, 0))) := ⟨h6, by decide⟩
  unfold lw_mend at h
  cases hf : f_X10_mend E κ (xs (n + 1)) with
  | none => rw [hf] at h; cases h
  | some q =>
    obtain ⟨κ1, rs⟩ := q
    rw [hf] at h
    dsimp only at h
    cases hm : f_X11_mend E κ1 (xs (n + 1)) with
    | none => rw [hm] at h; cases h
    | some q =>
      obtain ⟨κ2, c⟩ := q
      rw [hm] at h
      dsimp only at h
      obtain ⟨⟨he, hth⟩, h⟩ := gdp_some h
      cases h
      refine J_aload_n O.mo dL_law_1297 1 rfl ?_
      refine J_arg O hs (n := n) (k := 1) (by omega) hL (by decide) (q0 := 0) (q4 := 4) rfl rfl dL_law_1298 dL_law_1299 dL_law_1301 dL_law_1302 dL_law_1303 ?_
      refine J_callSW O (hKP _) (as := [.inr (some (4, 0, 0)), .inl (.int (xs (n + 1)))]) (rest := []) (r := some (.inl (.int (lwC [1, 3] rs)))) (c_L_mend hfl h0 hf he) rfl mw1060 mw1061 mw945 mw1062 pd_L_mend rfl (by decide) rfl (Nat.le_of_ble_eq_true rfl) (sl_v (sl_p (s10_0 h0) (sl_p (s11_0 h5) (sl_p hS (sl_v sl_0))))) st_0 dL_law_1304 ?_
      change J X B (E, κ1) 1307 (lvL b (nI n)) [.inl (.int (lwC [1, 3] rs))]
      refine J_istore O.mo (lv' := lvL b (nI n)) dL_law_1307 (by rw [hmL]; decide) rfl rfl ?_
      refine J_aload_n O.mo dL_law_1309 3 rfl ?_
      refine J_arg O hs (n := n) (k := 1) (by omega) hL (by decide) (q0 := 1) (q4 := 5) rfl rfl dL_law_1310 dL_law_1311 dL_law_1313 dL_law_1314 dL_law_1315 ?_
      refine J_callV O (hKP _) (as := [.inl (.int (xs (n + 1)))]) (rest := []) (r := none) (c_X11_mend hfl h5 hm) rfl (kd0 := 11) (k11_0 h5) (l11_0 h5) (T := TX11) (N := 42) rfl (by decide) mw1063 mw1064 mw1065 mw517 mw1066 pd_X11_mend rfl (by decide) rfl (Nat.le_of_ble_eq_true rfl) (sl_v (sl_v (sl_p (s10_0 h0) (sl_p (s11_0 h5) (sl_p hS (sl_v sl_0)))))) st_0 dL_law_1316 ?_
      change J X B (E, κ2) 1319 ((5, .inl (.int (lwC [1, 3] rs))) :: lvL b (nI n)) []
      refine J_aload_n O.mo dL_law_1319 3 rfl ?_
      refine J_callV O (hKP _) (as := []) (rest := []) (r := some (.inl (.int (kV κ2 5 0 0 0)))) (c_X11_thrown hfl h5 rfl) rfl (kd0 := 11) (k11_0 h5) (l11_0 h5) (T := TX11) (N := 42) rfl (by decide) mw951 mw952 mw953 mw517 mw954 pd_X11_thrown rfl (by decide) rfl (Nat.le_of_ble_eq_true rfl) (sl_v (sl_v (sl_p (s10_0 h0) (sl_p (s11_0 h5) (sl_p hS (sl_v sl_0)))))) st_0 dL_law_1320 ?_
      change J X B (E, κ2) 1323 ((5, .inl (.int (lwC [1, 3] rs))) :: lvL b (nI n)) [.inl (.int (kV κ2 5 0 0 0))]
      rw [hth]
      refine J_iload O.mo dL_law_1323 0 rfl ?_
      refine J_icmp_eq O.mo (tgt := 1330) dL_law_1325 (by decide) (fun _ => ?_) (fun hz => absurd rfl hz)
      refine J_goto O.mo (tgt := 2121) dL_law_1330 (by decide) ?_
      exact J_sub [1, 2, 3, 4, 5] rfl kk
noncomputable def lw_time (E : EE) (κ : K) : Option (EE × K) := match f_X10_time E κ with
  | none => none
  | some (κ1, a) => match f_X11_time E κ1 with
    | none => none
    | some (κ2, c) => gdp (a = c) (some (E, κ2))
set_option maxHeartbeats 4000000 in
set_option maxRecDepth 100000 in
theorem w_law_time {l0 : Launch} (hfl : l0.stackTraces = false) {X : MX} {B : BX (EE × K)} {g : GP} (O : CK l0 X B g cL_law RL 12 462) (hKP : ∀ E, KPok B E) (hmL : B.2.2.2.1 = 7) {b L : Nat} {xs : Nat → Int32} (hs : B.2.2.2.2.2.2.2.2 X → LWX b L xs B.2.2.1 X) {n : Nat} (hn : n + 4 < L) (hL : L ≤ 2560) {E : EE} {κ : K} (hO : OKE E) {x' : EE × K} (h : lw_time E κ = some x') (kk : J X B x' 2121 (lvL b (nI n)) []) : J X B (E, κ) 1333 (lvL b (nI n)) [] := by
  obtain ⟨h0, h5, h6, hH, hRN⟩ := hO
  have hS : Stab E (.inr (some (6, 0, 0))) := ⟨h6, by decide⟩
  unfold lw_time at h
  cases hf : f_X10_time E κ with
  | none => rw [hf] at h; cases h
  | some q =>
    obtain ⟨κ1, a⟩ := q
    rw [hf] at h
    dsimp only at h
    cases hm : f_X11_time E κ1 with
    | none => rw [hm] at h; cases h
    | some q =>
      obtain ⟨κ2, c⟩ := q
      rw [hm] at h
      dsimp only at h
      obtain ⟨hac, h⟩ := gdp_some h
      cases h
      subst hac
      refine J_aload_n O.mo dL_law_1333 1 rfl ?_
      refine J_callV O (hKP _) (as := []) (rest := []) (r := some (.inl (.int a))) (c_X10_time hfl h0 hf) rfl (kd0 := 10) (k10_0 h0) (l10_0 h0) (T := TX10) (N := 4) rfl (by decide) mw1067 mw1068 mw1069 mw320 mw1070 pd_X10_time rfl (by decide) rfl (Nat.le_of_ble_eq_true rfl) (sl_v (sl_p (s10_0 h0) (sl_p (s11_0 h5) (sl_p hS (sl_v sl_0))))) st_0 dL_law_1334 ?_
      show J X B (E, κ1) 1337 (lvL b (nI n)) [.inl (.int a)]
      refine J_aload_n O.mo dL_law_1337 2 rfl ?_
      refine J_callV O (hKP _) (as := []) (rest := [.inl (.int a)]) (r := some (.inl (.int a))) (c_X11_time hfl h5 hm) rfl (kd0 := 11) (k11_0 h5) (l11_0 h5) (T := TX11) (N := 42) rfl (by decide) mw1071 mw1072 mw1073 mw517 mw1074 pd_X11_time rfl (by decide) rfl (Nat.le_of_ble_eq_true rfl) (sl_v (sl_p (s10_0 h0) (sl_p (s11_0 h5) (sl_p hS (sl_v sl_0))))) (st_v st_0) dL_law_1338 ?_
      show J X B (E, κ2) 1341 (lvL b (nI n)) [.inl (.int a), .inl (.int a)]
      exact J_icmp_eq O.mo (tgt := 2121) dL_law_1341 (by decide) (fun _ => kk) (fun hc => absurd rfl hc)
noncomputable def lw_of (E : EE) (κ : K) (a1 a2 : Int32) : Option (EE × K) := match f_X10_of E κ a1 a2 with
  | none => none
  | some (κ1, rs) => match f_X11_of E (lwS κ1 rs) a1 a2 with
    | none => none
    | some (κ2, c) => gdp ((∀ e, rs = .inr e → e ∈ ([1, 2] : List Nat)) ∧ kV κ2 5 0 0 0 = lwC [1, 2] rs ∧ ∀ r, rs = .inl r → kV κ2 6 0 0 0 = c) (some (E, κ2))
set_option maxHeartbeats 4000000 in
set_option maxRecDepth 100000 in
theorem w_law_of {l0 : Launch} (hfl : l0.stackTraces = false) {X : MX} {B : BX (EE × K)} {g : GP} (O : CK l0 X B g cL_law RL 12 462) (hKP : ∀ E, KPok B E) (hmL : B.2.2.2.1 = 7) {b L : Nat} {xs : Nat → Int32} (hs : B.2.2.2.2.2.2.2.2 X → LWX b L xs B.2.2.1 X) {n : Nat} (hn : n + 4 < L) (hL : L ≤ 2560) {E : EE} {κ : K} (hO : OKE E) {x' : EE × K} (h : lw_of E κ (xs (n + 1)) (xs (n + 2)) = some x') (kk : J X B x' 2121 (lvL b (nI n)) []) : J X B (E, κ) 1346 (lvL b (nI n)) [] := by
  obtain ⟨h0, h5, h6, hH, hRN⟩ := hO
  have hS : Stab E (.inr (some (6, 0, 0))) := ⟨h6, by decide⟩
  unfold lw_of at h
  cases hf : f_X10_of E κ (xs (n + 1)) (xs (n + 2)) with
  | none => rw [hf] at h; cases h
  | some q =>
    obtain ⟨κ1, rs⟩ := q
    rw [hf] at h
    dsimp only at h
    cases hm : f_X11_of E (lwS κ1 rs) (xs (n + 1)) (xs (n + 2)) with
    | none => rw [hm] at h; cases h
    | some q =>
      obtain ⟨κ2, c⟩ := q
      rw [hm] at h
      dsimp only at h
      obtain ⟨⟨he, hth, hc⟩, h⟩ := gdp_some h
      cases h
      refine J_aload_n O.mo dL_law_1346 1 rfl ?_
      refine J_arg O hs (n := n) (k := 1) (by omega) hL (by decide) (q0 := 0) (q4 := 4) rfl rfl dL_law_1347 dL_law_1348 dL_law_1350 dL_law_1351 dL_law_1352 ?_
      refine J_arg O hs (n := n) (k := 2) (by omega) hL (by decide) (q0 := 0) (q4 := 4) rfl rfl dL_law_1353 dL_law_1354 dL_law_1356 dL_law_1357 dL_law_1358 ?_
      refine J_aload_n O.mo dL_law_1359 3 rfl ?_
      refine J_callSW O (hKP _) (as := [.inr (some (4, 0, 0)), .inl (.int (xs (n + 1))), .inl (.int (xs (n + 2))), .inr (some (6, 0, 0))]) (rest := []) (r := some (.inl (.int (lwC [1, 2] rs)))) (c_L_of hfl h0 h6 hf he) rfl mw1075 mw1076 mw945 mw1077 pd_L_of rfl (by decide) rfl (Nat.le_of_ble_eq_true rfl) (sl_v (sl_p (s10_0 h0) (sl_p (s11_0 h5) (sl_p hS (sl_v sl_0))))) st_0 dL_law_1360 ?_
      change J X B (E, (lwS κ1 rs)) 1363 (lvL b (nI n)) [.inl (.int (lwC [1, 2] rs))]
      refine J_istore O.mo (lv' := lvL b (nI n)) dL_law_1363 (by rw [hmL]; decide) rfl rfl ?_
      refine J_aload_n O.mo dL_law_1365 3 rfl ?_
      refine J_arg O hs (n := n) (k := 1) (by omega) hL (by decide) (q0 := 1) (q4 := 5) rfl rfl dL_law_1366 dL_law_1367 dL_law_1369 dL_law_1370 dL_law_1371 ?_
      refine J_arg O hs (n := n) (k := 2) (by omega) hL (by decide) (q0 := 1) (q4 := 5) rfl rfl dL_law_1372 dL_law_1373 dL_law_1375 dL_law_1376 dL_law_1377 ?_
      refine J_callV O (hKP _) (as := [.inl (.int (xs (n + 1))), .inl (.int (xs (n + 2)))]) (rest := []) (r := some (.inl (.int c))) (c_X11_of hfl h5 hm) rfl (kd0 := 11) (k11_0 h5) (l11_0 h5) (T := TX11) (N := 42) rfl (by decide) mw1078 mw1079 mw1080 mw517 mw1081 pd_X11_of rfl (by decide) rfl (Nat.le_of_ble_eq_true rfl) (sl_v (sl_v (sl_p (s10_0 h0) (sl_p (s11_0 h5) (sl_p hS (sl_v sl_0)))))) st_0 dL_law_1378 ?_
      change J X B (E, κ2) 1381 ((5, .inl (.int (lwC [1, 2] rs))) :: lvL b (nI n)) [.inl (.int c)]
      refine J_istore O.mo (lv' := ((5, .inl (.int (lwC [1, 2] rs))) :: lvL b (nI n))) dL_law_1381 (by rw [hmL]; decide) rfl rfl ?_
      refine J_aload_n O.mo dL_law_1383 4 rfl ?_
      refine J_callV O (hKP _) (as := []) (rest := []) (r := some (.inl (.int (kV κ2 5 0 0 0)))) (c_X11_thrown hfl h5 rfl) rfl (kd0 := 11) (k11_0 h5) (l11_0 h5) (T := TX11) (N := 42) rfl (by decide) mw951 mw952 mw953 mw517 mw954 pd_X11_thrown rfl (by decide) rfl (Nat.le_of_ble_eq_true rfl) (sl_v (sl_v (sl_v (sl_p (s10_0 h0) (sl_p (s11_0 h5) (sl_p hS (sl_v sl_0))))))) st_0 dL_law_1384 ?_
      change J X B (E, κ2) 1387 ((6, .inl (.int c)) :: (5, .inl (.int (lwC [1, 2] rs))) :: lvL b (nI n)) [.inl (.int (kV κ2 5 0 0 0))]
      rw [hth]
      refine J_iload O.mo dL_law_1387 1 rfl ?_
      refine J_icmp_eq O.mo (tgt := 1394) dL_law_1389 (by decide) (fun _ => ?_) (fun hz => absurd rfl hz)
      refine J_iload O.mo dL_law_1394 1 rfl ?_
      refine J_if_ne O.mo (tgt := 1411) dL_law_1396 (by decide) (fun _ => ?_) (fun hz => ?_)
      · refine J_goto O.mo (tgt := 2121) dL_law_1411 (by decide) ?_
        exact J_sub [2, 3, 4, 5, 6] rfl kk
      · cases rs with
        | inr e =>
          exfalso
          have he1 := he e rfl
          simp only [List.mem_cons, List.not_mem_nil, or_false] at he1
          rcases he1 with rfl | rfl <;> exact absurd hz (by decide)
        | inl r =>
          refine J_aload_n O.mo dL_law_1399 5 rfl ?_
          refine J_iconst O.mo (v := 0) dL_law_1400 (by decide) ?_
          refine J_lald O h6 rfl vp00 (kj := 0) (by decide) dL_law_1401 ?_
          rw [hc r rfl]
          refine J_iload O.mo dL_law_1402 0 rfl ?_
          refine J_i2l O.mo dL_law_1404 ?_
          refine J_lcmp O.mo dL_law_1405 ?_
          rw [lg_cmp_self]
          refine J_if_eq O.mo (tgt := 1411) dL_law_1406 (by decide) (fun _ => ?_) (fun hz => absurd rfl hz)
          refine J_goto O.mo (tgt := 2121) dL_law_1411 (by decide) ?_
          exact J_sub [2, 3, 4, 5, 6] rfl kk
noncomputable def lw_register (E : EE) (κ : K) (a1 a2 : Int32) : Option (EE × K) := match f_X10_register E κ a1 a2 with
  | none => none
  | some (κ1, rs) => match f_X11_register E (lwS κ1 rs) a1 a2 with
    | none => none
    | some (κ2, c) => gdp ((∀ e, rs = .inr e → e ∈ ([1] : List Nat)) ∧ kV κ2 5 0 0 0 = lwC [1] rs ∧ ∀ r, rs = .inl r → kV κ2 6 0 0 0 = c) (some (E, κ2))
set_option maxHeartbeats 4000000 in
set_option maxRecDepth 100000 in
theorem w_law_register {l0 : Launch} (hfl : l0.stackTraces = false) {X : MX} {B : BX (EE × K)} {g : GP} (O : CK l0 X B g cL_law RL 12 462) (hKP : ∀ E, KPok B E) (hmL : B.2.2.2.1 = 7) {b L : Nat} {xs : Nat → Int32} (hs : B.2.2.2.2.2.2.2.2 X → LWX b L xs B.2.2.1 X) {n : Nat} (hn : n + 4 < L) (hL : L ≤ 2560) {E : EE} {κ : K} (hO : OKE E) {x' : EE × K} (h : lw_register E κ (xs (n + 1)) (xs (n + 2)) = some x') (kk : J X B x' 2121 (lvL b (nI n)) []) : J X B (E, κ) 1414 (lvL b (nI n)) [] := by
  obtain ⟨h0, h5, h6, hH, hRN⟩ := hO
  have hS : Stab E (.inr (some (6, 0, 0))) := ⟨h6, by decide⟩
  unfold lw_register at h
  cases hf : f_X10_register E κ (xs (n + 1)) (xs (n + 2)) with
  | none => rw [hf] at h; cases h
  | some q =>
    obtain ⟨κ1, rs⟩ := q
    rw [hf] at h
    dsimp only at h
    cases hm : f_X11_register E (lwS κ1 rs) (xs (n + 1)) (xs (n + 2)) with
    | none => rw [hm] at h; cases h
    | some q =>
      obtain ⟨κ2, c⟩ := q
      rw [hm] at h
      dsimp only at h
      obtain ⟨⟨he, hth, hc⟩, h⟩ := gdp_some h
      cases h
      refine J_aload_n O.mo dL_law_1414 1 rfl ?_
      refine J_arg O hs (n := n) (k := 1) (by omega) hL (by decide) (q0 := 0) (q4 := 4) rfl rfl dL_law_1415 dL_law_1416 dL_law_1418 dL_law_1419 dL_law_1420 ?_
      refine J_arg O hs (n := n) (k := 2) (by omega) hL (by decide) (q0 := 0) (q4 := 4) rfl rfl dL_law_1421 dL_law_1422 dL_law_1424 dL_law_1425 dL_law_1426 ?_
      refine J_aload_n O.mo dL_law_1427 3 rfl ?_
      refine J_callSW O (hKP _) (as := [.inr (some (4, 0, 0)), .inl (.int (xs (n + 1))), .inl (.int (xs (n + 2))), .inr (some (6, 0, 0))]) (rest := []) (r := some (.inl (.int (lwC [1] rs)))) (c_L_register hfl h0 h6 hf he) rfl mw1082 mw1083 mw945 mw1084 pd_L_register rfl (by decide) rfl (Nat.le_of_ble_eq_true rfl) (sl_v (sl_p (s10_0 h0) (sl_p (s11_0 h5) (sl_p hS (sl_v sl_0))))) st_0 dL_law_1428 ?_
      change J X B (E, (lwS κ1 rs)) 1431 (lvL b (nI n)) [.inl (.int (lwC [1] rs))]
      refine J_istore O.mo (lv' := lvL b (nI n)) dL_law_1431 (by rw [hmL]; decide) rfl rfl ?_
      refine J_aload_n O.mo dL_law_1433 3 rfl ?_
      refine J_arg O hs (n := n) (k := 1) (by omega) hL (by decide) (q0 := 1) (q4 := 5) rfl rfl dL_law_1434 dL_law_1435 dL_law_1437 dL_law_1438 dL_law_1439 ?_
      refine J_arg O hs (n := n) (k := 2) (by omega) hL (by decide) (q0 := 1) (q4 := 5) rfl rfl dL_law_1440 dL_law_1441 dL_law_1443 dL_law_1444 dL_law_1445 ?_
      refine J_callV O (hKP _) (as := [.inl (.int (xs (n + 1))), .inl (.int (xs (n + 2)))]) (rest := []) (r := some (.inl (.int c))) (c_X11_register hfl h5 hm) rfl (kd0 := 11) (k11_0 h5) (l11_0 h5) (T := TX11) (N := 42) rfl (by decide) mw1085 mw1086 mw1087 mw517 mw1088 pd_X11_register rfl (by decide) rfl (Nat.le_of_ble_eq_true rfl) (sl_v (sl_v (sl_p (s10_0 h0) (sl_p (s11_0 h5) (sl_p hS (sl_v sl_0)))))) st_0 dL_law_1446 ?_
      change J X B (E, κ2) 1449 ((5, .inl (.int (lwC [1] rs))) :: lvL b (nI n)) [.inl (.int c)]
      refine J_istore O.mo (lv' := ((5, .inl (.int (lwC [1] rs))) :: lvL b (nI n))) dL_law_1449 (by rw [hmL]; decide) rfl rfl ?_
      refine J_aload_n O.mo dL_law_1451 4 rfl ?_
      refine J_callV O (hKP _) (as := []) (rest := []) (r := some (.inl (.int (kV κ2 5 0 0 0)))) (c_X11_thrown hfl h5 rfl) rfl (kd0 := 11) (k11_0 h5) (l11_0 h5) (T := TX11) (N := 42) rfl (by decide) mw951 mw952 mw953 mw517 mw954 pd_X11_thrown rfl (by decide) rfl (Nat.le_of_ble_eq_true rfl) (sl_v (sl_v (sl_v (sl_p (s10_0 h0) (sl_p (s11_0 h5) (sl_p hS (sl_v sl_0))))))) st_0 dL_law_1452 ?_
      change J X B (E, κ2) 1455 ((6, .inl (.int c)) :: (5, .inl (.int (lwC [1] rs))) :: lvL b (nI n)) [.inl (.int (kV κ2 5 0 0 0))]
      rw [hth]
      refine J_iload O.mo dL_law_1455 1 rfl ?_
      refine J_icmp_eq O.mo (tgt := 1462) dL_law_1457 (by decide) (fun _ => ?_) (fun hz => absurd rfl hz)
      refine J_iload O.mo dL_law_1462 1 rfl ?_
      refine J_if_ne O.mo (tgt := 1479) dL_law_1464 (by decide) (fun _ => ?_) (fun hz => ?_)
      · refine J_goto O.mo (tgt := 2121) dL_law_1479 (by decide) ?_
        exact J_sub [2, 3, 4, 5, 6] rfl kk
      · cases rs with
        | inr e =>
          exfalso
          have he1 := he e rfl
          simp only [List.mem_cons, List.not_mem_nil, or_false] at he1
          subst he1
          exact absurd hz (by decide)
        | inl r =>
          refine J_aload_n O.mo dL_law_1467 5 rfl ?_
          refine J_iconst O.mo (v := 0) dL_law_1468 (by decide) ?_
          refine J_lald O h6 rfl vp00 (kj := 0) (by decide) dL_law_1469 ?_
          rw [hc r rfl]
          refine J_iload O.mo dL_law_1470 0 rfl ?_
          refine J_i2l O.mo dL_law_1472 ?_
          refine J_lcmp O.mo dL_law_1473 ?_
          rw [lg_cmp_self]
          refine J_if_eq O.mo (tgt := 1479) dL_law_1474 (by decide) (fun _ => ?_) (fun hz => absurd rfl hz)
          refine J_goto O.mo (tgt := 2121) dL_law_1479 (by decide) ?_
          exact J_sub [2, 3, 4, 5, 6] rfl kk
noncomputable def lw_word (E : EE) (κ : K) (a1 a2 a3 : Int32) : Option (EE × K) := match f_X10_word E κ a1 a2 a3 with
  | none => none
  | some (κ1, rs) => match f_X11_word E (lwS κ1 rs) a1 a2 a3 with
    | none => none
    | some (κ2, c) => gdp ((∀ e, rs = .inr e → e ∈ ([1] : List Nat)) ∧ kV κ2 5 0 0 0 = lwC [1] rs ∧ ∀ r, rs = .inl r → kV κ2 6 0 0 0 = c) (some (E, κ2))
set_option maxHeartbeats 4000000 in
set_option maxRecDepth 100000 in
theorem w_law_word {l0 : Launch} (hfl : l0.stackTraces = false) {X : MX} {B : BX (EE × K)} {g : GP} (O : CK l0 X B g cL_law RL 12 462) (hKP : ∀ E, KPok B E) (hmL : B.2.2.2.1 = 7) {b L : Nat} {xs : Nat → Int32} (hs : B.2.2.2.2.2.2.2.2 X → LWX b L xs B.2.2.1 X) {n : Nat} (hn : n + 4 < L) (hL : L ≤ 2560) {E : EE} {κ : K} (hO : OKE E) {x' : EE × K} (h : lw_word E κ (xs (n + 1)) (xs (n + 2)) (xs (n + 3)) = some x') (kk : J X B x' 2121 (lvL b (nI n)) []) : J X B (E, κ) 1482 (lvL b (nI n)) [] := by
  obtain ⟨h0, h5, h6, hH, hRN⟩ := hO
  have hS : Stab E (.inr (some (6, 0, 0))) := ⟨h6, by decide⟩
  unfold lw_word at h
  cases hf : f_X10_word E κ (xs (n + 1)) (xs (n + 2)) (xs (n + 3)) with
  | none => rw [hf] at h; cases h
  | some q =>
    obtain ⟨κ1, rs⟩ := q
    rw [hf] at h
    dsimp only at h
    cases hm : f_X11_word E (lwS κ1 rs) (xs (n + 1)) (xs (n + 2)) (xs (n + 3)) with
    | none => rw [hm] at h; cases h
    | some q =>
      obtain ⟨κ2, c⟩ := q
      rw [hm] at h
      dsimp only at h
      obtain ⟨⟨he, hth, hc⟩, h⟩ := gdp_some h
      cases h
      refine J_aload_n O.mo dL_law_1482 1 rfl ?_
      refine J_arg O hs (n := n) (k := 1) (by omega) hL (by decide) (q0 := 0) (q4 := 4) rfl rfl dL_law_1483 dL_law_1484 dL_law_1486 dL_law_1487 dL_law_1488 ?_
      refine J_arg O hs (n := n) (k := 2) (by omega) hL (by decide) (q0 := 0) (q4 := 4) rfl rfl dL_law_1489 dL_law_1490 dL_law_1492 dL_law_1493 dL_law_1494 ?_
      refine J_arg O hs (n := n) (k := 3) (by omega) hL (by decide) (q0 := 0) (q4 := 4) rfl rfl dL_law_1495 dL_law_1496 dL_law_1498 dL_law_1499 dL_law_1500 ?_
      refine J_aload_n O.mo dL_law_1501 3 rfl ?_
      refine J_callSW O (hKP _) (as := [.inr (some (4, 0, 0)), .inl (.int (xs (n + 1))), .inl (.int (xs (n + 2))), .inl (.int (xs (n + 3))), .inr (some (6, 0, 0))]) (rest := []) (r := some (.inl (.int (lwC [1] rs)))) (c_L_word hfl h0 h6 hf he) rfl mw1089 mw1090 mw945 mw1091 pd_L_word rfl (by decide) rfl (Nat.le_of_ble_eq_true rfl) (sl_v (sl_p (s10_0 h0) (sl_p (s11_0 h5) (sl_p hS (sl_v sl_0))))) st_0 dL_law_1502 ?_
      change J X B (E, (lwS κ1 rs)) 1505 (lvL b (nI n)) [.inl (.int (lwC [1] rs))]
      refine J_istore O.mo (lv' := lvL b (nI n)) dL_law_1505 (by rw [hmL]; decide) rfl rfl ?_
      refine J_aload_n O.mo dL_law_1507 3 rfl ?_
      refine J_arg O hs (n := n) (k := 1) (by omega) hL (by decide) (q0 := 1) (q4 := 5) rfl rfl dL_law_1508 dL_law_1509 dL_law_1511 dL_law_1512 dL_law_1513 ?_
      refine J_arg O hs (n := n) (k := 2) (by omega) hL (by decide) (q0 := 1) (q4 := 5) rfl rfl dL_law_1514 dL_law_1515 dL_law_1517 dL_law_1518 dL_law_1519 ?_
      refine J_arg O hs (n := n) (k := 3) (by omega) hL (by decide) (q0 := 1) (q4 := 5) rfl rfl dL_law_1520 dL_law_1521 dL_law_1523 dL_law_1524 dL_law_1525 ?_
      refine J_callV O (hKP _) (as := [.inl (.int (xs (n + 1))), .inl (.int (xs (n + 2))), .inl (.int (xs (n + 3)))]) (rest := []) (r := some (.inl (.int c))) (c_X11_word hfl h5 hm) rfl (kd0 := 11) (k11_0 h5) (l11_0 h5) (T := TX11) (N := 42) rfl (by decide) mw1092 mw1093 mw1094 mw517 mw1095 pd_X11_word rfl (by decide) rfl (Nat.le_of_ble_eq_true rfl) (sl_v (sl_v (sl_p (s10_0 h0) (sl_p (s11_0 h5) (sl_p hS (sl_v sl_0)))))) st_0 dL_law_1526 ?_
      change J X B (E, κ2) 1529 ((5, .inl (.int (lwC [1] rs))) :: lvL b (nI n)) [.inl (.int c)]
      refine J_istore O.mo (lv' := ((5, .inl (.int (lwC [1] rs))) :: lvL b (nI n))) dL_law_1529 (by rw [hmL]; decide) rfl rfl ?_
      refine J_aload_n O.mo dL_law_1531 4 rfl ?_
      refine J_callV O (hKP _) (as := []) (rest := []) (r := some (.inl (.int (kV κ2 5 0 0 0)))) (c_X11_thrown hfl h5 rfl) rfl (kd0 := 11) (k11_0 h5) (l11_0 h5) (T := TX11) (N := 42) rfl (by decide) mw951 mw952 mw953 mw517 mw954 pd_X11_thrown rfl (by decide) rfl (Nat.le_of_ble_eq_true rfl) (sl_v (sl_v (sl_v (sl_p (s10_0 h0) (sl_p (s11_0 h5) (sl_p hS (sl_v sl_0))))))) st_0 dL_law_1532 ?_
      change J X B (E, κ2) 1535 ((6, .inl (.int c)) :: (5, .inl (.int (lwC [1] rs))) :: lvL b (nI n)) [.inl (.int (kV κ2 5 0 0 0))]
      rw [hth]
      refine J_iload O.mo dL_law_1535 1 rfl ?_
      refine J_icmp_eq O.mo (tgt := 1542) dL_law_1537 (by decide) (fun _ => ?_) (fun hz => absurd rfl hz)
      refine J_iload O.mo dL_law_1542 1 rfl ?_
      refine J_if_ne O.mo (tgt := 1559) dL_law_1544 (by decide) (fun _ => ?_) (fun hz => ?_)
      · refine J_goto O.mo (tgt := 2121) dL_law_1559 (by decide) ?_
        exact J_sub [2, 3, 4, 5, 6] rfl kk
      · cases rs with
        | inr e =>
          exfalso
          have he1 := he e rfl
          simp only [List.mem_cons, List.not_mem_nil, or_false] at he1
          subst he1
          exact absurd hz (by decide)
        | inl r =>
          refine J_aload_n O.mo dL_law_1547 5 rfl ?_
          refine J_iconst O.mo (v := 0) dL_law_1548 (by decide) ?_
          refine J_lald O h6 rfl vp00 (kj := 0) (by decide) dL_law_1549 ?_
          rw [hc r rfl]
          refine J_iload O.mo dL_law_1550 0 rfl ?_
          refine J_i2l O.mo dL_law_1552 ?_
          refine J_lcmp O.mo dL_law_1553 ?_
          rw [lg_cmp_self]
          refine J_if_eq O.mo (tgt := 1559) dL_law_1554 (by decide) (fun _ => ?_) (fun hz => absurd rfl hz)
          refine J_goto O.mo (tgt := 2121) dL_law_1559 (by decide) ?_
          exact J_sub [2, 3, 4, 5, 6] rfl kk
noncomputable def lw_pageOf (E : EE) (κ : K) (a1 a2 : Int32) : Option (EE × K) := match f_X10_pageOf E κ a1 a2 with
  | none => none
  | some (κ1, rs) => match f_X11_pageOf E (lwS κ1 rs) a1 a2 with
    | none => none
    | some (κ2, c) => gdp ((∀ e, rs = .inr e → e ∈ ([1] : List Nat)) ∧ kV κ2 5 0 0 0 = lwC [1] rs ∧ ∀ r, rs = .inl r → kV κ2 6 0 0 0 = c) (some (E, κ2))
set_option maxHeartbeats 4000000 in
set_option maxRecDepth 100000 in
theorem w_law_pageOf {l0 : Launch} (hfl : l0.stackTraces = false) {X : MX} {B : BX (EE × K)} {g : GP} (O : CK l0 X B g cL_law RL 12 462) (hKP : ∀ E, KPok B E) (hmL : B.2.2.2.1 = 7) {b L : Nat} {xs : Nat → Int32} (hs : B.2.2.2.2.2.2.2.2 X → LWX b L xs B.2.2.1 X) {n : Nat} (hn : n + 4 < L) (hL : L ≤ 2560) {E : EE} {κ : K} (hO : OKE E) {x' : EE × K} (h : lw_pageOf E κ (xs (n + 1)) (xs (n + 2)) = some x') (kk : J X B x' 2121 (lvL b (nI n)) []) : J X B (E, κ) 1562 (lvL b (nI n)) [] := by
  obtain ⟨h0, h5, h6, hH, hRN⟩ := hO
  have hS : Stab E (.inr (some (6, 0, 0))) := ⟨h6, by decide⟩
  unfold lw_pageOf at h
  cases hf : f_X10_pageOf E κ (xs (n + 1)) (xs (n + 2)) with
  | none => rw [hf] at h; cases h
  | some q =>
    obtain ⟨κ1, rs⟩ := q
    rw [hf] at h
    dsimp only at h
    cases hm : f_X11_pageOf E (lwS κ1 rs) (xs (n + 1)) (xs (n + 2)) with
    | none => rw [hm] at h; cases h
    | some q =>
      obtain ⟨κ2, c⟩ := q
      rw [hm] at h
      dsimp only at h
      obtain ⟨⟨he, hth, hc⟩, h⟩ := gdp_some h
      cases h
      refine J_aload_n O.mo dL_law_1562 1 rfl ?_
      refine J_arg O hs (n := n) (k := 1) (by omega) hL (by decide) (q0 := 0) (q4 := 4) rfl rfl dL_law_1563 dL_law_1564 dL_law_1566 dL_law_1567 dL_law_1568 ?_
      refine J_arg O hs (n := n) (k := 2) (by omega) hL (by decide) (q0 := 0) (q4 := 4) rfl rfl dL_law_1569 dL_law_1570 dL_law_1572 dL_law_1573 dL_law_1574 ?_
      refine J_aload_n O.mo dL_law_1575 3 rfl ?_
      refine J_callSW O (hKP _) (as := [.inr (some (4, 0, 0)), .inl (.int (xs (n + 1))), .inl (.int (xs (n + 2))), .inr (some (6, 0, 0))]) (rest := []) (r := some (.inl (.int (lwC [1] rs)))) (c_L_pageOf hfl h0 h6 hf he) rfl mw1096 mw1097 mw945 mw1098 pd_L_pageOf rfl (by decide) rfl (Nat.le_of_ble_eq_true rfl) (sl_v (sl_p (s10_0 h0) (sl_p (s11_0 h5) (sl_p hS (sl_v sl_0))))) st_0 dL_law_1576 ?_
      change J X B (E, (lwS κ1 rs)) 1579 (lvL b (nI n)) [.inl (.int (lwC [1] rs))]
      refine J_istore O.mo (lv' := lvL b (nI n)) dL_law_1579 (by rw [hmL]; decide) rfl rfl ?_
      refine J_aload_n O.mo dL_law_1581 3 rfl ?_
      refine J_arg O hs (n := n) (k := 1) (by omega) hL (by decide) (q0 := 1) (q4 := 5) rfl rfl dL_law_1582 dL_law_1583 dL_law_1585 dL_law_1586 dL_law_1587 ?_
      refine J_arg O hs (n := n) (k := 2) (by omega) hL (by decide) (q0 := 1) (q4 := 5) rfl rfl dL_law_1588 dL_law_1589 dL_law_1591 dL_law_1592 dL_law_1593 ?_
      refine J_callV O (hKP _) (as := [.inl (.int (xs (n + 1))), .inl (.int (xs (n + 2)))]) (rest := []) (r := some (.inl (.int c))) (c_X11_pageOf hfl h5 hm) rfl (kd0 := 11) (k11_0 h5) (l11_0 h5) (T := TX11) (N := 42) rfl (by decide) mw1099 mw1100 mw1101 mw517 mw1102 pd_X11_pageOf rfl (by decide) rfl (Nat.le_of_ble_eq_true rfl) (sl_v (sl_v (sl_p (s10_0 h0) (sl_p (s11_0 h5) (sl_p hS (sl_v sl_0)))))) st_0 dL_law_1594 ?_
      change J X B (E, κ2) 1597 ((5, .inl (.int (lwC [1] rs))) :: lvL b (nI n)) [.inl (.int c)]
      refine J_istore O.mo (lv' := ((5, .inl (.int (lwC [1] rs))) :: lvL b (nI n))) dL_law_1597 (by rw [hmL]; decide) rfl rfl ?_
      refine J_aload_n O.mo dL_law_1599 4 rfl ?_
      refine J_callV O (hKP _) (as := []) (rest := []) (r := some (.inl (.int (kV κ2 5 0 0 0)))) (c_X11_thrown hfl h5 rfl) rfl (kd0 := 11) (k11_0 h5) (l11_0 h5) (T := TX11) (N := 42) rfl (by decide) mw951 mw952 mw953 mw517 mw954 pd_X11_thrown rfl (by decide) rfl (Nat.le_of_ble_eq_true rfl) (sl_v (sl_v (sl_v (sl_p (s10_0 h0) (sl_p (s11_0 h5) (sl_p hS (sl_v sl_0))))))) st_0 dL_law_1600 ?_
      change J X B (E, κ2) 1603 ((6, .inl (.int c)) :: (5, .inl (.int (lwC [1] rs))) :: lvL b (nI n)) [.inl (.int (kV κ2 5 0 0 0))]
      rw [hth]
      refine J_iload O.mo dL_law_1603 1 rfl ?_
      refine J_icmp_eq O.mo (tgt := 1610) dL_law_1605 (by decide) (fun _ => ?_) (fun hz => absurd rfl hz)
      refine J_iload O.mo dL_law_1610 1 rfl ?_
      refine J_if_ne O.mo (tgt := 1627) dL_law_1612 (by decide) (fun _ => ?_) (fun hz => ?_)
      · refine J_goto O.mo (tgt := 2121) dL_law_1627 (by decide) ?_
        exact J_sub [2, 3, 4, 5, 6] rfl kk
      · cases rs with
        | inr e =>
          exfalso
          have he1 := he e rfl
          simp only [List.mem_cons, List.not_mem_nil, or_false] at he1
          subst he1
          exact absurd hz (by decide)
        | inl r =>
          refine J_aload_n O.mo dL_law_1615 5 rfl ?_
          refine J_iconst O.mo (v := 0) dL_law_1616 (by decide) ?_
          refine J_lald O h6 rfl vp00 (kj := 0) (by decide) dL_law_1617 ?_
          rw [hc r rfl]
          refine J_iload O.mo dL_law_1618 0 rfl ?_
          refine J_i2l O.mo dL_law_1620 ?_
          refine J_lcmp O.mo dL_law_1621 ?_
          rw [lg_cmp_self]
          refine J_if_eq O.mo (tgt := 1627) dL_law_1622 (by decide) (fun _ => ?_) (fun hz => absurd rfl hz)
          refine J_goto O.mo (tgt := 2121) dL_law_1627 (by decide) ?_
          exact J_sub [2, 3, 4, 5, 6] rfl kk
noncomputable def lw_frameOf (E : EE) (κ : K) (a1 a2 : Int32) : Option (EE × K) := match f_X10_frameOf E κ a1 a2 with
  | none => none
  | some (κ1, rs) => match f_X11_frameOf E (lwS κ1 rs) a1 a2 with
    | none => none
    | some (κ2, c) => gdp ((∀ e, rs = .inr e → e ∈ ([1] : List Nat)) ∧ kV κ2 5 0 0 0 = lwC [1] rs ∧ ∀ r, rs = .inl r → kV κ2 6 0 0 0 = c) (some (E, κ2))
set_option maxHeartbeats 4000000 in
set_option maxRecDepth 100000 in
theorem w_law_frameOf {l0 : Launch} (hfl : l0.stackTraces = false) {X : MX} {B : BX (EE × K)} {g : GP} (O : CK l0 X B g cL_law RL 12 462) (hKP : ∀ E, KPok B E) (hmL : B.2.2.2.1 = 7) {b L : Nat} {xs : Nat → Int32} (hs : B.2.2.2.2.2.2.2.2 X → LWX b L xs B.2.2.1 X) {n : Nat} (hn : n + 4 < L) (hL : L ≤ 2560) {E : EE} {κ : K} (hO : OKE E) {x' : EE × K} (h : lw_frameOf E κ (xs (n + 1)) (xs (n + 2)) = some x') (kk : J X B x' 2121 (lvL b (nI n)) []) : J X B (E, κ) 1630 (lvL b (nI n)) [] := by
  obtain ⟨h0, h5, h6, hH, hRN⟩ := hO
  have hS : Stab E (.inr (some (6, 0, 0))) := ⟨h6, by decide⟩
  unfold lw_frameOf at h
  cases hf : f_X10_frameOf E κ (xs (n + 1)) (xs (n + 2)) with
  | none => rw [hf] at h; cases h
  | some q =>
    obtain ⟨κ1, rs⟩ := q
    rw [hf] at h
    dsimp only at h
    cases hm : f_X11_frameOf E (lwS κ1 rs) (xs (n + 1)) (xs (n + 2)) with
    | none => rw [hm] at h; cases h
    | some q =>
      obtain ⟨κ2, c⟩ := q
      rw [hm] at h
      dsimp only at h
      obtain ⟨⟨he, hth, hc⟩, h⟩ := gdp_some h
      cases h
      refine J_aload_n O.mo dL_law_1630 1 rfl ?_
      refine J_arg O hs (n := n) (k := 1) (by omega) hL (by decide) (q0 := 0) (q4 := 4) rfl rfl dL_law_1631 dL_law_1632 dL_law_1634 dL_law_1635 dL_law_1636 ?_
      refine J_arg O hs (n := n) (k := 2) (by omega) hL (by decide) (q0 := 0) (q4 := 4) rfl rfl dL_law_1637 dL_law_1638 dL_law_1640 dL_law_1641 dL_law_1642 ?_
      refine J_aload_n O.mo dL_law_1643 3 rfl ?_
      refine J_callSW O (hKP _) (as := [.inr (some (4, 0, 0)), .inl (.int (xs (n + 1))), .inl (.int (xs (n + 2))), .inr (some (6, 0, 0))]) (rest := []) (r := some (.inl (.int (lwC [1] rs)))) (c_L_frameOf hfl h0 h6 hf he) rfl mw1103 mw1104 mw945 mw1105 pd_L_frameOf rfl (by decide) rfl (Nat.le_of_ble_eq_true rfl) (sl_v (sl_p (s10_0 h0) (sl_p (s11_0 h5) (sl_p hS (sl_v sl_0))))) st_0 dL_law_1644 ?_
      change J X B (E, (lwS κ1 rs)) 1647 (lvL b (nI n)) [.inl (.int (lwC [1] rs))]
      refine J_istore O.mo (lv' := lvL b (nI n)) dL_law_1647 (by rw [hmL]; decide) rfl rfl ?_
      refine J_aload_n O.mo dL_law_1649 3 rfl ?_
      refine J_arg O hs (n := n) (k := 1) (by omega) hL (by decide) (q0 := 1) (q4 := 5) rfl rfl dL_law_1650 dL_law_1651 dL_law_1653 dL_law_1654 dL_law_1655 ?_
      refine J_arg O hs (n := n) (k := 2) (by omega) hL (by decide) (q0 := 1) (q4 := 5) rfl rfl dL_law_1656 dL_law_1657 dL_law_1659 dL_law_1660 dL_law_1661 ?_
      refine J_callV O (hKP _) (as := [.inl (.int (xs (n + 1))), .inl (.int (xs (n + 2)))]) (rest := []) (r := some (.inl (.int c))) (c_X11_frameOf hfl h5 hm) rfl (kd0 := 11) (k11_0 h5) (l11_0 h5) (T := TX11) (N := 42) rfl (by decide) mw1106 mw1107 mw1108 mw517 mw1109 pd_X11_frameOf rfl (by decide) rfl (Nat.le_of_ble_eq_true rfl) (sl_v (sl_v (sl_p (s10_0 h0) (sl_p (s11_0 h5) (sl_p hS (sl_v sl_0)))))) st_0 dL_law_1662 ?_
      change J X B (E, κ2) 1665 ((5, .inl (.int (lwC [1] rs))) :: lvL b (nI n)) [.inl (.int c)]
      refine J_istore O.mo (lv' := ((5, .inl (.int (lwC [1] rs))) :: lvL b (nI n))) dL_law_1665 (by rw [hmL]; decide) rfl rfl ?_
      refine J_aload_n O.mo dL_law_1667 4 rfl ?_
      refine J_callV O (hKP _) (as := []) (rest := []) (r := some (.inl (.int (kV κ2 5 0 0 0)))) (c_X11_thrown hfl h5 rfl) rfl (kd0 := 11) (k11_0 h5) (l11_0 h5) (T := TX11) (N := 42) rfl (by decide) mw951 mw952 mw953 mw517 mw954 pd_X11_thrown rfl (by decide) rfl (Nat.le_of_ble_eq_true rfl) (sl_v (sl_v (sl_v (sl_p (s10_0 h0) (sl_p (s11_0 h5) (sl_p hS (sl_v sl_0))))))) st_0 dL_law_1668 ?_
      change J X B (E, κ2) 1671 ((6, .inl (.int c)) :: (5, .inl (.int (lwC [1] rs))) :: lvL b (nI n)) [.inl (.int (kV κ2 5 0 0 0))]
      rw [hth]
      refine J_iload O.mo dL_law_1671 1 rfl ?_
      refine J_icmp_eq O.mo (tgt := 1678) dL_law_1673 (by decide) (fun _ => ?_) (fun hz => absurd rfl hz)
      refine J_iload O.mo dL_law_1678 1 rfl ?_
      refine J_if_ne O.mo (tgt := 1695) dL_law_1680 (by decide) (fun _ => ?_) (fun hz => ?_)
      · refine J_goto O.mo (tgt := 2121) dL_law_1695 (by decide) ?_
        exact J_sub [2, 3, 4, 5, 6] rfl kk
      · cases rs with
        | inr e =>
          exfalso
          have he1 := he e rfl
          simp only [List.mem_cons, List.not_mem_nil, or_false] at he1
          subst he1
          exact absurd hz (by decide)
        | inl r =>
          refine J_aload_n O.mo dL_law_1683 5 rfl ?_
          refine J_iconst O.mo (v := 0) dL_law_1684 (by decide) ?_
          refine J_lald O h6 rfl vp00 (kj := 0) (by decide) dL_law_1685 ?_
          rw [hc r rfl]
          refine J_iload O.mo dL_law_1686 0 rfl ?_
          refine J_i2l O.mo dL_law_1688 ?_
          refine J_lcmp O.mo dL_law_1689 ?_
          rw [lg_cmp_self]
          refine J_if_eq O.mo (tgt := 1695) dL_law_1690 (by decide) (fun _ => ?_) (fun hz => absurd rfl hz)
          refine J_goto O.mo (tgt := 2121) dL_law_1695 (by decide) ?_
          exact J_sub [2, 3, 4, 5, 6] rfl kk
noncomputable def lw_used (E : EE) (κ : K) (a1 : Int32) : Option (EE × K) := match f_X10_used E κ a1 with
  | none => none
  | some (κ1, rs) => match f_X11_used E (lwS κ1 rs) a1 with
    | none => none
    | some (κ2, c) => gdp ((∀ e, rs = .inr e → e ∈ ([1] : List Nat)) ∧ kV κ2 5 0 0 0 = lwC [1] rs ∧ ∀ r, rs = .inl r → kV κ2 6 0 0 0 = c) (some (E, κ2))
set_option maxHeartbeats 4000000 in
set_option maxRecDepth 100000 in
theorem w_law_used {l0 : Launch} (hfl : l0.stackTraces = false) {X : MX} {B : BX (EE × K)} {g : GP} (O : CK l0 X B g cL_law RL 12 462) (hKP : ∀ E, KPok B E) (hmL : B.2.2.2.1 = 7) {b L : Nat} {xs : Nat → Int32} (hs : B.2.2.2.2.2.2.2.2 X → LWX b L xs B.2.2.1 X) {n : Nat} (hn : n + 4 < L) (hL : L ≤ 2560) {E : EE} {κ : K} (hO : OKE E) {x' : EE × K} (h : lw_used E κ (xs (n + 1)) = some x') (kk : J X B x' 2121 (lvL b (nI n)) []) : J X B (E, κ) 1698 (lvL b (nI n)) [] := by
  obtain ⟨h0, h5, h6, hH, hRN⟩ := hO
  have hS : Stab E (.inr (some (6, 0, 0))) := ⟨h6, by decide⟩
  unfold lw_used at h
  cases hf : f_X10_used E κ (xs (n + 1)) with
  | none => rw [hf] at h; cases h
  | some q =>
    obtain ⟨κ1, rs⟩ := q
    rw [hf] at h
    dsimp only at h
    cases hm : f_X11_used E (lwS κ1 rs) (xs (n + 1)) with
    | none => rw [hm] at h; cases h
    | some q =>
      obtain ⟨κ2, c⟩ := q
      rw [hm] at h
      dsimp only at h
      obtain ⟨⟨he, hth, hc⟩, h⟩ := gdp_some h
      cases h
      refine J_aload_n O.mo dL_law_1698 1 rfl ?_
      refine J_arg O hs (n := n) (k := 1) (by omega) hL (by decide) (q0 := 0) (q4 := 4) rfl rfl dL_law_1699 dL_law_1700 dL_law_1702 dL_law_1703 dL_law_1704 ?_
      refine J_aload_n O.mo dL_law_1705 3 rfl ?_
      refine J_callSW O (hKP _) (as := [.inr (some (4, 0, 0)), .inl (.int (xs (n + 1))), .inr (some (6, 0, 0))]) (rest := []) (r := some (.inl (.int (lwC [1] rs)))) (c_L_used hfl h0 h6 hf he) rfl mw1110 mw1111 mw945 mw1112 pd_L_used rfl (by decide) rfl (Nat.le_of_ble_eq_true rfl) (sl_v (sl_p (s10_0 h0) (sl_p (s11_0 h5) (sl_p hS (sl_v sl_0))))) st_0 dL_law_1706 ?_
      change J X B (E, (lwS κ1 rs)) 1709 (lvL b (nI n)) [.inl (.int (lwC [1] rs))]
      refine J_istore O.mo (lv' := lvL b (nI n)) dL_law_1709 (by rw [hmL]; decide) rfl rfl ?_
      refine J_aload_n O.mo dL_law_1711 3 rfl ?_
      refine J_arg O hs (n := n) (k := 1) (by omega) hL (by decide) (q0 := 1) (q4 := 5) rfl rfl dL_law_1712 dL_law_1713 dL_law_1715 dL_law_1716 dL_law_1717 ?_
      refine J_callV O (hKP _) (as := [.inl (.int (xs (n + 1)))]) (rest := []) (r := some (.inl (.int c))) (c_X11_used hfl h5 hm) rfl (kd0 := 11) (k11_0 h5) (l11_0 h5) (T := TX11) (N := 42) rfl (by decide) mw1113 mw1114 mw1115 mw517 mw1116 pd_X11_used rfl (by decide) rfl (Nat.le_of_ble_eq_true rfl) (sl_v (sl_v (sl_p (s10_0 h0) (sl_p (s11_0 h5) (sl_p hS (sl_v sl_0)))))) st_0 dL_law_1718 ?_
      change J X B (E, κ2) 1721 ((5, .inl (.int (lwC [1] rs))) :: lvL b (nI n)) [.inl (.int c)]
      refine J_istore O.mo (lv' := ((5, .inl (.int (lwC [1] rs))) :: lvL b (nI n))) dL_law_1721 (by rw [hmL]; decide) rfl rfl ?_
      refine J_aload_n O.mo dL_law_1723 4 rfl ?_
      refine J_callV O (hKP _) (as := []) (rest := []) (r := some (.inl (.int (kV κ2 5 0 0 0)))) (c_X11_thrown hfl h5 rfl) rfl (kd0 := 11) (k11_0 h5) (l11_0 h5) (T := TX11) (N := 42) rfl (by decide) mw951 mw952 mw953 mw517 mw954 pd_X11_thrown rfl (by decide) rfl (Nat.le_of_ble_eq_true rfl) (sl_v (sl_v (sl_v (sl_p (s10_0 h0) (sl_p (s11_0 h5) (sl_p hS (sl_v sl_0))))))) st_0 dL_law_1724 ?_
      change J X B (E, κ2) 1727 ((6, .inl (.int c)) :: (5, .inl (.int (lwC [1] rs))) :: lvL b (nI n)) [.inl (.int (kV κ2 5 0 0 0))]
      rw [hth]
      refine J_iload O.mo dL_law_1727 1 rfl ?_
      refine J_icmp_eq O.mo (tgt := 1734) dL_law_1729 (by decide) (fun _ => ?_) (fun hz => absurd rfl hz)
      refine J_iload O.mo dL_law_1734 1 rfl ?_
      refine J_if_ne O.mo (tgt := 1751) dL_law_1736 (by decide) (fun _ => ?_) (fun hz => ?_)
      · refine J_goto O.mo (tgt := 2121) dL_law_1751 (by decide) ?_
        exact J_sub [2, 3, 4, 5, 6] rfl kk
      · cases rs with
        | inr e =>
          exfalso
          have he1 := he e rfl
          simp only [List.mem_cons, List.not_mem_nil, or_false] at he1
          subst he1
          exact absurd hz (by decide)
        | inl r =>
          refine J_aload_n O.mo dL_law_1739 5 rfl ?_
          refine J_iconst O.mo (v := 0) dL_law_1740 (by decide) ?_
          refine J_lald O h6 rfl vp00 (kj := 0) (by decide) dL_law_1741 ?_
          rw [hc r rfl]
          refine J_iload O.mo dL_law_1742 0 rfl ?_
          refine J_i2l O.mo dL_law_1744 ?_
          refine J_lcmp O.mo dL_law_1745 ?_
          rw [lg_cmp_self]
          refine J_if_eq O.mo (tgt := 1751) dL_law_1746 (by decide) (fun _ => ?_) (fun hz => absurd rfl hz)
          refine J_goto O.mo (tgt := 2121) dL_law_1751 (by decide) ?_
          exact J_sub [2, 3, 4, 5, 6] rfl kk
noncomputable def lw_exits (E : EE) (κ : K) (a1 a2 : Int32) : Option (EE × K) := match f_X10_exits E κ a1 a2 with
  | none => none
  | some (κ1, rs) => match f_X11_exits E (lwS κ1 rs) a1 a2 with
    | none => none
    | some (κ2, c) => gdp ((∀ e, rs = .inr e → e ∈ ([1, 2] : List Nat)) ∧ kV κ2 5 0 0 0 = lwC [1, 2] rs ∧ ∀ r, rs = .inl r → kV κ2 6 0 0 0 = c) (some (E, κ2))
set_option maxHeartbeats 4000000 in
set_option maxRecDepth 100000 in
theorem w_law_exits {l0 : Launch} (hfl : l0.stackTraces = false) {X : MX} {B : BX (EE × K)} {g : GP} (O : CK l0 X B g cL_law RL 12 462) (hKP : ∀ E, KPok B E) (hmL : B.2.2.2.1 = 7) {b L : Nat} {xs : Nat → Int32} (hs : B.2.2.2.2.2.2.2.2 X → LWX b L xs B.2.2.1 X) {n : Nat} (hn : n + 4 < L) (hL : L ≤ 2560) {E : EE} {κ : K} (hO : OKE E) {x' : EE × K} (h : lw_exits E κ (xs (n + 1)) (xs (n + 2)) = some x') (kk : J X B x' 2121 (lvL b (nI n)) []) : J X B (E, κ) 1754 (lvL b (nI n)) [] := by
  obtain ⟨h0, h5, h6, hH, hRN⟩ := hO
  have hS : Stab E (.inr (some (6, 0, 0))) := ⟨h6, by decide⟩
  unfold lw_exits at h
  cases hf : f_X10_exits E κ (xs (n + 1)) (xs (n + 2)) with
  | none => rw [hf] at h; cases h
  | some q =>
    obtain ⟨κ1, rs⟩ := q
    rw [hf] at h
    dsimp only at h
    cases hm : f_X11_exits E (lwS κ1 rs) (xs (n + 1)) (xs (n + 2)) with
    | none => rw [hm] at h; cases h
    | some q =>
      obtain ⟨κ2, c⟩ := q
      rw [hm] at h
      dsimp only at h
      obtain ⟨⟨he, hth, hc⟩, h⟩ := gdp_some h
      cases h
      refine J_aload_n O.mo dL_law_1754 1 rfl ?_
      refine J_arg O hs (n := n) (k := 1) (by omega) hL (by decide) (q0 := 0) (q4 := 4) rfl rfl dL_law_1755 dL_law_1756 dL_law_1758 dL_law_1759 dL_law_1760 ?_
      refine J_arg O hs (n := n) (k := 2) (by omega) hL (by decide) (q0 := 0) (q4 := 4) rfl rfl dL_law_1761 dL_law_1762 dL_law_1764 dL_law_1765 dL_law_1766 ?_
      refine J_aload_n O.mo dL_law_1767 3 rfl ?_
      refine J_callSW O (hKP _) (as := [.inr (some (4, 0, 0)), .inl (.int (xs (n + 1))), .inl (.int (xs (n + 2))), .inr (some (6, 0, 0))]) (rest := []) (r := some (.inl (.int (lwC [1, 2] rs)))) (c_L_exits hfl h0 h6 hf he) rfl mw1117 mw1118 mw945 mw1119 pd_L_exits rfl (by decide) rfl (Nat.le_of_ble_eq_true rfl) (sl_v (sl_p (s10_0 h0) (sl_p (s11_0 h5) (sl_p hS (sl_v sl_0))))) st_0 dL_law_1768 ?_
      change J X B (E, (lwS κ1 rs)) 1771 (lvL b (nI n)) [.inl (.int (lwC [1, 2] rs))]
      refine J_istore O.mo (lv' := lvL b (nI n)) dL_law_1771 (by rw [hmL]; decide) rfl rfl ?_
      refine J_aload_n O.mo dL_law_1773 3 rfl ?_
      refine J_arg O hs (n := n) (k := 1) (by omega) hL (by decide) (q0 := 1) (q4 := 5) rfl rfl dL_law_1774 dL_law_1775 dL_law_1777 dL_law_1778 dL_law_1779 ?_
      refine J_arg O hs (n := n) (k := 2) (by omega) hL (by decide) (q0 := 1) (q4 := 5) rfl rfl dL_law_1780 dL_law_1781 dL_law_1783 dL_law_1784 dL_law_1785 ?_
      refine J_callV O (hKP _) (as := [.inl (.int (xs (n + 1))), .inl (.int (xs (n + 2)))]) (rest := []) (r := some (.inl (.int c))) (c_X11_exits hfl h5 hm) rfl (kd0 := 11) (k11_0 h5) (l11_0 h5) (T := TX11) (N := 42) rfl (by decide) mw1120 mw1121 mw1122 mw517 mw1123 pd_X11_exits rfl (by decide) rfl (Nat.le_of_ble_eq_true rfl) (sl_v (sl_v (sl_p (s10_0 h0) (sl_p (s11_0 h5) (sl_p hS (sl_v sl_0)))))) st_0 dL_law_1786 ?_
      change J X B (E, κ2) 1789 ((5, .inl (.int (lwC [1, 2] rs))) :: lvL b (nI n)) [.inl (.int c)]
      refine J_istore O.mo (lv' := ((5, .inl (.int (lwC [1, 2] rs))) :: lvL b (nI n))) dL_law_1789 (by rw [hmL]; decide) rfl rfl ?_
      refine J_aload_n O.mo dL_law_1791 4 rfl ?_
      refine J_callV O (hKP _) (as := []) (rest := []) (r := some (.inl (.int (kV κ2 5 0 0 0)))) (c_X11_thrown hfl h5 rfl) rfl (kd0 := 11) (k11_0 h5) (l11_0 h5) (T := TX11) (N := 42) rfl (by decide) mw951 mw952 mw953 mw517 mw954 pd_X11_thrown rfl (by decide) rfl (Nat.le_of_ble_eq_true rfl) (sl_v (sl_v (sl_v (sl_p (s10_0 h0) (sl_p (s11_0 h5) (sl_p hS (sl_v sl_0))))))) st_0 dL_law_1792 ?_
      change J X B (E, κ2) 1795 ((6, .inl (.int c)) :: (5, .inl (.int (lwC [1, 2] rs))) :: lvL b (nI n)) [.inl (.int (kV κ2 5 0 0 0))]
      rw [hth]
      refine J_iload O.mo dL_law_1795 1 rfl ?_
      refine J_icmp_eq O.mo (tgt := 1802) dL_law_1797 (by decide) (fun _ => ?_) (fun hz => absurd rfl hz)
      refine J_iload O.mo dL_law_1802 1 rfl ?_
      refine J_if_ne O.mo (tgt := 1819) dL_law_1804 (by decide) (fun _ => ?_) (fun hz => ?_)
      · refine J_goto O.mo (tgt := 2121) dL_law_1819 (by decide) ?_
        exact J_sub [2, 3, 4, 5, 6] rfl kk
      · cases rs with
        | inr e =>
          exfalso
          have he1 := he e rfl
          simp only [List.mem_cons, List.not_mem_nil, or_false] at he1
          rcases he1 with rfl | rfl <;> exact absurd hz (by decide)
        | inl r =>
          refine J_aload_n O.mo dL_law_1807 5 rfl ?_
          refine J_iconst O.mo (v := 0) dL_law_1808 (by decide) ?_
          refine J_lald O h6 rfl vp00 (kj := 0) (by decide) dL_law_1809 ?_
          rw [hc r rfl]
          refine J_iload O.mo dL_law_1810 0 rfl ?_
          refine J_i2l O.mo dL_law_1812 ?_
          refine J_lcmp O.mo dL_law_1813 ?_
          rw [lg_cmp_self]
          refine J_if_eq O.mo (tgt := 1819) dL_law_1814 (by decide) (fun _ => ?_) (fun hz => absurd rfl hz)
          refine J_goto O.mo (tgt := 2121) dL_law_1819 (by decide) ?_
          exact J_sub [2, 3, 4, 5, 6] rfl kk
noncomputable def lw_out (E : EE) (κ : K) (a1 : Int32) : Option (EE × K) := match f_X10_out E κ a1 with
  | none => none
  | some (κ1, rs) => match f_X11_out E (lwS κ1 rs) a1 with
    | none => none
    | some (κ2, c) => gdp ((∀ e, rs = .inr e → e ∈ ([1] : List Nat)) ∧ kV κ2 5 0 0 0 = lwC [1] rs ∧ ∀ r, rs = .inl r → kV κ2 6 0 0 0 = c) (some (E, κ2))
set_option maxHeartbeats 4000000 in
set_option maxRecDepth 100000 in
theorem w_law_out {l0 : Launch} (hfl : l0.stackTraces = false) {X : MX} {B : BX (EE × K)} {g : GP} (O : CK l0 X B g cL_law RL 12 462) (hKP : ∀ E, KPok B E) (hmL : B.2.2.2.1 = 7) {b L : Nat} {xs : Nat → Int32} (hs : B.2.2.2.2.2.2.2.2 X → LWX b L xs B.2.2.1 X) {n : Nat} (hn : n + 4 < L) (hL : L ≤ 2560) {E : EE} {κ : K} (hO : OKE E) {x' : EE × K} (h : lw_out E κ (xs (n + 1)) = some x') (kk : J X B x' 2121 (lvL b (nI n)) []) : J X B (E, κ) 1822 (lvL b (nI n)) [] := by
  obtain ⟨h0, h5, h6, hH, hRN⟩ := hO
  have hS : Stab E (.inr (some (6, 0, 0))) := ⟨h6, by decide⟩
  unfold lw_out at h
  cases hf : f_X10_out E κ (xs (n + 1)) with
  | none => rw [hf] at h; cases h
  | some q =>
    obtain ⟨κ1, rs⟩ := q
    rw [hf] at h
    dsimp only at h
    cases hm : f_X11_out E (lwS κ1 rs) (xs (n + 1)) with
    | none => rw [hm] at h; cases h
    | some q =>
      obtain ⟨κ2, c⟩ := q
      rw [hm] at h
      dsimp only at h
      obtain ⟨⟨he, hth, hc⟩, h⟩ := gdp_some h
      cases h
      refine J_aload_n O.mo dL_law_1822 1 rfl ?_
      refine J_arg O hs (n := n) (k := 1) (by omega) hL (by decide) (q0 := 0) (q4 := 4) rfl rfl dL_law_1823 dL_law_1824 dL_law_1826 dL_law_1827 dL_law_1828 ?_
      refine J_aload_n O.mo dL_law_1829 3 rfl ?_
      refine J_callSW O (hKP _) (as := [.inr (some (4, 0, 0)), .inl (.int (xs (n + 1))), .inr (some (6, 0, 0))]) (rest := []) (r := some (.inl (.int (lwC [1] rs)))) (c_L_out hfl h0 h6 hf he) rfl mw1124 mw1125 mw945 mw1126 pd_L_out rfl (by decide) rfl (Nat.le_of_ble_eq_true rfl) (sl_v (sl_p (s10_0 h0) (sl_p (s11_0 h5) (sl_p hS (sl_v sl_0))))) st_0 dL_law_1830 ?_
      change J X B (E, (lwS κ1 rs)) 1833 (lvL b (nI n)) [.inl (.int (lwC [1] rs))]
      refine J_istore O.mo (lv' := lvL b (nI n)) dL_law_1833 (by rw [hmL]; decide) rfl rfl ?_
      refine J_aload_n O.mo dL_law_1835 3 rfl ?_
      refine J_arg O hs (n := n) (k := 1) (by omega) hL (by decide) (q0 := 1) (q4 := 5) rfl rfl dL_law_1836 dL_law_1837 dL_law_1839 dL_law_1840 dL_law_1841 ?_
      refine J_callV O (hKP _) (as := [.inl (.int (xs (n + 1)))]) (rest := []) (r := some (.inl (.int c))) (c_X11_out hfl h5 hm) rfl (kd0 := 11) (k11_0 h5) (l11_0 h5) (T := TX11) (N := 42) rfl (by decide) mw1127 mw1128 mw1129 mw517 mw1130 pd_X11_out rfl (by decide) rfl (Nat.le_of_ble_eq_true rfl) (sl_v (sl_v (sl_p (s10_0 h0) (sl_p (s11_0 h5) (sl_p hS (sl_v sl_0)))))) st_0 dL_law_1842 ?_
      change J X B (E, κ2) 1845 ((5, .inl (.int (lwC [1] rs))) :: lvL b (nI n)) [.inl (.int c)]
      refine J_istore O.mo (lv' := ((5, .inl (.int (lwC [1] rs))) :: lvL b (nI n))) dL_law_1845 (by rw [hmL]; decide) rfl rfl ?_
      refine J_aload_n O.mo dL_law_1847 4 rfl ?_
      refine J_callV O (hKP _) (as := []) (rest := []) (r := some (.inl (.int (kV κ2 5 0 0 0)))) (c_X11_thrown hfl h5 rfl) rfl (kd0 := 11) (k11_0 h5) (l11_0 h5) (T := TX11) (N := 42) rfl (by decide) mw951 mw952 mw953 mw517 mw954 pd_X11_thrown rfl (by decide) rfl (Nat.le_of_ble_eq_true rfl) (sl_v (sl_v (sl_v (sl_p (s10_0 h0) (sl_p (s11_0 h5) (sl_p hS (sl_v sl_0))))))) st_0 dL_law_1848 ?_
      change J X B (E, κ2) 1851 ((6, .inl (.int c)) :: (5, .inl (.int (lwC [1] rs))) :: lvL b (nI n)) [.inl (.int (kV κ2 5 0 0 0))]
      rw [hth]
      refine J_iload O.mo dL_law_1851 1 rfl ?_
      refine J_icmp_eq O.mo (tgt := 1858) dL_law_1853 (by decide) (fun _ => ?_) (fun hz => absurd rfl hz)
      refine J_iload O.mo dL_law_1858 1 rfl ?_
      refine J_if_ne O.mo (tgt := 1875) dL_law_1860 (by decide) (fun _ => ?_) (fun hz => ?_)
      · refine J_goto O.mo (tgt := 2121) dL_law_1875 (by decide) ?_
        exact J_sub [2, 3, 4, 5, 6] rfl kk
      · cases rs with
        | inr e =>
          exfalso
          have he1 := he e rfl
          simp only [List.mem_cons, List.not_mem_nil, or_false] at he1
          subst he1
          exact absurd hz (by decide)
        | inl r =>
          refine J_aload_n O.mo dL_law_1863 5 rfl ?_
          refine J_iconst O.mo (v := 0) dL_law_1864 (by decide) ?_
          refine J_lald O h6 rfl vp00 (kj := 0) (by decide) dL_law_1865 ?_
          rw [hc r rfl]
          refine J_iload O.mo dL_law_1866 0 rfl ?_
          refine J_i2l O.mo dL_law_1868 ?_
          refine J_lcmp O.mo dL_law_1869 ?_
          rw [lg_cmp_self]
          refine J_if_eq O.mo (tgt := 1875) dL_law_1870 (by decide) (fun _ => ?_) (fun hz => absurd rfl hz)
          refine J_goto O.mo (tgt := 2121) dL_law_1875 (by decide) ?_
          exact J_sub [2, 3, 4, 5, 6] rfl kk
noncomputable def lw_outAt (E : EE) (κ : K) (a1 a2 : Int32) : Option (EE × K) := match f_X10_outAt E κ a1 a2 with
  | none => none
  | some (κ1, rs) => match f_X11_outAt E (lwS κ1 rs) a1 a2 with
    | none => none
    | some (κ2, c) => gdp ((∀ e, rs = .inr e → e ∈ ([1] : List Nat)) ∧ kV κ2 5 0 0 0 = lwC [1] rs ∧ ∀ r, rs = .inl r → kV κ2 6 0 0 0 = c) (some (E, κ2))
set_option maxHeartbeats 4000000 in
set_option maxRecDepth 100000 in
theorem w_law_outAt {l0 : Launch} (hfl : l0.stackTraces = false) {X : MX} {B : BX (EE × K)} {g : GP} (O : CK l0 X B g cL_law RL 12 462) (hKP : ∀ E, KPok B E) (hmL : B.2.2.2.1 = 7) {b L : Nat} {xs : Nat → Int32} (hs : B.2.2.2.2.2.2.2.2 X → LWX b L xs B.2.2.1 X) {n : Nat} (hn : n + 4 < L) (hL : L ≤ 2560) {E : EE} {κ : K} (hO : OKE E) {x' : EE × K} (h : lw_outAt E κ (xs (n + 1)) (xs (n + 2)) = some x') (kk : J X B x' 2121 (lvL b (nI n)) []) : J X B (E, κ) 1878 (lvL b (nI n)) [] := by
  obtain ⟨h0, h5, h6, hH, hRN⟩ := hO
  have hS : Stab E (.inr (some (6, 0, 0))) := ⟨h6, by decide⟩
  unfold lw_outAt at h
  cases hf : f_X10_outAt E κ (xs (n + 1)) (xs (n + 2)) with
  | none => rw [hf] at h; cases h
  | some q =>
    obtain ⟨κ1, rs⟩ := q
    rw [hf] at h
    dsimp only at h
    cases hm : f_X11_outAt E (lwS κ1 rs) (xs (n + 1)) (xs (n + 2)) with
    | none => rw [hm] at h; cases h
    | some q =>
      obtain ⟨κ2, c⟩ := q
      rw [hm] at h
      dsimp only at h
      obtain ⟨⟨he, hth, hc⟩, h⟩ := gdp_some h
      cases h
      refine J_aload_n O.mo dL_law_1878 1 rfl ?_
      refine J_arg O hs (n := n) (k := 1) (by omega) hL (by decide) (q0 := 0) (q4 := 4) rfl rfl dL_law_1879 dL_law_1880 dL_law_1882 dL_law_1883 dL_law_1884 ?_
      refine J_arg O hs (n := n) (k := 2) (by omega) hL (by decide) (q0 := 0) (q4 := 4) rfl rfl dL_law_1885 dL_law_1886 dL_law_1888 dL_law_1889 dL_law_1890 ?_
      refine J_aload_n O.mo dL_law_1891 3 rfl ?_
      refine J_callSW O (hKP _) (as := [.inr (some (4, 0, 0)), .inl (.int (xs (n + 1))), .inl (.int (xs (n + 2))), .inr (some (6, 0, 0))]) (rest := []) (r := some (.inl (.int (lwC [1] rs)))) (c_L_outAt hfl h0 h6 hf he) rfl mw1131 mw1132 mw945 mw1133 pd_L_outAt rfl (by decide) rfl (Nat.le_of_ble_eq_true rfl) (sl_v (sl_p (s10_0 h0) (sl_p (s11_0 h5) (sl_p hS (sl_v sl_0))))) st_0 dL_law_1892 ?_
      change J X B (E, (lwS κ1 rs)) 1895 (lvL b (nI n)) [.inl (.int (lwC [1] rs))]
      refine J_istore O.mo (lv' := lvL b (nI n)) dL_law_1895 (by rw [hmL]; decide) rfl rfl ?_
      refine J_aload_n O.mo dL_law_1897 3 rfl ?_
      refine J_arg O hs (n := n) (k := 1) (by omega) hL (by decide) (q0 := 1) (q4 := 5) rfl rfl dL_law_1898 dL_law_1899 dL_law_1901 dL_law_1902 dL_law_1903 ?_
      refine J_arg O hs (n := n) (k := 2) (by omega) hL (by decide) (q0 := 1) (q4 := 5) rfl rfl dL_law_1904 dL_law_1905 dL_law_1907 dL_law_1908 dL_law_1909 ?_
      refine J_callV O (hKP _) (as := [.inl (.int (xs (n + 1))), .inl (.int (xs (n + 2)))]) (rest := []) (r := some (.inl (.int c))) (c_X11_outAt hfl h5 hm) rfl (kd0 := 11) (k11_0 h5) (l11_0 h5) (T := TX11) (N := 42) rfl (by decide) mw1134 mw1135 mw1136 mw517 mw1137 pd_X11_outAt rfl (by decide) rfl (Nat.le_of_ble_eq_true rfl) (sl_v (sl_v (sl_p (s10_0 h0) (sl_p (s11_0 h5) (sl_p hS (sl_v sl_0)))))) st_0 dL_law_1910 ?_
      change J X B (E, κ2) 1913 ((5, .inl (.int (lwC [1] rs))) :: lvL b (nI n)) [.inl (.int c)]
      refine J_istore O.mo (lv' := ((5, .inl (.int (lwC [1] rs))) :: lvL b (nI n))) dL_law_1913 (by rw [hmL]; decide) rfl rfl ?_
      refine J_aload_n O.mo dL_law_1915 4 rfl ?_
      refine J_callV O (hKP _) (as := []) (rest := []) (r := some (.inl (.int (kV κ2 5 0 0 0)))) (c_X11_thrown hfl h5 rfl) rfl (kd0 := 11) (k11_0 h5) (l11_0 h5) (T := TX11) (N := 42) rfl (by decide) mw951 mw952 mw953 mw517 mw954 pd_X11_thrown rfl (by decide) rfl (Nat.le_of_ble_eq_true rfl) (sl_v (sl_v (sl_v (sl_p (s10_0 h0) (sl_p (s11_0 h5) (sl_p hS (sl_v sl_0))))))) st_0 dL_law_1916 ?_
      change J X B (E, κ2) 1919 ((6, .inl (.int c)) :: (5, .inl (.int (lwC [1] rs))) :: lvL b (nI n)) [.inl (.int (kV κ2 5 0 0 0))]
      rw [hth]
      refine J_iload O.mo dL_law_1919 1 rfl ?_
      refine J_icmp_eq O.mo (tgt := 1926) dL_law_1921 (by decide) (fun _ => ?_) (fun hz => absurd rfl hz)
      refine J_iload O.mo dL_law_1926 1 rfl ?_
      refine J_if_ne O.mo (tgt := 1943) dL_law_1928 (by decide) (fun _ => ?_) (fun hz => ?_)
      · refine J_goto O.mo (tgt := 2121) dL_law_1943 (by decide) ?_
        exact J_sub [2, 3, 4, 5, 6] rfl kk
      · cases rs with
        | inr e =>
          exfalso
          have he1 := he e rfl
          simp only [List.mem_cons, List.not_mem_nil, or_false] at he1
          subst he1
          exact absurd hz (by decide)
        | inl r =>
          refine J_aload_n O.mo dL_law_1931 5 rfl ?_
          refine J_iconst O.mo (v := 0) dL_law_1932 (by decide) ?_
          refine J_lald O h6 rfl vp00 (kj := 0) (by decide) dL_law_1933 ?_
          rw [hc r rfl]
          refine J_iload O.mo dL_law_1934 0 rfl ?_
          refine J_i2l O.mo dL_law_1936 ?_
          refine J_lcmp O.mo dL_law_1937 ?_
          rw [lg_cmp_self]
          refine J_if_eq O.mo (tgt := 1943) dL_law_1938 (by decide) (fun _ => ?_) (fun hz => absurd rfl hz)
          refine J_goto O.mo (tgt := 2121) dL_law_1943 (by decide) ?_
          exact J_sub [2, 3, 4, 5, 6] rfl kk
noncomputable def lw_held (E : EE) (κ : K) (a1 : Int32) : Option (EE × K) := match f_X10_held E κ a1 with
  | none => none
  | some (κ1, rs) => match f_X11_held E (lwS κ1 rs) a1 with
    | none => none
    | some (κ2, c) => gdp ((∀ e, rs = .inr e → e ∈ ([1] : List Nat)) ∧ kV κ2 5 0 0 0 = lwC [1] rs ∧ ∀ r, rs = .inl r → kV κ2 6 0 0 0 = c) (some (E, κ2))
set_option maxHeartbeats 4000000 in
set_option maxRecDepth 100000 in
theorem w_law_held {l0 : Launch} (hfl : l0.stackTraces = false) {X : MX} {B : BX (EE × K)} {g : GP} (O : CK l0 X B g cL_law RL 12 462) (hKP : ∀ E, KPok B E) (hmL : B.2.2.2.1 = 7) {b L : Nat} {xs : Nat → Int32} (hs : B.2.2.2.2.2.2.2.2 X → LWX b L xs B.2.2.1 X) {n : Nat} (hn : n + 4 < L) (hL : L ≤ 2560) {E : EE} {κ : K} (hO : OKE E) {x' : EE × K} (h : lw_held E κ (xs (n + 1)) = some x') (kk : J X B x' 2121 (lvL b (nI n)) []) : J X B (E, κ) 1946 (lvL b (nI n)) [] := by
  obtain ⟨h0, h5, h6, hH, hRN⟩ := hO
  have hS : Stab E (.inr (some (6, 0, 0))) := ⟨h6, by decide⟩
  unfold lw_held at h
  cases hf : f_X10_held E κ (xs (n + 1)) with
  | none => rw [hf] at h; cases h
  | some q =>
    obtain ⟨κ1, rs⟩ := q
    rw [hf] at h
    dsimp only at h
    cases hm : f_X11_held E (lwS κ1 rs) (xs (n + 1)) with
    | none => rw [hm] at h; cases h
    | some q =>
      obtain ⟨κ2, c⟩ := q
      rw [hm] at h
      dsimp only at h
      obtain ⟨⟨he, hth, hc⟩, h⟩ := gdp_some h
      cases h
      refine J_aload_n O.mo dL_law_1946 1 rfl ?_
      refine J_arg O hs (n := n) (k := 1) (by omega) hL (by decide) (q0 := 0) (q4 := 4) rfl rfl dL_law_1947 dL_law_1948 dL_law_1950 dL_law_1951 dL_law_1952 ?_
      refine J_aload_n O.mo dL_law_1953 3 rfl ?_
      refine J_callSW O (hKP _) (as := [.inr (some (4, 0, 0)), .inl (.int (xs (n + 1))), .inr (some (6, 0, 0))]) (rest := []) (r := some (.inl (.int (lwC [1] rs)))) (c_L_held hfl h0 h6 hf he) rfl mw1138 mw1139 mw945 mw1140 pd_L_held rfl (by decide) rfl (Nat.le_of_ble_eq_true rfl) (sl_v (sl_p (s10_0 h0) (sl_p (s11_0 h5) (sl_p hS (sl_v sl_0))))) st_0 dL_law_1954 ?_
      change J X B (E, (lwS κ1 rs)) 1957 (lvL b (nI n)) [.inl (.int (lwC [1] rs))]
      refine J_istore O.mo (lv' := lvL b (nI n)) dL_law_1957 (by rw [hmL]; decide) rfl rfl ?_
      refine J_aload_n O.mo dL_law_1959 3 rfl ?_
      refine J_arg O hs (n := n) (k := 1) (by omega) hL (by decide) (q0 := 1) (q4 := 5) rfl rfl dL_law_1960 dL_law_1961 dL_law_1963 dL_law_1964 dL_law_1965 ?_
      refine J_callV O (hKP _) (as := [.inl (.int (xs (n + 1)))]) (rest := []) (r := some (.inl (.int c))) (c_X11_held hfl h5 hm) rfl (kd0 := 11) (k11_0 h5) (l11_0 h5) (T := TX11) (N := 42) rfl (by decide) mw1141 mw1142 mw1143 mw517 mw1144 pd_X11_held rfl (by decide) rfl (Nat.le_of_ble_eq_true rfl) (sl_v (sl_v (sl_p (s10_0 h0) (sl_p (s11_0 h5) (sl_p hS (sl_v sl_0)))))) st_0 dL_law_1966 ?_
      change J X B (E, κ2) 1969 ((5, .inl (.int (lwC [1] rs))) :: lvL b (nI n)) [.inl (.int c)]
      refine J_istore O.mo (lv' := ((5, .inl (.int (lwC [1] rs))) :: lvL b (nI n))) dL_law_1969 (by rw [hmL]; decide) rfl rfl ?_
      refine J_aload_n O.mo dL_law_1971 4 rfl ?_
      refine J_callV O (hKP _) (as := []) (rest := []) (r := some (.inl (.int (kV κ2 5 0 0 0)))) (c_X11_thrown hfl h5 rfl) rfl (kd0 := 11) (k11_0 h5) (l11_0 h5) (T := TX11) (N := 42) rfl (by decide) mw951 mw952 mw953 mw517 mw954 pd_X11_thrown rfl (by decide) rfl (Nat.le_of_ble_eq_true rfl) (sl_v (sl_v (sl_v (sl_p (s10_0 h0) (sl_p (s11_0 h5) (sl_p hS (sl_v sl_0))))))) st_0 dL_law_1972 ?_
      change J X B (E, κ2) 1975 ((6, .inl (.int c)) :: (5, .inl (.int (lwC [1] rs))) :: lvL b (nI n)) [.inl (.int (kV κ2 5 0 0 0))]
      rw [hth]
      refine J_iload O.mo dL_law_1975 1 rfl ?_
      refine J_icmp_eq O.mo (tgt := 1982) dL_law_1977 (by decide) (fun _ => ?_) (fun hz => absurd rfl hz)
      refine J_iload O.mo dL_law_1982 1 rfl ?_
      refine J_if_ne O.mo (tgt := 1999) dL_law_1984 (by decide) (fun _ => ?_) (fun hz => ?_)
      · refine J_goto O.mo (tgt := 2121) dL_law_1999 (by decide) ?_
        exact J_sub [2, 3, 4, 5, 6] rfl kk
      · cases rs with
        | inr e =>
          exfalso
          have he1 := he e rfl
          simp only [List.mem_cons, List.not_mem_nil, or_false] at he1
          subst he1
          exact absurd hz (by decide)
        | inl r =>
          refine J_aload_n O.mo dL_law_1987 5 rfl ?_
          refine J_iconst O.mo (v := 0) dL_law_1988 (by decide) ?_
          refine J_lald O h6 rfl vp00 (kj := 0) (by decide) dL_law_1989 ?_
          rw [hc r rfl]
          refine J_iload O.mo dL_law_1990 0 rfl ?_
          refine J_i2l O.mo dL_law_1992 ?_
          refine J_lcmp O.mo dL_law_1993 ?_
          rw [lg_cmp_self]
          refine J_if_eq O.mo (tgt := 1999) dL_law_1994 (by decide) (fun _ => ?_) (fun hz => absurd rfl hz)
          refine J_goto O.mo (tgt := 2121) dL_law_1999 (by decide) ?_
          exact J_sub [2, 3, 4, 5, 6] rfl kk
noncomputable def lw_stored (E : EE) (κ : K) (a1 : Int32) : Option (EE × K) := match f_X10_stored E κ a1 with
  | none => none
  | some (κ1, rs) => match f_X11_stored E (lwS κ1 rs) a1 with
    | none => none
    | some (κ2, c) => gdp ((∀ e, rs = .inr e → e ∈ ([1] : List Nat)) ∧ kV κ2 5 0 0 0 = lwC [1] rs ∧ ∀ r, rs = .inl r → kV κ2 6 0 0 0 = c) (some (E, κ2))
set_option maxHeartbeats 4000000 in
set_option maxRecDepth 100000 in
theorem w_law_stored {l0 : Launch} (hfl : l0.stackTraces = false) {X : MX} {B : BX (EE × K)} {g : GP} (O : CK l0 X B g cL_law RL 12 462) (hKP : ∀ E, KPok B E) (hmL : B.2.2.2.1 = 7) {b L : Nat} {xs : Nat → Int32} (hs : B.2.2.2.2.2.2.2.2 X → LWX b L xs B.2.2.1 X) {n : Nat} (hn : n + 4 < L) (hL : L ≤ 2560) {E : EE} {κ : K} (hO : OKE E) {x' : EE × K} (h : lw_stored E κ (xs (n + 1)) = some x') (kk : J X B x' 2121 (lvL b (nI n)) []) : J X B (E, κ) 2002 (lvL b (nI n)) [] := by
  obtain ⟨h0, h5, h6, hH, hRN⟩ := hO
  have hS : Stab E (.inr (some (6, 0, 0))) := ⟨h6, by decide⟩
  unfold lw_stored at h
  cases hf : f_X10_stored E κ (xs (n + 1)) with
  | none => rw [hf] at h; cases h
  | some q =>
    obtain ⟨κ1, rs⟩ := q
    rw [hf] at h
    dsimp only at h
    cases hm : f_X11_stored E (lwS κ1 rs) (xs (n + 1)) with
    | none => rw [hm] at h; cases h
    | some q =>
      obtain ⟨κ2, c⟩ := q
      rw [hm] at h
      dsimp only at h
      obtain ⟨⟨he, hth, hc⟩, h⟩ := gdp_some h
      cases h
      refine J_aload_n O.mo dL_law_2002 1 rfl ?_
      refine J_arg O hs (n := n) (k := 1) (by omega) hL (by decide) (q0 := 0) (q4 := 4) rfl rfl dL_law_2003 dL_law_2004 dL_law_2006 dL_law_2007 dL_law_2008 ?_
      refine J_aload_n O.mo dL_law_2009 3 rfl ?_
      refine J_callSW O (hKP _) (as := [.inr (some (4, 0, 0)), .inl (.int (xs (n + 1))), .inr (some (6, 0, 0))]) (rest := []) (r := some (.inl (.int (lwC [1] rs)))) (c_L_stored hfl h0 h6 hf he) rfl mw1145 mw1146 mw945 mw1147 pd_L_stored rfl (by decide) rfl (Nat.le_of_ble_eq_true rfl) (sl_v (sl_p (s10_0 h0) (sl_p (s11_0 h5) (sl_p hS (sl_v sl_0))))) st_0 dL_law_2010 ?_
      change J X B (E, (lwS κ1 rs)) 2013 (lvL b (nI n)) [.inl (.int (lwC [1] rs))]
      refine J_istore O.mo (lv' := lvL b (nI n)) dL_law_2013 (by rw [hmL]; decide) rfl rfl ?_
      refine J_aload_n O.mo dL_law_2015 3 rfl ?_
      refine J_arg O hs (n := n) (k := 1) (by omega) hL (by decide) (q0 := 1) (q4 := 5) rfl rfl dL_law_2016 dL_law_2017 dL_law_2019 dL_law_2020 dL_law_2021 ?_
      refine J_callV O (hKP _) (as := [.inl (.int (xs (n + 1)))]) (rest := []) (r := some (.inl (.int c))) (c_X11_stored hfl h5 hm) rfl (kd0 := 11) (k11_0 h5) (l11_0 h5) (T := TX11) (N := 42) rfl (by decide) mw1148 mw1149 mw1150 mw517 mw1151 pd_X11_stored rfl (by decide) rfl (Nat.le_of_ble_eq_true rfl) (sl_v (sl_v (sl_p (s10_0 h0) (sl_p (s11_0 h5) (sl_p hS (sl_v sl_0)))))) st_0 dL_law_2022 ?_
      change J X B (E, κ2) 2025 ((5, .inl (.int (lwC [1] rs))) :: lvL b (nI n)) [.inl (.int c)]
      refine J_istore O.mo (lv' := ((5, .inl (.int (lwC [1] rs))) :: lvL b (nI n))) dL_law_2025 (by rw [hmL]; decide) rfl rfl ?_
      refine J_aload_n O.mo dL_law_2027 4 rfl ?_
      refine J_callV O (hKP _) (as := []) (rest := []) (r := some (.inl (.int (kV κ2 5 0 0 0)))) (c_X11_thrown hfl h5 rfl) rfl (kd0 := 11) (k11_0 h5) (l11_0 h5) (T := TX11) (N := 42) rfl (by decide) mw951 mw952 mw953 mw517 mw954 pd_X11_thrown rfl (by decide) rfl (Nat.le_of_ble_eq_true rfl) (sl_v (sl_v (sl_v (sl_p (s10_0 h0) (sl_p (s11_0 h5) (sl_p hS (sl_v sl_0))))))) st_0 dL_law_2028 ?_
      change J X B (E, κ2) 2031 ((6, .inl (.int c)) :: (5, .inl (.int (lwC [1] rs))) :: lvL b (nI n)) [.inl (.int (kV κ2 5 0 0 0))]
      rw [hth]
      refine J_iload O.mo dL_law_2031 1 rfl ?_
      refine J_icmp_eq O.mo (tgt := 2038) dL_law_2033 (by decide) (fun _ => ?_) (fun hz => absurd rfl hz)
      refine J_iload O.mo dL_law_2038 1 rfl ?_
      refine J_if_ne O.mo (tgt := 2055) dL_law_2040 (by decide) (fun _ => ?_) (fun hz => ?_)
      · refine J_goto O.mo (tgt := 2121) dL_law_2055 (by decide) ?_
        exact J_sub [2, 3, 4, 5, 6] rfl kk
      · cases rs with
        | inr e =>
          exfalso
          have he1 := he e rfl
          simp only [List.mem_cons, List.not_mem_nil, or_false] at he1
          subst he1
          exact absurd hz (by decide)
        | inl r =>
          refine J_aload_n O.mo dL_law_2043 5 rfl ?_
          refine J_iconst O.mo (v := 0) dL_law_2044 (by decide) ?_
          refine J_lald O h6 rfl vp00 (kj := 0) (by decide) dL_law_2045 ?_
          rw [hc r rfl]
          refine J_iload O.mo dL_law_2046 0 rfl ?_
          refine J_i2l O.mo dL_law_2048 ?_
          refine J_lcmp O.mo dL_law_2049 ?_
          rw [lg_cmp_self]
          refine J_if_eq O.mo (tgt := 2055) dL_law_2050 (by decide) (fun _ => ?_) (fun hz => absurd rfl hz)
          refine J_goto O.mo (tgt := 2121) dL_law_2055 (by decide) ?_
          exact J_sub [2, 3, 4, 5, 6] rfl kk
noncomputable def lw_isAsPlain (E : EE) (κ : K) (a1 : Int32) : Option (EE × K) := match f_X10_isAsPlain E κ a1 with
  | none => none
  | some ((E1, κ1), rs) => gdp (OKE E1 ∧ ∀ e, rs = .inr e → e ∈ ([1] : List Nat)) <| match f_X11_isAsPlain E1 (lwB κ1 rs) a1 with
    | none => none
    | some (κ2, c) => gdp ((∀ e, rs = .inr e → e ∈ ([1] : List Nat)) ∧ kV κ2 5 0 0 0 = lwC [1] rs ∧ ∀ r, rs = .inl r → kV κ2 6 0 0 0 = bI c) (some (E1, κ2))
set_option maxHeartbeats 4000000 in
set_option maxRecDepth 100000 in
theorem w_law_isAsPlain {l0 : Launch} (hfl : l0.stackTraces = false) {X : MX} {B : BX (EE × K)} {g : GP} (O : CK l0 X B g cL_law RL 12 462) (hKP : ∀ E, KPok B E) (hmL : B.2.2.2.1 = 7) {b L : Nat} {xs : Nat → Int32} (hs : B.2.2.2.2.2.2.2.2 X → LWX b L xs B.2.2.1 X) {n : Nat} (hn : n + 4 < L) (hL : L ≤ 2560) {E : EE} {κ : K} (hO : OKE E) {x' : EE × K} (h : lw_isAsPlain E κ (xs (n + 1)) = some x') (kk : J X B x' 2121 (lvL b (nI n)) []) : J X B (E, κ) 2058 (lvL b (nI n)) [] := by
  obtain ⟨h0, h5, h6, hH, hRN⟩ := hO
  have hS : Stab E (.inr (some (6, 0, 0))) := ⟨h6, by decide⟩
  unfold lw_isAsPlain at h
  cases hf : f_X10_isAsPlain E κ (xs (n + 1)) with
  | none => rw [hf] at h; cases h
  | some q =>
    obtain ⟨⟨E1, κ1⟩, rs⟩ := q
    rw [hf] at h
    dsimp only at h
    obtain ⟨⟨⟨g0, g5, g6, gH, gRN⟩, he⟩, h⟩ := gdp_some h
    have gS : Stab E1 (.inr (some (6, 0, 0))) := ⟨g6, by decide⟩
    cases hm : f_X11_isAsPlain E1 (lwB κ1 rs) (xs (n + 1)) with
    | none => rw [hm] at h; cases h
    | some q =>
      obtain ⟨κ2, c⟩ := q
      rw [hm] at h
      dsimp only at h
      obtain ⟨⟨-, hth, hc⟩, h⟩ := gdp_some h
      cases h
      refine J_aload_n O.mo dL_law_2058 1 rfl ?_
      refine J_arg O hs (n := n) (k := 1) (by omega) hL (by decide) (q0 := 0) (q4 := 4) rfl rfl dL_law_2059 dL_law_2060 dL_law_2062 dL_law_2063 dL_law_2064 ?_
      refine J_aload_n O.mo dL_law_2065 3 rfl ?_
      refine J_callSW O (hKP _) (as := [.inr (some (4, 0, 0)), .inl (.int (xs (n + 1))), .inr (some (6, 0, 0))]) (rest := []) (r := some (.inl (.int (lwC [1] rs)))) (c_L_isAsPlain hfl h0 h6 g6 hH hRN hf he) rfl mw1152 mw1153 mw945 mw1154 pd_L_isAsPlain rfl (by decide) rfl (Nat.le_of_ble_eq_true rfl) (sl_v (sl_p (s10_0 h0) (sl_p (s11_0 h5) (sl_p hS (sl_v sl_0))))) st_0 dL_law_2066 ?_
      change J X B (E1, (lwB κ1 rs)) 2069 (lvL b (nI n)) [.inl (.int (lwC [1] rs))]
      refine J_istore O.mo (lv' := lvL b (nI n)) dL_law_2069 (by rw [hmL]; decide) rfl rfl ?_
      refine J_aload_n O.mo dL_law_2071 3 rfl ?_
      refine J_arg O hs (n := n) (k := 1) (by omega) hL (by decide) (q0 := 1) (q4 := 5) rfl rfl dL_law_2072 dL_law_2073 dL_law_2075 dL_law_2076 dL_law_2077 ?_
      refine J_callV O (hKP _) (as := [.inl (.int (xs (n + 1)))]) (rest := []) (r := some (.inl (.int c))) (c_X11_isAsPlain hfl g5 hm) rfl (kd0 := 11) (k11_0 g5) (l11_0 g5) (T := TX11) (N := 42) rfl (by decide) mw1155 mw1156 mw1157 mw517 mw1158 pd_X11_isAsPlain rfl (by decide) rfl (Nat.le_of_ble_eq_true rfl) (sl_v (sl_v (sl_p (s10_0 g0) (sl_p (s11_0 g5) (sl_p gS (sl_v sl_0)))))) st_0 dL_law_2078 ?_
      change J X B (E1, κ2) 2081 ((5, .inl (.int (lwC [1] rs))) :: lvL b (nI n)) [.inl (.int c)]
      refine J_istore O.mo (lv' := ((5, .inl (.int (lwC [1] rs))) :: lvL b (nI n))) dL_law_2081 (by rw [hmL]; decide) rfl rfl ?_
      refine J_aload_n O.mo dL_law_2083 4 rfl ?_
      refine J_callV O (hKP _) (as := []) (rest := []) (r := some (.inl (.int (kV κ2 5 0 0 0)))) (c_X11_thrown hfl g5 rfl) rfl (kd0 := 11) (k11_0 g5) (l11_0 g5) (T := TX11) (N := 42) rfl (by decide) mw951 mw952 mw953 mw517 mw954 pd_X11_thrown rfl (by decide) rfl (Nat.le_of_ble_eq_true rfl) (sl_v (sl_v (sl_v (sl_p (s10_0 g0) (sl_p (s11_0 g5) (sl_p gS (sl_v sl_0))))))) st_0 dL_law_2084 ?_
      change J X B (E1, κ2) 2087 ((6, .inl (.int c)) :: (5, .inl (.int (lwC [1] rs))) :: lvL b (nI n)) [.inl (.int (kV κ2 5 0 0 0))]
      rw [hth]
      refine J_iload O.mo dL_law_2087 1 rfl ?_
      refine J_icmp_eq O.mo (tgt := 2094) dL_law_2089 (by decide) (fun _ => ?_) (fun hz => absurd rfl hz)
      refine J_iload O.mo dL_law_2094 1 rfl ?_
      refine J_if_ne O.mo (tgt := 2118) dL_law_2096 (by decide) (fun _ => ?_) (fun hz => ?_)
      · refine J_goto O.mo (tgt := 2121) dL_law_2118 (by decide) ?_
        exact J_sub [2, 3, 4, 5, 6] rfl kk
      · cases rs with
        | inr e =>
          exfalso
          have he1 := he e rfl
          simp only [List.mem_cons, List.not_mem_nil, or_false] at he1
          subst he1
          exact absurd hz (by decide)
        | inl r =>
          refine J_aload_n O.mo dL_law_2099 5 rfl ?_
          refine J_iconst O.mo (v := 0) dL_law_2100 (by decide) ?_
          refine J_lald O g6 rfl vp00 (kj := 0) (by decide) dL_law_2101 ?_
          rw [hc r rfl]
          refine J_iload O.mo dL_law_2102 0 rfl ?_
          refine J_if_eq O.mo (tgt := 2111) dL_law_2104 (by decide) (fun hb => ?_) (fun hb => ?_)
          · refine J_lconst O.mo (v := (bI c).toInt64) dL_law_2111 (by rw [show bI c = 0 from if_pos hb]; decide) ?_
            refine J_lcmp O.mo dL_law_2112 ?_
            rw [lg_cmp_self]
            refine J_if_eq O.mo (tgt := 2118) dL_law_2113 (by decide) (fun _ => ?_) (fun hz => absurd rfl hz)
            refine J_goto O.mo (tgt := 2121) dL_law_2118 (by decide) ?_
            exact J_sub [2, 3, 4, 5, 6] rfl kk
          · refine J_lconst O.mo (v := (bI c).toInt64) dL_law_2107 (by rw [show bI c = 1 from if_neg hb]; decide) ?_
            refine J_goto O.mo (tgt := 2112) dL_law_2108 (by decide) ?_
            refine J_lcmp O.mo dL_law_2112 ?_
            rw [lg_cmp_self]
            refine J_if_eq O.mo (tgt := 2118) dL_law_2113 (by decide) (fun _ => ?_) (fun hz => absurd rfl hz)
            refine J_goto O.mo (tgt := 2121) dL_law_2118 (by decide) ?_
            exact J_sub [2, 3, 4, 5, 6] rfl kk
