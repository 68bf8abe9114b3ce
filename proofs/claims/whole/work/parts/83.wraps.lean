set_option maxRecDepth 100000 in
theorem mw821 : Cond.methodLink RL 7 yX10_guest ∈ gwl := gwl_tb 128 rfl rfl
set_option maxRecDepth 100000 in
theorem mw822 : Cond.instanceMethod yX10_guest ∈ gwl := gwl_tb 129 rfl rfl
set_option maxRecDepth 100000 in
theorem mw823 : Cond.selects RX10 yX10_guest yX10_guest ∈ gwl := gwl_tb 130 rfl rfl
set_option maxRecDepth 100000 in
theorem mw824 : Cond.code yX10_guest cX10_guest 5 (some .int) ∈ gwl := gwl_tb 131 rfl rfl
set_option maxRecDepth 100000 in
theorem mw825 : Cond.classLink RL 13 "java/lang/IndexOutOfBoundsException" ∈ gwl := gwl_tb 125 rfl rfl
set_option maxRecDepth 100000 in
theorem mw826 : Cond.castable "java/lang/IndexOutOfBoundsException" "java/lang/IndexOutOfBoundsException" ∈ nwl := nwl_tb 141 rfl rfl
set_option maxRecDepth 100000 in
theorem mw827 : Cond.classLink RL 15 "java/lang/IllegalArgumentException" ∈ gwl := gwl_tb 126 rfl rfl
set_option maxRecDepth 100000 in
theorem mw828 : Cond.castable "java/lang/IllegalArgumentException" "java/lang/IllegalArgumentException" ∈ nwl := nwl_tb 209 rfl rfl
set_option maxRecDepth 100000 in
theorem mw829 : Cond.classLink RL 17 "java/lang/IllegalStateException" ∈ gwl := gwl_tb 127 rfl rfl
set_option maxRecDepth 100000 in
theorem mw830 : Cond.castable "java/lang/IllegalStateException" "java/lang/IllegalStateException" ∈ nwl := nwl_tb 229 rfl rfl
set_option maxRecDepth 100000 in
theorem mw831 : Cond.methodLink RL 19 yX10_instruct ∈ gwl := gwl_tb 568 rfl rfl
set_option maxRecDepth 100000 in
theorem mw832 : Cond.instanceMethod yX10_instruct ∈ gwl := gwl_tb 569 rfl rfl
set_option maxRecDepth 100000 in
theorem mw833 : Cond.selects RX10 yX10_instruct yX10_instruct ∈ gwl := gwl_tb 570 rfl rfl
set_option maxRecDepth 100000 in
theorem mw834 : Cond.code yX10_instruct cX10_instruct 6 (some .int) ∈ gwl := gwl_tb 571 rfl rfl
set_option maxRecDepth 100000 in
theorem mw835 : Cond.methodLink RL 23 yX10_pause ∈ gwl := gwl_tb 606 rfl rfl
set_option maxRecDepth 100000 in
theorem mw836 : Cond.instanceMethod yX10_pause ∈ gwl := gwl_tb 607 rfl rfl
set_option maxRecDepth 100000 in
theorem mw837 : Cond.selects RX10 yX10_pause yX10_pause ∈ gwl := gwl_tb 608 rfl rfl
set_option maxRecDepth 100000 in
theorem mw838 : Cond.code yX10_pause cX10_pause 5 (some .boolean) ∈ gwl := gwl_tb 609 rfl rfl
set_option maxRecDepth 100000 in
theorem mw839 : Cond.methodLink RL 27 yX10_scale ∈ gwl := gwl_tb 613 rfl rfl
set_option maxRecDepth 100000 in
theorem mw840 : Cond.instanceMethod yX10_scale ∈ gwl := gwl_tb 614 rfl rfl
set_option maxRecDepth 100000 in
theorem mw841 : Cond.selects RX10 yX10_scale yX10_scale ∈ gwl := gwl_tb 615 rfl rfl
set_option maxRecDepth 100000 in
theorem mw842 : Cond.code yX10_scale cX10_scale 5 (some .int) ∈ gwl := gwl_tb 616 rfl rfl
set_option maxRecDepth 100000 in
theorem mw843 : Cond.methodLink RL 31 yX10_input ∈ gwl := gwl_tb 621 rfl rfl
set_option maxRecDepth 100000 in
theorem mw844 : Cond.instanceMethod yX10_input ∈ gwl := gwl_tb 622 rfl rfl
set_option maxRecDepth 100000 in
theorem mw845 : Cond.selects RX10 yX10_input yX10_input ∈ gwl := gwl_tb 623 rfl rfl
set_option maxRecDepth 100000 in
theorem mw846 : Cond.code yX10_input cX10_input 4 (some .int) ∈ gwl := gwl_tb 624 rfl rfl
set_option maxRecDepth 100000 in
theorem mw847 : Cond.methodLink RL 34 yX10_send ∈ gwl := gwl_tb 644 rfl rfl
set_option maxRecDepth 100000 in
theorem mw848 : Cond.instanceMethod yX10_send ∈ gwl := gwl_tb 645 rfl rfl
set_option maxRecDepth 100000 in
theorem mw849 : Cond.selects RX10 yX10_send yX10_send ∈ gwl := gwl_tb 646 rfl rfl
set_option maxRecDepth 100000 in
theorem mw850 : Cond.code yX10_send cX10_send 4 (some .boolean) ∈ gwl := gwl_tb 647 rfl rfl
set_option maxRecDepth 100000 in
theorem mw851 : Cond.methodLink RL 38 yX10_tick ∈ gwl := gwl_tb 664 rfl rfl
set_option maxRecDepth 100000 in
theorem mw852 : Cond.instanceMethod yX10_tick ∈ gwl := gwl_tb 665 rfl rfl
set_option maxRecDepth 100000 in
theorem mw853 : Cond.selects RX10 yX10_tick yX10_tick ∈ gwl := gwl_tb 666 rfl rfl
set_option maxRecDepth 100000 in
theorem mw854 : Cond.code yX10_tick cX10_tick 7 (some .int) ∈ gwl := gwl_tb 667 rfl rfl
set_option maxRecDepth 100000 in
theorem mw855 : Cond.methodLink RL 42 yX10_share ∈ gwl := gwl_tb 847 rfl rfl
set_option maxRecDepth 100000 in
theorem mw856 : Cond.instanceMethod yX10_share ∈ gwl := gwl_tb 848 rfl rfl
set_option maxRecDepth 100000 in
theorem mw857 : Cond.selects RX10 yX10_share yX10_share ∈ gwl := gwl_tb 849 rfl rfl
set_option maxRecDepth 100000 in
theorem mw858 : Cond.code yX10_share cX10_share 6 (some .int) ∈ gwl := gwl_tb 850 rfl rfl
set_option maxRecDepth 100000 in
theorem mw859 : Cond.methodLink RL 45 yX10_move ∈ gwl := gwl_tb 870 rfl rfl
set_option maxRecDepth 100000 in
theorem mw860 : Cond.instanceMethod yX10_move ∈ gwl := gwl_tb 871 rfl rfl
set_option maxRecDepth 100000 in
theorem mw861 : Cond.selects RX10 yX10_move yX10_move ∈ gwl := gwl_tb 872 rfl rfl
set_option maxRecDepth 100000 in
theorem mw862 : Cond.code yX10_move cX10_move 3 (some .int) ∈ gwl := gwl_tb 873 rfl rfl
set_option maxRecDepth 100000 in
theorem mw863 : Cond.methodLink RL 48 yX10_round ∈ gwl := gwl_tb 893 rfl rfl
set_option maxRecDepth 100000 in
theorem mw864 : Cond.instanceMethod yX10_round ∈ gwl := gwl_tb 894 rfl rfl
set_option maxRecDepth 100000 in
theorem mw865 : Cond.selects RX10 yX10_round yX10_round ∈ gwl := gwl_tb 895 rfl rfl
set_option maxRecDepth 100000 in
theorem mw866 : Cond.code yX10_round cX10_round 4 (some .int) ∈ gwl := gwl_tb 896 rfl rfl
set_option maxRecDepth 100000 in
theorem mw867 : Cond.methodLink RL 51 yX10_land ∈ gwl := gwl_tb 906 rfl rfl
set_option maxRecDepth 100000 in
theorem mw868 : Cond.instanceMethod yX10_land ∈ gwl := gwl_tb 907 rfl rfl
set_option maxRecDepth 100000 in
theorem mw869 : Cond.selects RX10 yX10_land yX10_land ∈ gwl := gwl_tb 908 rfl rfl
set_option maxRecDepth 100000 in
theorem mw870 : Cond.code yX10_land cX10_land 5 (some .int) ∈ gwl := gwl_tb 909 rfl rfl
set_option maxRecDepth 100000 in
theorem mw871 : Cond.methodLink RL 55 yX10_snapshot ∈ gwl := gwl_tb 917 rfl rfl
set_option maxRecDepth 100000 in
theorem mw872 : Cond.instanceMethod yX10_snapshot ∈ gwl := gwl_tb 918 rfl rfl
set_option maxRecDepth 100000 in
theorem mw873 : Cond.selects RX10 yX10_snapshot yX10_snapshot ∈ gwl := gwl_tb 919 rfl rfl
set_option maxRecDepth 100000 in
theorem mw874 : Cond.code yX10_snapshot cX10_snapshot 4 (some .int) ∈ gwl := gwl_tb 920 rfl rfl
set_option maxRecDepth 100000 in
theorem mw875 : Cond.methodLink RL 58 yX10_restore ∈ gwl := gwl_tb 964 rfl rfl
set_option maxRecDepth 100000 in
theorem mw876 : Cond.instanceMethod yX10_restore ∈ gwl := gwl_tb 965 rfl rfl
set_option maxRecDepth 100000 in
theorem mw877 : Cond.selects RX10 yX10_restore yX10_restore ∈ gwl := gwl_tb 966 rfl rfl
set_option maxRecDepth 100000 in
theorem mw878 : Cond.code yX10_restore cX10_restore 5 (some .int) ∈ gwl := gwl_tb 967 rfl rfl
set_option maxRecDepth 100000 in
theorem mw879 : Cond.methodLink RL 61 yX10_follow ∈ gwl := gwl_tb 987 rfl rfl
set_option maxRecDepth 100000 in
theorem mw880 : Cond.instanceMethod yX10_follow ∈ gwl := gwl_tb 988 rfl rfl
set_option maxRecDepth 100000 in
theorem mw881 : Cond.selects RX10 yX10_follow yX10_follow ∈ gwl := gwl_tb 989 rfl rfl
set_option maxRecDepth 100000 in
theorem mw882 : Cond.code yX10_follow cX10_follow 5 (some .boolean) ∈ gwl := gwl_tb 990 rfl rfl
set_option maxRecDepth 100000 in
theorem mw883 : Cond.methodLink RL 64 yX10_step ∈ gwl := gwl_tb 1009 rfl rfl
set_option maxRecDepth 100000 in
theorem mw884 : Cond.instanceMethod yX10_step ∈ gwl := gwl_tb 1010 rfl rfl
set_option maxRecDepth 100000 in
theorem mw885 : Cond.selects RX10 yX10_step yX10_step ∈ gwl := gwl_tb 1011 rfl rfl
set_option maxRecDepth 100000 in
theorem mw886 : Cond.code yX10_step cX10_step 3 (some .int) ∈ gwl := gwl_tb 1012 rfl rfl
set_option maxRecDepth 100000 in
theorem mw887 : Cond.methodLink RL 67 yX10_fail ∈ gwl := gwl_tb 1017 rfl rfl
set_option maxRecDepth 100000 in
theorem mw888 : Cond.instanceMethod yX10_fail ∈ gwl := gwl_tb 1018 rfl rfl
set_option maxRecDepth 100000 in
theorem mw889 : Cond.selects RX10 yX10_fail yX10_fail ∈ gwl := gwl_tb 1019 rfl rfl
set_option maxRecDepth 100000 in
theorem mw890 : Cond.code yX10_fail cX10_fail 7 (some .int) ∈ gwl := gwl_tb 1020 rfl rfl
set_option maxRecDepth 100000 in
theorem mw891 : Cond.methodLink RL 70 yX10_mend ∈ gwl := gwl_tb 1039 rfl rfl
set_option maxRecDepth 100000 in
theorem mw892 : Cond.instanceMethod yX10_mend ∈ gwl := gwl_tb 1040 rfl rfl
set_option maxRecDepth 100000 in
theorem mw893 : Cond.selects RX10 yX10_mend yX10_mend ∈ gwl := gwl_tb 1041 rfl rfl
set_option maxRecDepth 100000 in
theorem mw894 : Cond.code yX10_mend cX10_mend 3 none ∈ gwl := gwl_tb 1042 rfl rfl
set_option maxRecDepth 100000 in
theorem mw895 : Cond.methodLink RL 74 yX10_of ∈ gwl := gwl_tb 1047 rfl rfl
set_option maxRecDepth 100000 in
theorem mw896 : Cond.instanceMethod yX10_of ∈ gwl := gwl_tb 1048 rfl rfl
set_option maxRecDepth 100000 in
theorem mw897 : Cond.selects RX10 yX10_of yX10_of ∈ gwl := gwl_tb 1049 rfl rfl
set_option maxRecDepth 100000 in
theorem mw898 : Cond.code yX10_of cX10_of 5 (some .int) ∈ gwl := gwl_tb 1050 rfl rfl
set_option maxRecDepth 100000 in
theorem mw899 : Cond.methodLink RL 77 yX10_register ∈ gwl := gwl_tb 1055 rfl rfl
set_option maxRecDepth 100000 in
theorem mw900 : Cond.instanceMethod yX10_register ∈ gwl := gwl_tb 1056 rfl rfl
set_option maxRecDepth 100000 in
theorem mw901 : Cond.selects RX10 yX10_register yX10_register ∈ gwl := gwl_tb 1057 rfl rfl
set_option maxRecDepth 100000 in
theorem mw902 : Cond.code yX10_register cX10_register 4 (some .int) ∈ gwl := gwl_tb 1058 rfl rfl
set_option maxRecDepth 100000 in
theorem mw903 : Cond.methodLink RL 80 yX10_word ∈ gwl := gwl_tb 1062 rfl rfl
set_option maxRecDepth 100000 in
theorem mw904 : Cond.instanceMethod yX10_word ∈ gwl := gwl_tb 1063 rfl rfl
set_option maxRecDepth 100000 in
theorem mw905 : Cond.selects RX10 yX10_word yX10_word ∈ gwl := gwl_tb 1064 rfl rfl
set_option maxRecDepth 100000 in
theorem mw906 : Cond.code yX10_word cX10_word 5 (some .int) ∈ gwl := gwl_tb 1065 rfl rfl
set_option maxRecDepth 100000 in
theorem mw907 : Cond.methodLink RL 84 yX10_pageOf ∈ gwl := gwl_tb 1069 rfl rfl
set_option maxRecDepth 100000 in
theorem mw908 : Cond.instanceMethod yX10_pageOf ∈ gwl := gwl_tb 1070 rfl rfl
set_option maxRecDepth 100000 in
theorem mw909 : Cond.selects RX10 yX10_pageOf yX10_pageOf ∈ gwl := gwl_tb 1071 rfl rfl
set_option maxRecDepth 100000 in
theorem mw910 : Cond.code yX10_pageOf cX10_pageOf 4 (some .int) ∈ gwl := gwl_tb 1072 rfl rfl
set_option maxRecDepth 100000 in
theorem mw911 : Cond.methodLink RL 87 yX10_frameOf ∈ gwl := gwl_tb 1081 rfl rfl
set_option maxRecDepth 100000 in
theorem mw912 : Cond.instanceMethod yX10_frameOf ∈ gwl := gwl_tb 1082 rfl rfl
set_option maxRecDepth 100000 in
theorem mw913 : Cond.selects RX10 yX10_frameOf yX10_frameOf ∈ gwl := gwl_tb 1083 rfl rfl
set_option maxRecDepth 100000 in
theorem mw914 : Cond.code yX10_frameOf cX10_frameOf 4 (some .int) ∈ gwl := gwl_tb 1084 rfl rfl
set_option maxRecDepth 100000 in
theorem mw915 : Cond.methodLink RL 90 yX10_used ∈ gwl := gwl_tb 1088 rfl rfl
set_option maxRecDepth 100000 in
theorem mw916 : Cond.instanceMethod yX10_used ∈ gwl := gwl_tb 1089 rfl rfl
set_option maxRecDepth 100000 in
theorem mw917 : Cond.selects RX10 yX10_used yX10_used ∈ gwl := gwl_tb 1090 rfl rfl
set_option maxRecDepth 100000 in
theorem mw918 : Cond.code yX10_used cX10_used 2 (some .int) ∈ gwl := gwl_tb 1091 rfl rfl
set_option maxRecDepth 100000 in
theorem mw919 : Cond.methodLink RL 93 yX10_exits ∈ gwl := gwl_tb 1099 rfl rfl
set_option maxRecDepth 100000 in
theorem mw920 : Cond.instanceMethod yX10_exits ∈ gwl := gwl_tb 1100 rfl rfl
set_option maxRecDepth 100000 in
theorem mw921 : Cond.selects RX10 yX10_exits yX10_exits ∈ gwl := gwl_tb 1101 rfl rfl
set_option maxRecDepth 100000 in
theorem mw922 : Cond.code yX10_exits cX10_exits 4 (some .int) ∈ gwl := gwl_tb 1102 rfl rfl
set_option maxRecDepth 100000 in
theorem mw923 : Cond.methodLink RL 96 yX10_out ∈ gwl := gwl_tb 1107 rfl rfl
set_option maxRecDepth 100000 in
theorem mw924 : Cond.instanceMethod yX10_out ∈ gwl := gwl_tb 1108 rfl rfl
set_option maxRecDepth 100000 in
theorem mw925 : Cond.selects RX10 yX10_out yX10_out ∈ gwl := gwl_tb 1109 rfl rfl
set_option maxRecDepth 100000 in
theorem mw926 : Cond.code yX10_out cX10_out 2 (some .int) ∈ gwl := gwl_tb 1110 rfl rfl
set_option maxRecDepth 100000 in
theorem mw927 : Cond.methodLink RL 99 yX10_outAt ∈ gwl := gwl_tb 1114 rfl rfl
set_option maxRecDepth 100000 in
theorem mw928 : Cond.instanceMethod yX10_outAt ∈ gwl := gwl_tb 1115 rfl rfl
set_option maxRecDepth 100000 in
theorem mw929 : Cond.selects RX10 yX10_outAt yX10_outAt ∈ gwl := gwl_tb 1116 rfl rfl
set_option maxRecDepth 100000 in
theorem mw930 : Cond.code yX10_outAt cX10_outAt 4 (some .int) ∈ gwl := gwl_tb 1117 rfl rfl
set_option maxRecDepth 100000 in
theorem mw931 : Cond.methodLink RL 102 yX10_held ∈ gwl := gwl_tb 1121 rfl rfl
set_option maxRecDepth 100000 in
theorem mw932 : Cond.instanceMethod yX10_held ∈ gwl := gwl_tb 1122 rfl rfl
set_option maxRecDepth 100000 in
theorem mw933 : Cond.selects RX10 yX10_held yX10_held ∈ gwl := gwl_tb 1123 rfl rfl
set_option maxRecDepth 100000 in
theorem mw934 : Cond.code yX10_held cX10_held 2 (some .int) ∈ gwl := gwl_tb 1124 rfl rfl
set_option maxRecDepth 100000 in
theorem mw935 : Cond.methodLink RL 105 yX10_stored ∈ gwl := gwl_tb 1128 rfl rfl
set_option maxRecDepth 100000 in
theorem mw936 : Cond.instanceMethod yX10_stored ∈ gwl := gwl_tb 1129 rfl rfl
set_option maxRecDepth 100000 in
theorem mw937 : Cond.selects RX10 yX10_stored yX10_stored ∈ gwl := gwl_tb 1130 rfl rfl
set_option maxRecDepth 100000 in
theorem mw938 : Cond.code yX10_stored cX10_stored 2 (some .int) ∈ gwl := gwl_tb 1131 rfl rfl
set_option maxRecDepth 100000 in
theorem mw939 : Cond.methodLink RL 108 yX10_isAsPlain ∈ gwl := gwl_tb 1135 rfl rfl
set_option maxRecDepth 100000 in
theorem mw940 : Cond.instanceMethod yX10_isAsPlain ∈ gwl := gwl_tb 1136 rfl rfl
set_option maxRecDepth 100000 in
theorem mw941 : Cond.selects RX10 yX10_isAsPlain yX10_isAsPlain ∈ gwl := gwl_tb 1137 rfl rfl
set_option maxRecDepth 100000 in
theorem mw942 : Cond.code yX10_isAsPlain cX10_isAsPlain 3 (some .boolean) ∈ gwl := gwl_tb 1138 rfl rfl
theorem pd_X10_guest : (yX10_guest).cls ≠ "java/lang/invoke/MethodHandle" ∧ (yX10_guest).cls ≠ "java/lang/invoke/VarHandle" ∧ (parseMethodDescriptor (yX10_guest).desc).map (fun d => d.parameters.length) = some 3 := ⟨by decide +kernel, by decide +kernel, by decide +kernel⟩
theorem pd_X10_instruct : (yX10_instruct).cls ≠ "java/lang/invoke/MethodHandle" ∧ (yX10_instruct).cls ≠ "java/lang/invoke/VarHandle" ∧ (parseMethodDescriptor (yX10_instruct).desc).map (fun d => d.parameters.length) = some 4 := ⟨by decide +kernel, by decide +kernel, by decide +kernel⟩
theorem pd_X10_pause : (yX10_pause).cls ≠ "java/lang/invoke/MethodHandle" ∧ (yX10_pause).cls ≠ "java/lang/invoke/VarHandle" ∧ (parseMethodDescriptor (yX10_pause).desc).map (fun d => d.parameters.length) = some 2 := ⟨by decide +kernel, by decide +kernel, by decide +kernel⟩
theorem pd_X10_scale : (yX10_scale).cls ≠ "java/lang/invoke/MethodHandle" ∧ (yX10_scale).cls ≠ "java/lang/invoke/VarHandle" ∧ (parseMethodDescriptor (yX10_scale).desc).map (fun d => d.parameters.length) = some 2 := ⟨by decide +kernel, by decide +kernel, by decide +kernel⟩
theorem pd_X10_input : (yX10_input).cls ≠ "java/lang/invoke/MethodHandle" ∧ (yX10_input).cls ≠ "java/lang/invoke/VarHandle" ∧ (parseMethodDescriptor (yX10_input).desc).map (fun d => d.parameters.length) = some 2 := ⟨by decide +kernel, by decide +kernel, by decide +kernel⟩
theorem pd_X10_send : (yX10_send).cls ≠ "java/lang/invoke/MethodHandle" ∧ (yX10_send).cls ≠ "java/lang/invoke/VarHandle" ∧ (parseMethodDescriptor (yX10_send).desc).map (fun d => d.parameters.length) = some 1 := ⟨by decide +kernel, by decide +kernel, by decide +kernel⟩
theorem pd_X10_tick : (yX10_tick).cls ≠ "java/lang/invoke/MethodHandle" ∧ (yX10_tick).cls ≠ "java/lang/invoke/VarHandle" ∧ (parseMethodDescriptor (yX10_tick).desc).map (fun d => d.parameters.length) = some 1 := ⟨by decide +kernel, by decide +kernel, by decide +kernel⟩
theorem pd_X10_share : (yX10_share).cls ≠ "java/lang/invoke/MethodHandle" ∧ (yX10_share).cls ≠ "java/lang/invoke/VarHandle" ∧ (parseMethodDescriptor (yX10_share).desc).map (fun d => d.parameters.length) = some 1 := ⟨by decide +kernel, by decide +kernel, by decide +kernel⟩
theorem pd_X10_move : (yX10_move).cls ≠ "java/lang/invoke/MethodHandle" ∧ (yX10_move).cls ≠ "java/lang/invoke/VarHandle" ∧ (parseMethodDescriptor (yX10_move).desc).map (fun d => d.parameters.length) = some 1 := ⟨by decide +kernel, by decide +kernel, by decide +kernel⟩
theorem pd_X10_round : (yX10_round).cls ≠ "java/lang/invoke/MethodHandle" ∧ (yX10_round).cls ≠ "java/lang/invoke/VarHandle" ∧ (parseMethodDescriptor (yX10_round).desc).map (fun d => d.parameters.length) = some 2 := ⟨by decide +kernel, by decide +kernel, by decide +kernel⟩
theorem pd_X10_land : (yX10_land).cls ≠ "java/lang/invoke/MethodHandle" ∧ (yX10_land).cls ≠ "java/lang/invoke/VarHandle" ∧ (parseMethodDescriptor (yX10_land).desc).map (fun d => d.parameters.length) = some 2 := ⟨by decide +kernel, by decide +kernel, by decide +kernel⟩
theorem pd_X10_snapshot : (yX10_snapshot).cls ≠ "java/lang/invoke/MethodHandle" ∧ (yX10_snapshot).cls ≠ "java/lang/invoke/VarHandle" ∧ (parseMethodDescriptor (yX10_snapshot).desc).map (fun d => d.parameters.length) = some 1 := ⟨by decide +kernel, by decide +kernel, by decide +kernel⟩
theorem pd_X10_restore : (yX10_restore).cls ≠ "java/lang/invoke/MethodHandle" ∧ (yX10_restore).cls ≠ "java/lang/invoke/VarHandle" ∧ (parseMethodDescriptor (yX10_restore).desc).map (fun d => d.parameters.length) = some 2 := ⟨by decide +kernel, by decide +kernel, by decide +kernel⟩
theorem pd_X10_follow : (yX10_follow).cls ≠ "java/lang/invoke/MethodHandle" ∧ (yX10_follow).cls ≠ "java/lang/invoke/VarHandle" ∧ (parseMethodDescriptor (yX10_follow).desc).map (fun d => d.parameters.length) = some 2 := ⟨by decide +kernel, by decide +kernel, by decide +kernel⟩
theorem pd_X10_step : (yX10_step).cls ≠ "java/lang/invoke/MethodHandle" ∧ (yX10_step).cls ≠ "java/lang/invoke/VarHandle" ∧ (parseMethodDescriptor (yX10_step).desc).map (fun d => d.parameters.length) = some 1 := ⟨by decide +kernel, by decide +kernel, by decide +kernel⟩
theorem pd_X10_fail : (yX10_fail).cls ≠ "java/lang/invoke/MethodHandle" ∧ (yX10_fail).cls ≠ "java/lang/invoke/VarHandle" ∧ (parseMethodDescriptor (yX10_fail).desc).map (fun d => d.parameters.length) = some 1 := ⟨by decide +kernel, by decide +kernel, by decide +kernel⟩
theorem pd_X10_mend : (yX10_mend).cls ≠ "java/lang/invoke/MethodHandle" ∧ (yX10_mend).cls ≠ "java/lang/invoke/VarHandle" ∧ (parseMethodDescriptor (yX10_mend).desc).map (fun d => d.parameters.length) = some 1 := ⟨by decide +kernel, by decide +kernel, by decide +kernel⟩
theorem pd_X10_of : (yX10_of).cls ≠ "java/lang/invoke/MethodHandle" ∧ (yX10_of).cls ≠ "java/lang/invoke/VarHandle" ∧ (parseMethodDescriptor (yX10_of).desc).map (fun d => d.parameters.length) = some 2 := ⟨by decide +kernel, by decide +kernel, by decide +kernel⟩
theorem pd_X10_register : (yX10_register).cls ≠ "java/lang/invoke/MethodHandle" ∧ (yX10_register).cls ≠ "java/lang/invoke/VarHandle" ∧ (parseMethodDescriptor (yX10_register).desc).map (fun d => d.parameters.length) = some 2 := ⟨by decide +kernel, by decide +kernel, by decide +kernel⟩
theorem pd_X10_word : (yX10_word).cls ≠ "java/lang/invoke/MethodHandle" ∧ (yX10_word).cls ≠ "java/lang/invoke/VarHandle" ∧ (parseMethodDescriptor (yX10_word).desc).map (fun d => d.parameters.length) = some 3 := ⟨by decide +kernel, by decide +kernel, by decide +kernel⟩
theorem pd_X10_pageOf : (yX10_pageOf).cls ≠ "java/lang/invoke/MethodHandle" ∧ (yX10_pageOf).cls ≠ "java/lang/invoke/VarHandle" ∧ (parseMethodDescriptor (yX10_pageOf).desc).map (fun d => d.parameters.length) = some 2 := ⟨by decide +kernel, by decide +kernel, by decide +kernel⟩
theorem pd_X10_frameOf : (yX10_frameOf).cls ≠ "java/lang/invoke/MethodHandle" ∧ (yX10_frameOf).cls ≠ "java/lang/invoke/VarHandle" ∧ (parseMethodDescriptor (yX10_frameOf).desc).map (fun d => d.parameters.length) = some 2 := ⟨by decide +kernel, by decide +kernel, by decide +kernel⟩
theorem pd_X10_used : (yX10_used).cls ≠ "java/lang/invoke/MethodHandle" ∧ (yX10_used).cls ≠ "java/lang/invoke/VarHandle" ∧ (parseMethodDescriptor (yX10_used).desc).map (fun d => d.parameters.length) = some 1 := ⟨by decide +kernel, by decide +kernel, by decide +kernel⟩
theorem pd_X10_exits : (yX10_exits).cls ≠ "java/lang/invoke/MethodHandle" ∧ (yX10_exits).cls ≠ "java/lang/invoke/VarHandle" ∧ (parseMethodDescriptor (yX10_exits).desc).map (fun d => d.parameters.length) = some 2 := ⟨by decide +kernel, by decide +kernel, by decide +kernel⟩
theorem pd_X10_out : (yX10_out).cls ≠ "java/lang/invoke/MethodHandle" ∧ (yX10_out).cls ≠ "java/lang/invoke/VarHandle" ∧ (parseMethodDescriptor (yX10_out).desc).map (fun d => d.parameters.length) = some 1 := ⟨by decide +kernel, by decide +kernel, by decide +kernel⟩
theorem pd_X10_outAt : (yX10_outAt).cls ≠ "java/lang/invoke/MethodHandle" ∧ (yX10_outAt).cls ≠ "java/lang/invoke/VarHandle" ∧ (parseMethodDescriptor (yX10_outAt).desc).map (fun d => d.parameters.length) = some 2 := ⟨by decide +kernel, by decide +kernel, by decide +kernel⟩
theorem pd_X10_held : (yX10_held).cls ≠ "java/lang/invoke/MethodHandle" ∧ (yX10_held).cls ≠ "java/lang/invoke/VarHandle" ∧ (parseMethodDescriptor (yX10_held).desc).map (fun d => d.parameters.length) = some 1 := ⟨by decide +kernel, by decide +kernel, by decide +kernel⟩
theorem pd_X10_stored : (yX10_stored).cls ≠ "java/lang/invoke/MethodHandle" ∧ (yX10_stored).cls ≠ "java/lang/invoke/VarHandle" ∧ (parseMethodDescriptor (yX10_stored).desc).map (fun d => d.parameters.length) = some 1 := ⟨by decide +kernel, by decide +kernel, by decide +kernel⟩
theorem pd_X10_isAsPlain : (yX10_isAsPlain).cls ≠ "java/lang/invoke/MethodHandle" ∧ (yX10_isAsPlain).cls ≠ "java/lang/invoke/VarHandle" ∧ (parseMethodDescriptor (yX10_isAsPlain).desc).map (fun d => d.parameters.length) = some 1 := ⟨by decide +kernel, by decide +kernel, by decide +kernel⟩
theorem vp00 : vp_in (0 : Int32) (sl 6 0) := by
  show ¬ ((0 : Int32) < 0 ∨ 1 ≤ (0 : Int32).toNatClampNeg)
  decide
set_option maxHeartbeats 4000000 in
set_option maxRecDepth 100000 in
theorem c_L_guest {l : Launch} (hfl : l.stackTraces = false) {E E' : EE} {κ κ' : K} {a1 a2 a3 : Int32} (h0 : PC 10 E 4 0 0) (h6 : liveC E 6 0 0 = true) (h6' : liveC E' 6 0 0 = true) (hH : E.2.2.2.1 = 1) (hRN : rawN E) (hb3 : a3 = 0 ∨ a3 = 1) {rs : Int32 ⊕ Nat} (h : f_X10_guest E κ a1 a2 a3 = some ((E', κ'), rs)) (he : ∀ e, rs = .inr e → e ∈ ([1, 2, 3] : List Nat)) : ConW l yL_guest cL_guest 6 (some .int) [(0, 12, 15, 13), (0, 12, 19, 15), (0, 12, 23, 17)] 9 165 [.inr (some (4, 0, 0)), .inl (.int a1), .inl (.int a2), .inl (.int a3), .inr (some (6, 0, 0))] (E, κ) (E', (lwS κ' rs)) (some (.inl (.int (lwC [1, 2, 3] rs)))) := by
  refine ConW_of hfl (by decide) (Nat.le_of_ble_eq_true rfl) rfl ⟨.int, rfl, rfl⟩ ?_
  intro X B g O hKP hmL hxt hE
  change J X B (E, κ) 0 [(0, .inr (some (4, 0, 0))), (1, .inl (.int a1)), (2, .inl (.int a2)), (3, .inl (.int a3)), (4, .inr (some (6, 0, 0)))] []
  have hO : Stab E (.inr (some (6, 0, 0))) := ⟨h6, by decide⟩
  refine J_aload O.mo dL_guest_0 4 rfl ?_
  refine J_iconst O.mo (v := 0) dL_guest_2 (by decide) ?_
  refine J_aload_n O.mo dL_guest_3 0 rfl ?_
  refine J_iload_n O.mo dL_guest_4 1 rfl ?_
  refine J_iload_n O.mo dL_guest_5 2 rfl ?_
  refine J_iload_n O.mo dL_guest_6 3 rfl ?_
  refine J_callVXH O hKP (as := [.inl (.int a1), .inl (.int a2), .inl (.int a3)]) (rest := [.inl (.int 0), .inr (some (6, 0, 0))]) (c_X10_guest hfl h0 hH hRN hb3 h) rfl (kd0 := 10) (k10_0 h0) (l10_0 h0) (T := TX10) (N := 4) rfl (by decide) mw821 mw822 mw823 mw320 mw824 pd_X10_guest rfl (by decide) rfl (Nat.le_of_ble_eq_true rfl) (sl_p (s10_0 h0) (sl_v (sl_v (sl_v (sl_p hO sl_0))))) (st_v (st_p hO st_0)) dL_guest_7 hxt (fun s hs => ?_) (fun v hv => ?_)
  · cases rs with
    | inl r => cases hs
    | inr e =>
      have hs' : exN e = s := by injection hs
      have he1 := he e rfl
      clear he
      simp only [List.mem_cons, List.not_mem_nil, or_false] at he1
      rcases he1 with rfl | rfl | rfl
      · subst hs'
        refine ⟨15, ⟨[], ⟨0, 12, 15, 13⟩, [⟨0, 12, 19, 15⟩, ⟨0, 12, 23, 17⟩], rfl, fun _ h => absurd h List.not_mem_nil, rfl, by decide, ⟨_, mw825, mw826⟩, rfl⟩, fun q => ?_⟩
        refine J_astoreR O.mo dL_guest_15 (by rw [hmL]; decide) rfl rfl ?_
        refine J_iconst O.mo (v := lwC [1, 2, 3] (.inr 1 : Int32 ⊕ Nat)) dL_guest_17 (by decide) ?_
        exact hE _ _ dL_guest_18
      · subst hs'
        refine ⟨19, ⟨[⟨0, 12, 15, 13⟩], ⟨0, 12, 19, 15⟩, [⟨0, 12, 23, 17⟩], rfl, List.forall_mem_cons.mpr ⟨⟨by decide, _, mw825, List.mem_of_getElem? (i := 0) rfl⟩, fun _ h => absurd h List.not_mem_nil⟩, rfl, by decide, ⟨_, mw827, mw828⟩, rfl⟩, fun q => ?_⟩
        refine J_astoreR O.mo dL_guest_19 (by rw [hmL]; decide) rfl rfl ?_
        refine J_iconst O.mo (v := lwC [1, 2, 3] (.inr 2 : Int32 ⊕ Nat)) dL_guest_21 (by decide) ?_
        exact hE _ _ dL_guest_22
      · subst hs'
        refine ⟨23, ⟨[⟨0, 12, 15, 13⟩, ⟨0, 12, 19, 15⟩], ⟨0, 12, 23, 17⟩, [], rfl, List.forall_mem_cons.mpr ⟨⟨by decide, _, mw825, List.mem_of_getElem? (i := 1) rfl⟩, List.forall_mem_cons.mpr ⟨⟨by decide, _, mw827, List.mem_of_getElem? (i := 2) rfl⟩, fun _ h => absurd h List.not_mem_nil⟩⟩, rfl, by decide, ⟨_, mw829, mw830⟩, rfl⟩, fun q => ?_⟩
        refine J_astoreR O.mo dL_guest_23 (by rw [hmL]; decide) rfl rfl ?_
        refine J_iconst O.mo (v := lwC [1, 2, 3] (.inr 3 : Int32 ⊕ Nat)) dL_guest_25 (by decide) ?_
        exact hE _ _ dL_guest_26
  · cases rs with
    | inr e => cases hv
    | inl r =>
      have hv' : some (.inl (.int r)) = v := by injection hv
      subst hv'
      show J X B (E', κ') 10 [(0, .inr (some (4, 0, 0))), (1, .inl (.int a1)), (2, .inl (.int a2)), (3, .inl (.int a3)), (4, .inr (some (6, 0, 0)))] [.inl (.int r), .inl (.int 0), .inr (some (6, 0, 0))]
      refine J_i2l O.mo dL_guest_10 ?_
      refine J_last O h6' rfl vp00 (kj := 0) (by decide) dL_guest_11 ?_
      refine J_goto O.mo (tgt := 27) dL_guest_12 (by decide) ?_
      refine J_iconst O.mo (v := lwC [1, 2, 3] (.inl r : Int32 ⊕ Nat)) dL_guest_27 (by show Int32.ofInt 0 = 0; decide) ?_
      exact hE _ _ dL_guest_28
set_option maxHeartbeats 4000000 in
set_option maxRecDepth 100000 in
theorem c_L_instruct {l : Launch} (hfl : l.stackTraces = false) {E : EE} {κ κ' : K} {a1 a2 a3 a4 : Int32} (h0 : PC 10 E 4 0 0) (h6 : liveC E 6 0 0 = true) {rs : Int32 ⊕ Nat} (h : f_X10_instruct E κ a1 a2 a3 a4 = some (κ', rs)) (he : ∀ e, rs = .inr e → e ∈ ([1, 2, 3] : List Nat)) : ConW l yL_instruct cL_instruct 7 (some .int) [(0, 14, 17, 13), (0, 14, 21, 15), (0, 14, 25, 17)] 9 149 [.inr (some (4, 0, 0)), .inl (.int a1), .inl (.int a2), .inl (.int a3), .inl (.int a4), .inr (some (6, 0, 0))] (E, κ) (E, (lwS κ' rs)) (some (.inl (.int (lwC [1, 2, 3] rs)))) := by
  refine ConW_of hfl (by decide) (Nat.le_of_ble_eq_true rfl) rfl ⟨.int, rfl, rfl⟩ ?_
  intro X B g O hKP hmL hxt hE
  change J X B (E, κ) 0 [(0, .inr (some (4, 0, 0))), (1, .inl (.int a1)), (2, .inl (.int a2)), (3, .inl (.int a3)), (4, .inl (.int a4)), (5, .inr (some (6, 0, 0)))] []
  have hO : Stab E (.inr (some (6, 0, 0))) := ⟨h6, by decide⟩
  have h6' := h6
  refine J_aload O.mo dL_instruct_0 5 rfl ?_
  refine J_iconst O.mo (v := 0) dL_instruct_2 (by decide) ?_
  refine J_aload_n O.mo dL_instruct_3 0 rfl ?_
  refine J_iload_n O.mo dL_instruct_4 1 rfl ?_
  refine J_iload_n O.mo dL_instruct_5 2 rfl ?_
  refine J_iload_n O.mo dL_instruct_6 3 rfl ?_
  refine J_iload O.mo dL_instruct_7 4 rfl ?_
  refine J_callVXH O hKP (as := [.inl (.int a1), .inl (.int a2), .inl (.int a3), .inl (.int a4)]) (rest := [.inl (.int 0), .inr (some (6, 0, 0))]) (c_X10_instruct hfl h0 h) rfl (kd0 := 10) (k10_0 h0) (l10_0 h0) (T := TX10) (N := 4) rfl (by decide) mw831 mw832 mw833 mw320 mw834 pd_X10_instruct rfl (by decide) rfl (Nat.le_of_ble_eq_true rfl) (sl_p (s10_0 h0) (sl_v (sl_v (sl_v (sl_v (sl_p hO sl_0)))))) (st_v (st_p hO st_0)) dL_instruct_9 hxt (fun s hs => ?_) (fun v hv => ?_)
  · cases rs with
    | inl r => cases hs
    | inr e =>
      have hs' : exN e = s := by injection hs
      have he1 := he e rfl
      clear he
      simp only [List.mem_cons, List.not_mem_nil, or_false] at he1
      rcases he1 with rfl | rfl | rfl
      · subst hs'
        refine ⟨17, ⟨[], ⟨0, 14, 17, 13⟩, [⟨0, 14, 21, 15⟩, ⟨0, 14, 25, 17⟩], rfl, fun _ h => absurd h List.not_mem_nil, rfl, by decide, ⟨_, mw825, mw826⟩, rfl⟩, fun q => ?_⟩
        refine J_astoreR O.mo dL_instruct_17 (by rw [hmL]; decide) rfl rfl ?_
        refine J_iconst O.mo (v := lwC [1, 2, 3] (.inr 1 : Int32 ⊕ Nat)) dL_instruct_19 (by decide) ?_
        exact hE _ _ dL_instruct_20
      · subst hs'
        refine ⟨21, ⟨[⟨0, 14, 17, 13⟩], ⟨0, 14, 21, 15⟩, [⟨0, 14, 25, 17⟩], rfl, List.forall_mem_cons.mpr ⟨⟨by decide, _, mw825, List.mem_of_getElem? (i := 0) rfl⟩, fun _ h => absurd h List.not_mem_nil⟩, rfl, by decide, ⟨_, mw827, mw828⟩, rfl⟩, fun q => ?_⟩
        refine J_astoreR O.mo dL_instruct_21 (by rw [hmL]; decide) rfl rfl ?_
        refine J_iconst O.mo (v := lwC [1, 2, 3] (.inr 2 : Int32 ⊕ Nat)) dL_instruct_23 (by decide) ?_
        exact hE _ _ dL_instruct_24
      · subst hs'
        refine ⟨25, ⟨[⟨0, 14, 17, 13⟩, ⟨0, 14, 21, 15⟩], ⟨0, 14, 25, 17⟩, [], rfl, List.forall_mem_cons.mpr ⟨⟨by decide, _, mw825, List.mem_of_getElem? (i := 1) rfl⟩, List.forall_mem_cons.mpr ⟨⟨by decide, _, mw827, List.mem_of_getElem? (i := 2) rfl⟩, fun _ h => absurd h List.not_mem_nil⟩⟩, rfl, by decide, ⟨_, mw829, mw830⟩, rfl⟩, fun q => ?_⟩
        refine J_astoreR O.mo dL_instruct_25 (by rw [hmL]; decide) rfl rfl ?_
        refine J_iconst O.mo (v := lwC [1, 2, 3] (.inr 3 : Int32 ⊕ Nat)) dL_instruct_27 (by decide) ?_
        exact hE _ _ dL_instruct_28
  · cases rs with
    | inr e => cases hv
    | inl r =>
      have hv' : some (.inl (.int r)) = v := by injection hv
      subst hv'
      show J X B (E, κ') 12 [(0, .inr (some (4, 0, 0))), (1, .inl (.int a1)), (2, .inl (.int a2)), (3, .inl (.int a3)), (4, .inl (.int a4)), (5, .inr (some (6, 0, 0)))] [.inl (.int r), .inl (.int 0), .inr (some (6, 0, 0))]
      refine J_i2l O.mo dL_instruct_12 ?_
      refine J_last O h6' rfl vp00 (kj := 0) (by decide) dL_instruct_13 ?_
      refine J_goto O.mo (tgt := 29) dL_instruct_14 (by decide) ?_
      refine J_iconst O.mo (v := lwC [1, 2, 3] (.inl r : Int32 ⊕ Nat)) dL_instruct_29 (by show Int32.ofInt 0 = 0; decide) ?_
      exact hE _ _ dL_instruct_30
set_option maxHeartbeats 4000000 in
set_option maxRecDepth 100000 in
theorem c_L_pause {l : Launch} (hfl : l.stackTraces = false) {E : EE} {κ κ' : K} {a1 a2 : Int32} (h0 : PC 10 E 4 0 0) (h6 : liveC E 6 0 0 = true) {rs : Int32 ⊕ Nat} (h : f_X10_pause E κ a1 a2 = some (κ', rs)) (he : ∀ e, rs = .inr e → e ∈ ([1] : List Nat)) : ConW l yL_pause cL_pause 5 (some .int) [(0, 17, 20, 13)] 9 148 [.inr (some (4, 0, 0)), .inl (.int a1), .inl (.int a2), .inr (some (6, 0, 0))] (E, κ) (E, (lwB κ' rs)) (some (.inl (.int (lwC [1] rs)))) := by
  refine ConW_of hfl (by decide) (Nat.le_of_ble_eq_true rfl) rfl ⟨.int, rfl, rfl⟩ ?_
  intro X B g O hKP hmL hxt hE
  change J X B (E, κ) 0 [(0, .inr (some (4, 0, 0))), (1, .inl (.int a1)), (2, .inl (.int a2)), (3, .inr (some (6, 0, 0)))] []
  have hO : Stab E (.inr (some (6, 0, 0))) := ⟨h6, by decide⟩
  have h6' := h6
  refine J_aload_n O.mo dL_pause_0 3 rfl ?_
  refine J_iconst O.mo (v := 0) dL_pause_1 (by decide) ?_
  refine J_aload_n O.mo dL_pause_2 0 rfl ?_
  refine J_iload_n O.mo dL_pause_3 1 rfl ?_
  refine J_iload_n O.mo dL_pause_4 2 rfl ?_
  refine J_callVXH O hKP (as := [.inl (.int a1), .inl (.int a2)]) (rest := [.inl (.int 0), .inr (some (6, 0, 0))]) (c_X10_pause hfl h0 h) rfl (kd0 := 10) (k10_0 h0) (l10_0 h0) (T := TX10) (N := 4) rfl (by decide) mw835 mw836 mw837 mw320 mw838 pd_X10_pause rfl (by decide) rfl (Nat.le_of_ble_eq_true rfl) (sl_p (s10_0 h0) (sl_v (sl_v (sl_p hO sl_0)))) (st_v (st_p hO st_0)) dL_pause_5 hxt (fun s hs => ?_) (fun v hv => ?_)
  · cases rs with
    | inl r => cases hs
    | inr e =>
      have hs' : exN e = s := by injection hs
      have he1 := he e rfl
      clear he
      simp only [List.mem_cons, List.not_mem_nil, or_false] at he1
      subst he1
      subst hs'
      refine ⟨20, ⟨[], ⟨0, 17, 20, 13⟩, [], rfl, fun _ h => absurd h List.not_mem_nil, rfl, by decide, ⟨_, mw825, mw826⟩, rfl⟩, fun q => ?_⟩
      refine J_astoreR O.mo dL_pause_20 (by rw [hmL]; decide) rfl rfl ?_
      refine J_iconst O.mo (v := lwC [1] (.inr 1 : Int32 ⊕ Nat)) dL_pause_22 (by decide) ?_
      exact hE _ _ dL_pause_23
  · cases rs with
    | inr e => cases hv
    | inl r =>
      have hv' : some (.inl (.int r)) = v := by injection hv
      subst hv'
      show J X B (E, κ') 8 [(0, .inr (some (4, 0, 0))), (1, .inl (.int a1)), (2, .inl (.int a2)), (3, .inr (some (6, 0, 0)))] [.inl (.int r), .inl (.int 0), .inr (some (6, 0, 0))]
      refine J_if_eq O.mo (tgt := 15) dL_pause_8 (by decide) (fun hc => ?_) (fun hc => ?_)
      · refine J_lconst O.mo (v := (bI r).toInt64) dL_pause_15 (by rw [show bI r = 0 from if_pos hc]; decide) ?_
        refine J_last O h6' rfl vp00 (kj := 0) (by decide) dL_pause_16 ?_
        refine J_goto O.mo (tgt := 24) dL_pause_17 (by decide) ?_
        refine J_iconst O.mo (v := lwC [1] (.inl r : Int32 ⊕ Nat)) dL_pause_24 (by show Int32.ofInt 0 = 0; decide) ?_
        exact hE _ _ dL_pause_25
      · refine J_lconst O.mo (v := (bI r).toInt64) dL_pause_11 (by rw [show bI r = 1 from if_neg hc]; decide) ?_
        refine J_goto O.mo (tgt := 16) dL_pause_12 (by decide) ?_
        refine J_last O h6' rfl vp00 (kj := 0) (by decide) dL_pause_16 ?_
        refine J_goto O.mo (tgt := 24) dL_pause_17 (by decide) ?_
        refine J_iconst O.mo (v := lwC [1] (.inl r : Int32 ⊕ Nat)) dL_pause_24 (by show Int32.ofInt 0 = 0; decide) ?_
        exact hE _ _ dL_pause_25
set_option maxHeartbeats 4000000 in
set_option maxRecDepth 100000 in
theorem c_L_scale {l : Launch} (hfl : l.stackTraces = false) {E : EE} {κ κ' : K} {a1 a2 : Int32} (h0 : PC 10 E 4 0 0) (h6 : liveC E 6 0 0 = true) {rs : Int32 ⊕ Nat} (h : f_X10_scale E κ a1 a2 = some (κ', rs)) (he : ∀ e, rs = .inr e → e ∈ ([1, 2] : List Nat)) : ConW l yL_scale cL_scale 5 (some .int) [(0, 10, 13, 13), (0, 10, 17, 15)] 9 148 [.inr (some (4, 0, 0)), .inl (.int a1), .inl (.int a2), .inr (some (6, 0, 0))] (E, κ) (E, (lwS κ' rs)) (some (.inl (.int (lwC [1, 2] rs)))) := by
  refine ConW_of hfl (by decide) (Nat.le_of_ble_eq_true rfl) rfl ⟨.int, rfl, rfl⟩ ?_
  intro X B g O hKP hmL hxt hE
  change J X B (E, κ) 0 [(0, .inr (some (4, 0, 0))), (1, .inl (.int a1)), (2, .inl (.int a2)), (3, .inr (some (6, 0, 0)))] []
  have hO : Stab E (.inr (some (6, 0, 0))) := ⟨h6, by decide⟩
  have h6' := h6
  refine J_aload_n O.mo dL_scale_0 3 rfl ?_
  refine J_iconst O.mo (v := 0) dL_scale_1 (by decide) ?_
  refine J_aload_n O.mo dL_scale_2 0 rfl ?_
  refine J_iload_n O.mo dL_scale_3 1 rfl ?_
  refine J_iload_n O.mo dL_scale_4 2 rfl ?_
  refine J_callVXH O hKP (as := [.inl (.int a1), .inl (.int a2)]) (rest := [.inl (.int 0), .inr (some (6, 0, 0))]) (c_X10_scale hfl h0 h) rfl (kd0 := 10) (k10_0 h0) (l10_0 h0) (T := TX10) (N := 4) rfl (by decide) mw839 mw840 mw841 mw320 mw842 pd_X10_scale rfl (by decide) rfl (Nat.le_of_ble_eq_true rfl) (sl_p (s10_0 h0) (sl_v (sl_v (sl_p hO sl_0)))) (st_v (st_p hO st_0)) dL_scale_5 hxt (fun s hs => ?_) (fun v hv => ?_)
  · cases rs with
    | inl r => cases hs
    | inr e =>
      have hs' : exN e = s := by injection hs
      have he1 := he e rfl
      clear he
      simp only [List.mem_cons, List.not_mem_nil, or_false] at he1
      rcases he1 with rfl | rfl
      · subst hs'
        refine ⟨13, ⟨[], ⟨0, 10, 13, 13⟩, [⟨0, 10, 17, 15⟩], rfl, fun _ h => absurd h List.not_mem_nil, rfl, by decide, ⟨_, mw825, mw826⟩, rfl⟩, fun q => ?_⟩
        refine J_astoreR O.mo dL_scale_13 (by rw [hmL]; decide) rfl rfl ?_
        refine J_iconst O.mo (v := lwC [1, 2] (.inr 1 : Int32 ⊕ Nat)) dL_scale_15 (by decide) ?_
        exact hE _ _ dL_scale_16
      · subst hs'
        refine ⟨17, ⟨[⟨0, 10, 13, 13⟩], ⟨0, 10, 17, 15⟩, [], rfl, List.forall_mem_cons.mpr ⟨⟨by decide, _, mw825, List.mem_of_getElem? (i := 0) rfl⟩, fun _ h => absurd h List.not_mem_nil⟩, rfl, by decide, ⟨_, mw827, mw828⟩, rfl⟩, fun q => ?_⟩
        refine J_astoreR O.mo dL_scale_17 (by rw [hmL]; decide) rfl rfl ?_
        refine J_iconst O.mo (v := lwC [1, 2] (.inr 2 : Int32 ⊕ Nat)) dL_scale_19 (by decide) ?_
        exact hE _ _ dL_scale_20
  · cases rs with
    | inr e => cases hv
    | inl r =>
      have hv' : some (.inl (.int r)) = v := by injection hv
      subst hv'
      show J X B (E, κ') 8 [(0, .inr (some (4, 0, 0))), (1, .inl (.int a1)), (2, .inl (.int a2)), (3, .inr (some (6, 0, 0)))] [.inl (.int r), .inl (.int 0), .inr (some (6, 0, 0))]
      refine J_i2l O.mo dL_scale_8 ?_
      refine J_last O h6' rfl vp00 (kj := 0) (by decide) dL_scale_9 ?_
      refine J_goto O.mo (tgt := 21) dL_scale_10 (by decide) ?_
      refine J_iconst O.mo (v := lwC [1, 2] (.inl r : Int32 ⊕ Nat)) dL_scale_21 (by show Int32.ofInt 0 = 0; decide) ?_
      exact hE _ _ dL_scale_22
set_option maxHeartbeats 4000000 in
set_option maxRecDepth 100000 in
theorem c_L_input {l : Launch} (hfl : l.stackTraces = false) {E : EE} {κ κ' : K} {a1 a2 : Int32} (h0 : PC 10 E 4 0 0) (h6 : liveC E 6 0 0 = true) {rs : Int32 ⊕ Nat} (h : f_X10_input E κ a1 a2 = some (κ', rs)) (he : ∀ e, rs = .inr e → e ∈ ([1, 2, 3] : List Nat)) : ConW l yL_input cL_input 5 (some .int) [(0, 10, 13, 13), (0, 10, 17, 15), (0, 10, 21, 17)] 9 166 [.inr (some (4, 0, 0)), .inl (.int a1), .inl (.int a2), .inr (some (6, 0, 0))] (E, κ) (E, (lwS κ' rs)) (some (.inl (.int (lwC [1, 2, 3] rs)))) := by
  refine ConW_of hfl (by decide) (Nat.le_of_ble_eq_true rfl) rfl ⟨.int, rfl, rfl⟩ ?_
  intro X B g O hKP hmL hxt hE
  change J X B (E, κ) 0 [(0, .inr (some (4, 0, 0))), (1, .inl (.int a1)), (2, .inl (.int a2)), (3, .inr (some (6, 0, 0)))] []
  have hO : Stab E (.inr (some (6, 0, 0))) := ⟨h6, by decide⟩
  have h6' := h6
  refine J_aload_n O.mo dL_input_0 3 rfl ?_
  refine J_iconst O.mo (v := 0) dL_input_1 (by decide) ?_
  refine J_aload_n O.mo dL_input_2 0 rfl ?_
  refine J_iload_n O.mo dL_input_3 1 rfl ?_
  refine J_iload_n O.mo dL_input_4 2 rfl ?_
  refine J_callVXH O hKP (as := [.inl (.int a1), .inl (.int a2)]) (rest := [.inl (.int 0), .inr (some (6, 0, 0))]) (c_X10_input hfl h0 h) rfl (kd0 := 10) (k10_0 h0) (l10_0 h0) (T := TX10) (N := 4) rfl (by decide) mw843 mw844 mw845 mw320 mw846 pd_X10_input rfl (by decide) rfl (Nat.le_of_ble_eq_true rfl) (sl_p (s10_0 h0) (sl_v (sl_v (sl_p hO sl_0)))) (st_v (st_p hO st_0)) dL_input_5 hxt (fun s hs => ?_) (fun v hv => ?_)
  · cases rs with
    | inl r => cases hs
    | inr e =>
      have hs' : exN e = s := by injection hs
      have he1 := he e rfl
      clear he
      simp only [List.mem_cons, List.not_mem_nil, or_false] at he1
      rcases he1 with rfl | rfl | rfl
      · subst hs'
        refine ⟨13, ⟨[], ⟨0, 10, 13, 13⟩, [⟨0, 10, 17, 15⟩, ⟨0, 10, 21, 17⟩], rfl, fun _ h => absurd h List.not_mem_nil, rfl, by decide, ⟨_, mw825, mw826⟩, rfl⟩, fun q => ?_⟩
        refine J_astoreR O.mo dL_input_13 (by rw [hmL]; decide) rfl rfl ?_
        refine J_iconst O.mo (v := lwC [1, 2, 3] (.inr 1 : Int32 ⊕ Nat)) dL_input_15 (by decide) ?_
        exact hE _ _ dL_input_16
      · subst hs'
        refine ⟨17, ⟨[⟨0, 10, 13, 13⟩], ⟨0, 10, 17, 15⟩, [⟨0, 10, 21, 17⟩], rfl, List.forall_mem_cons.mpr ⟨⟨by decide, _, mw825, List.mem_of_getElem? (i := 0) rfl⟩, fun _ h => absurd h List.not_mem_nil⟩, rfl, by decide, ⟨_, mw827, mw828⟩, rfl⟩, fun q => ?_⟩
        refine J_astoreR O.mo dL_input_17 (by rw [hmL]; decide) rfl rfl ?_
        refine J_iconst O.mo (v := lwC [1, 2, 3] (.inr 2 : Int32 ⊕ Nat)) dL_input_19 (by decide) ?_
        exact hE _ _ dL_input_20
      · subst hs'
        refine ⟨21, ⟨[⟨0, 10, 13, 13⟩, ⟨0, 10, 17, 15⟩], ⟨0, 10, 21, 17⟩, [], rfl, List.forall_mem_cons.mpr ⟨⟨by decide, _, mw825, List.mem_of_getElem? (i := 1) rfl⟩, List.forall_mem_cons.mpr ⟨⟨by decide, _, mw827, List.mem_of_getElem? (i := 2) rfl⟩, fun _ h => absurd h List.not_mem_nil⟩⟩, rfl, by decide, ⟨_, mw829, mw830⟩, rfl⟩, fun q => ?_⟩
        refine J_astoreR O.mo dL_input_21 (by rw [hmL]; decide) rfl rfl ?_
        refine J_iconst O.mo (v := lwC [1, 2, 3] (.inr 3 : Int32 ⊕ Nat)) dL_input_23 (by decide) ?_
        exact hE _ _ dL_input_24
  · cases rs with
    | inr e => cases hv
    | inl r =>
      have hv' : some (.inl (.int r)) = v := by injection hv
      subst hv'
      show J X B (E, κ') 8 [(0, .inr (some (4, 0, 0))), (1, .inl (.int a1)), (2, .inl (.int a2)), (3, .inr (some (6, 0, 0)))] [.inl (.int r), .inl (.int 0), .inr (some (6, 0, 0))]
      refine J_i2l O.mo dL_input_8 ?_
      refine J_last O h6' rfl vp00 (kj := 0) (by decide) dL_input_9 ?_
      refine J_goto O.mo (tgt := 25) dL_input_10 (by decide) ?_
      refine J_iconst O.mo (v := lwC [1, 2, 3] (.inl r : Int32 ⊕ Nat)) dL_input_25 (by show Int32.ofInt 0 = 0; decide) ?_
      exact hE _ _ dL_input_26
set_option maxHeartbeats 4000000 in
set_option maxRecDepth 100000 in
theorem c_L_send {l : Launch} (hfl : l.stackTraces = false) {E : EE} {κ κ' : K} {a1 : Int32} (h0 : PC 10 E 4 0 0) (h6 : liveC E 6 0 0 = true) {rs : Int32 ⊕ Nat} (h : f_X10_send E κ a1 = some (κ', rs)) (he : ∀ e, rs = .inr e → e ∈ ([1, 3] : List Nat)) : ConW l yL_send cL_send 4 (some .int) [(0, 16, 19, 13), (0, 16, 22, 17)] 9 147 [.inr (some (4, 0, 0)), .inl (.int a1), .inr (some (6, 0, 0))] (E, κ) (E, (lwB κ' rs)) (some (.inl (.int (lwC [1, 3] rs)))) := by
  refine ConW_of hfl (by decide) (Nat.le_of_ble_eq_true rfl) rfl ⟨.int, rfl, rfl⟩ ?_
  intro X B g O hKP hmL hxt hE
  change J X B (E, κ) 0 [(0, .inr (some (4, 0, 0))), (1, .inl (.int a1)), (2, .inr (some (6, 0, 0)))] []
  have hO : Stab E (.inr (some (6, 0, 0))) := ⟨h6, by decide⟩
  have h6' := h6
  refine J_aload_n O.mo dL_send_0 2 rfl ?_
  refine J_iconst O.mo (v := 0) dL_send_1 (by decide) ?_
  refine J_aload_n O.mo dL_send_2 0 rfl ?_
  refine J_iload_n O.mo dL_send_3 1 rfl ?_
  refine J_callVXH O hKP (as := [.inl (.int a1)]) (rest := [.inl (.int 0), .inr (some (6, 0, 0))]) (c_X10_send hfl h0 h) rfl (kd0 := 10) (k10_0 h0) (l10_0 h0) (T := TX10) (N := 4) rfl (by decide) mw847 mw848 mw849 mw320 mw850 pd_X10_send rfl (by decide) rfl (Nat.le_of_ble_eq_true rfl) (sl_p (s10_0 h0) (sl_v (sl_p hO sl_0))) (st_v (st_p hO st_0)) dL_send_4 hxt (fun s hs => ?_) (fun v hv => ?_)
  · cases rs with
    | inl r => cases hs
    | inr e =>
      have hs' : exN e = s := by injection hs
      have he1 := he e rfl
      clear he
      simp only [List.mem_cons, List.not_mem_nil, or_false] at he1
      rcases he1 with rfl | rfl
      · subst hs'
        refine ⟨19, ⟨[], ⟨0, 16, 19, 13⟩, [⟨0, 16, 22, 17⟩], rfl, fun _ h => absurd h List.not_mem_nil, rfl, by decide, ⟨_, mw825, mw826⟩, rfl⟩, fun q => ?_⟩
        refine J_astore_nR O.mo dL_send_19 (by rw [hmL]; decide) rfl rfl ?_
        refine J_iconst O.mo (v := lwC [1, 3] (.inr 1 : Int32 ⊕ Nat)) dL_send_20 (by decide) ?_
        exact hE _ _ dL_send_21
      · subst hs'
        refine ⟨22, ⟨[⟨0, 16, 19, 13⟩], ⟨0, 16, 22, 17⟩, [], rfl, List.forall_mem_cons.mpr ⟨⟨by decide, _, mw825, List.mem_of_getElem? (i := 1) rfl⟩, fun _ h => absurd h List.not_mem_nil⟩, rfl, by decide, ⟨_, mw829, mw830⟩, rfl⟩, fun q => ?_⟩
        refine J_astore_nR O.mo dL_send_22 (by rw [hmL]; decide) rfl rfl ?_
        refine J_iconst O.mo (v := lwC [1, 3] (.inr 3 : Int32 ⊕ Nat)) dL_send_23 (by decide) ?_
        exact hE _ _ dL_send_24
  · cases rs with
    | inr e => cases hv
    | inl r =>
      have hv' : some (.inl (.int r)) = v := by injection hv
      subst hv'
      show J X B (E, κ') 7 [(0, .inr (some (4, 0, 0))), (1, .inl (.int a1)), (2, .inr (some (6, 0, 0)))] [.inl (.int r), .inl (.int 0), .inr (some (6, 0, 0))]
      refine J_if_eq O.mo (tgt := 14) dL_send_7 (by decide) (fun hc => ?_) (fun hc => ?_)
      · refine J_lconst O.mo (v := (bI r).toInt64) dL_send_14 (by rw [show bI r = 0 from if_pos hc]; decide) ?_
        refine J_last O h6' rfl vp00 (kj := 0) (by decide) dL_send_15 ?_
        refine J_goto O.mo (tgt := 25) dL_send_16 (by decide) ?_
        refine J_iconst O.mo (v := lwC [1, 3] (.inl r : Int32 ⊕ Nat)) dL_send_25 (by show Int32.ofInt 0 = 0; decide) ?_
        exact hE _ _ dL_send_26
      · refine J_lconst O.mo (v := (bI r).toInt64) dL_send_10 (by rw [show bI r = 1 from if_neg hc]; decide) ?_
        refine J_goto O.mo (tgt := 15) dL_send_11 (by decide) ?_
        refine J_last O h6' rfl vp00 (kj := 0) (by decide) dL_send_15 ?_
        refine J_goto O.mo (tgt := 25) dL_send_16 (by decide) ?_
        refine J_iconst O.mo (v := lwC [1, 3] (.inl r : Int32 ⊕ Nat)) dL_send_25 (by show Int32.ofInt 0 = 0; decide) ?_
        exact hE _ _ dL_send_26
set_option maxHeartbeats 4000000 in
set_option maxRecDepth 100000 in
theorem c_L_tick {l : Launch} (hfl : l.stackTraces = false) {E : EE} {κ κ' : K} {a1 : Int32} (h0 : PC 10 E 4 0 0) (h6 : liveC E 6 0 0 = true) {rs : Int32 ⊕ Nat} (h : f_X10_tick E κ a1 = some (κ', rs)) (he : ∀ e, rs = .inr e → e ∈ ([2, 3] : List Nat)) : ConW l yL_tick cL_tick 4 (some .int) [(0, 9, 12, 15), (0, 9, 15, 17)] 10 284 [.inr (some (4, 0, 0)), .inl (.int a1), .inr (some (6, 0, 0))] (E, κ) (E, (lwS κ' rs)) (some (.inl (.int (lwC [2, 3] rs)))) := by
  refine ConW_of hfl (by decide) (Nat.le_of_ble_eq_true rfl) rfl ⟨.int, rfl, rfl⟩ ?_
  intro X B g O hKP hmL hxt hE
  change J X B (E, κ) 0 [(0, .inr (some (4, 0, 0))), (1, .inl (.int a1)), (2, .inr (some (6, 0, 0)))] []
  have hO : Stab E (.inr (some (6, 0, 0))) := ⟨h6, by decide⟩
  have h6' := h6
  refine J_aload_n O.mo dL_tick_0 2 rfl ?_
  refine J_iconst O.mo (v := 0) dL_tick_1 (by decide) ?_
  refine J_aload_n O.mo dL_tick_2 0 rfl ?_
  refine J_iload_n O.mo dL_tick_3 1 rfl ?_
  refine J_callVXH O hKP (as := [.inl (.int a1)]) (rest := [.inl (.int 0), .inr (some (6, 0, 0))]) (c_X10_tick hfl h0 h) rfl (kd0 := 10) (k10_0 h0) (l10_0 h0) (T := TX10) (N := 4) rfl (by decide) mw851 mw852 mw853 mw320 mw854 pd_X10_tick rfl (by decide) rfl (Nat.le_of_ble_eq_true rfl) (sl_p (s10_0 h0) (sl_v (sl_p hO sl_0))) (st_v (st_p hO st_0)) dL_tick_4 hxt (fun s hs => ?_) (fun v hv => ?_)
  · cases rs with
    | inl r => cases hs
    | inr e =>
      have hs' : exN e = s := by injection hs
      have he1 := he e rfl
      clear he
      simp only [List.mem_cons, List.not_mem_nil, or_false] at he1
      rcases he1 with rfl | rfl
      · subst hs'
        refine ⟨12, ⟨[], ⟨0, 9, 12, 15⟩, [⟨0, 9, 15, 17⟩], rfl, fun _ h => absurd h List.not_mem_nil, rfl, by decide, ⟨_, mw827, mw828⟩, rfl⟩, fun q => ?_⟩
        refine J_astore_nR O.mo dL_tick_12 (by rw [hmL]; decide) rfl rfl ?_
        refine J_iconst O.mo (v := lwC [2, 3] (.inr 2 : Int32 ⊕ Nat)) dL_tick_13 (by decide) ?_
        exact hE _ _ dL_tick_14
      · subst hs'
        refine ⟨15, ⟨[⟨0, 9, 12, 15⟩], ⟨0, 9, 15, 17⟩, [], rfl, List.forall_mem_cons.mpr ⟨⟨by decide, _, mw827, List.mem_of_getElem? (i := 2) rfl⟩, fun _ h => absurd h List.not_mem_nil⟩, rfl, by decide, ⟨_, mw829, mw830⟩, rfl⟩, fun q => ?_⟩
        refine J_astore_nR O.mo dL_tick_15 (by rw [hmL]; decide) rfl rfl ?_
        refine J_iconst O.mo (v := lwC [2, 3] (.inr 3 : Int32 ⊕ Nat)) dL_tick_16 (by decide) ?_
        exact hE _ _ dL_tick_17
  · cases rs with
    | inr e => cases hv
    | inl r =>
      have hv' : some (.inl (.int r)) = v := by injection hv
      subst hv'
      show J X B (E, κ') 7 [(0, .inr (some (4, 0, 0))), (1, .inl (.int a1)), (2, .inr (some (6, 0, 0)))] [.inl (.int r), .inl (.int 0), .inr (some (6, 0, 0))]
      refine J_i2l O.mo dL_tick_7 ?_
      refine J_last O h6' rfl vp00 (kj := 0) (by decide) dL_tick_8 ?_
      refine J_goto O.mo (tgt := 18) dL_tick_9 (by decide) ?_
      refine J_iconst O.mo (v := lwC [2, 3] (.inl r : Int32 ⊕ Nat)) dL_tick_18 (by show Int32.ofInt 0 = 0; decide) ?_
      exact hE _ _ dL_tick_19
set_option maxHeartbeats 4000000 in
set_option maxRecDepth 100000 in
theorem c_L_share {l : Launch} (hfl : l.stackTraces = false) {E : EE} {κ κ' : K} {a1 : Int32} (h0 : PC 10 E 4 0 0) (h6 : liveC E 6 0 0 = true) {rs : Int32 ⊕ Nat} (h : f_X10_share E κ a1 = some (κ', rs)) (he : ∀ e, rs = .inr e → e ∈ ([1] : List Nat)) : ConW l yL_share cL_share 4 (some .int) [(0, 9, 12, 13)] 9 149 [.inr (some (4, 0, 0)), .inl (.int a1), .inr (some (6, 0, 0))] (E, κ) (E, (lwS κ' rs)) (some (.inl (.int (lwC [1] rs)))) := by
  refine ConW_of hfl (by decide) (Nat.le_of_ble_eq_true rfl) rfl ⟨.int, rfl, rfl⟩ ?_
  intro X B g O hKP hmL hxt hE
  change J X B (E, κ) 0 [(0, .inr (some (4, 0, 0))), (1, .inl (.int a1)), (2, .inr (some (6, 0, 0)))] []
  have hO : Stab E (.inr (some (6, 0, 0))) := ⟨h6, by decide⟩
  have h6' := h6
  refine J_aload_n O.mo dL_share_0 2 rfl ?_
  refine J_iconst O.mo (v := 0) dL_share_1 (by decide) ?_
  refine J_aload_n O.mo dL_share_2 0 rfl ?_
  refine J_iload_n O.mo dL_share_3 1 rfl ?_
  refine J_callVXH O hKP (as := [.inl (.int a1)]) (rest := [.inl (.int 0), .inr (some (6, 0, 0))]) (c_X10_share hfl h0 h) rfl (kd0 := 10) (k10_0 h0) (l10_0 h0) (T := TX10) (N := 4) rfl (by decide) mw855 mw856 mw857 mw320 mw858 pd_X10_share rfl (by decide) rfl (Nat.le_of_ble_eq_true rfl) (sl_p (s10_0 h0) (sl_v (sl_p hO sl_0))) (st_v (st_p hO st_0)) dL_share_4 hxt (fun s hs => ?_) (fun v hv => ?_)
  · cases rs with
    | inl r => cases hs
    | inr e =>
      have hs' : exN e = s := by injection hs
      have he1 := he e rfl
      clear he
      simp only [List.mem_cons, List.not_mem_nil, or_false] at he1
      subst he1
      subst hs'
      refine ⟨12, ⟨[], ⟨0, 9, 12, 13⟩, [], rfl, fun _ h => absurd h List.not_mem_nil, rfl, by decide, ⟨_, mw825, mw826⟩, rfl⟩, fun q => ?_⟩
      refine J_astore_nR O.mo dL_share_12 (by rw [hmL]; decide) rfl rfl ?_
      refine J_iconst O.mo (v := lwC [1] (.inr 1 : Int32 ⊕ Nat)) dL_share_13 (by decide) ?_
      exact hE _ _ dL_share_14
  · cases rs with
    | inr e => cases hv
    | inl r =>
      have hv' : some (.inl (.int r)) = v := by injection hv
      subst hv'
      show J X B (E, κ') 7 [(0, .inr (some (4, 0, 0))), (1, .inl (.int a1)), (2, .inr (some (6, 0, 0)))] [.inl (.int r), .inl (.int 0), .inr (some (6, 0, 0))]
      refine J_i2l O.mo dL_share_7 ?_
      refine J_last O h6' rfl vp00 (kj := 0) (by decide) dL_share_8 ?_
      refine J_goto O.mo (tgt := 15) dL_share_9 (by decide) ?_
      refine J_iconst O.mo (v := lwC [1] (.inl r : Int32 ⊕ Nat)) dL_share_15 (by show Int32.ofInt 0 = 0; decide) ?_
      exact hE _ _ dL_share_16
set_option maxHeartbeats 4000000 in
set_option maxRecDepth 100000 in
theorem c_L_move {l : Launch} (hfl : l.stackTraces = false) {E : EE} {κ κ' : K} {a1 : Int32} (h0 : PC 10 E 4 0 0) (h6 : liveC E 6 0 0 = true) {rs : Int32 ⊕ Nat} (h : f_X10_move E κ a1 = some (κ', rs)) (he : ∀ e, rs = .inr e → e ∈ ([1, 3] : List Nat)) : ConW l yL_move cL_move 4 (some .int) [(0, 9, 12, 13), (0, 9, 15, 17)] 9 146 [.inr (some (4, 0, 0)), .inl (.int a1), .inr (some (6, 0, 0))] (E, κ) (E, (lwS κ' rs)) (some (.inl (.int (lwC [1, 3] rs)))) := by
  refine ConW_of hfl (by decide) (Nat.le_of_ble_eq_true rfl) rfl ⟨.int, rfl, rfl⟩ ?_
  intro X B g O hKP hmL hxt hE
  change J X B (E, κ) 0 [(0, .inr (some (4, 0, 0))), (1, .inl (.int a1)), (2, .inr (some (6, 0, 0)))] []
  have hO : Stab E (.inr (some (6, 0, 0))) := ⟨h6, by decide⟩
  have h6' := h6
  refine J_aload_n O.mo dL_move_0 2 rfl ?_
  refine J_iconst O.mo (v := 0) dL_move_1 (by decide) ?_
  refine J_aload_n O.mo dL_move_2 0 rfl ?_
  refine J_iload_n O.mo dL_move_3 1 rfl ?_
  refine J_callVXH O hKP (as := [.inl (.int a1)]) (rest := [.inl (.int 0), .inr (some (6, 0, 0))]) (c_X10_move hfl h0 h) rfl (kd0 := 10) (k10_0 h0) (l10_0 h0) (T := TX10) (N := 4) rfl (by decide) mw859 mw860 mw861 mw320 mw862 pd_X10_move rfl (by decide) rfl (Nat.le_of_ble_eq_true rfl) (sl_p (s10_0 h0) (sl_v (sl_p hO sl_0))) (st_v (st_p hO st_0)) dL_move_4 hxt (fun s hs => ?_) (fun v hv => ?_)
  · cases rs with
    | inl r => cases hs
    | inr e =>
      have hs' : exN e = s := by injection hs
      have he1 := he e rfl
      clear he
      simp only [List.mem_cons, List.not_mem_nil, or_false] at he1
      rcases he1 with rfl | rfl
      · subst hs'
        refine ⟨12, ⟨[], ⟨0, 9, 12, 13⟩, [⟨0, 9, 15, 17⟩], rfl, fun _ h => absurd h List.not_mem_nil, rfl, by decide, ⟨_, mw825, mw826⟩, rfl⟩, fun q => ?_⟩
        refine J_astore_nR O.mo dL_move_12 (by rw [hmL]; decide) rfl rfl ?_
        refine J_iconst O.mo (v := lwC [1, 3] (.inr 1 : Int32 ⊕ Nat)) dL_move_13 (by decide) ?_
        exact hE _ _ dL_move_14
      · subst hs'
        refine ⟨15, ⟨[⟨0, 9, 12, 13⟩], ⟨0, 9, 15, 17⟩, [], rfl, List.forall_mem_cons.mpr ⟨⟨by decide, _, mw825, List.mem_of_getElem? (i := 1) rfl⟩, fun _ h => absurd h List.not_mem_nil⟩, rfl, by decide, ⟨_, mw829, mw830⟩, rfl⟩, fun q => ?_⟩
        refine J_astore_nR O.mo dL_move_15 (by rw [hmL]; decide) rfl rfl ?_
        refine J_iconst O.mo (v := lwC [1, 3] (.inr 3 : Int32 ⊕ Nat)) dL_move_16 (by decide) ?_
        exact hE _ _ dL_move_17
  · cases rs with
    | inr e => cases hv
    | inl r =>
      have hv' : some (.inl (.int r)) = v := by injection hv
      subst hv'
      show J X B (E, κ') 7 [(0, .inr (some (4, 0, 0))), (1, .inl (.int a1)), (2, .inr (some (6, 0, 0)))] [.inl (.int r), .inl (.int 0), .inr (some (6, 0, 0))]
      refine J_i2l O.mo dL_move_7 ?_
      refine J_last O h6' rfl vp00 (kj := 0) (by decide) dL_move_8 ?_
      refine J_goto O.mo (tgt := 18) dL_move_9 (by decide) ?_
      refine J_iconst O.mo (v := lwC [1, 3] (.inl r : Int32 ⊕ Nat)) dL_move_18 (by show Int32.ofInt 0 = 0; decide) ?_
      exact hE _ _ dL_move_19
set_option maxHeartbeats 4000000 in
set_option maxRecDepth 100000 in
theorem c_L_round {l : Launch} (hfl : l.stackTraces = false) {E : EE} {κ κ' : K} {a1 a2 : Int32} (h0 : PC 10 E 4 0 0) (h6 : liveC E 6 0 0 = true) {rs : Int32 ⊕ Nat} (h : f_X10_round E κ a1 a2 = some (κ', rs)) (he : ∀ e, rs = .inr e → e ∈ ([1, 2, 3] : List Nat)) : ConW l yL_round cL_round 5 (some .int) [(0, 10, 13, 13), (0, 10, 17, 15), (0, 10, 21, 17)] 9 147 [.inr (some (4, 0, 0)), .inl (.int a1), .inl (.int a2), .inr (some (6, 0, 0))] (E, κ) (E, (lwS κ' rs)) (some (.inl (.int (lwC [1, 2, 3] rs)))) := by
  refine ConW_of hfl (by decide) (Nat.le_of_ble_eq_true rfl) rfl ⟨.int, rfl, rfl⟩ ?_
  intro X B g O hKP hmL hxt hE
  change J X B (E, κ) 0 [(0, .inr (some (4, 0, 0))), (1, .inl (.int a1)), (2, .inl (.int a2)), (3, .inr (some (6, 0, 0)))] []
  have hO : Stab E (.inr (some (6, 0, 0))) := ⟨h6, by decide⟩
  have h6' := h6
  refine J_aload_n O.mo dL_round_0 3 rfl ?_
  refine J_iconst O.mo (v := 0) dL_round_1 (by decide) ?_
  refine J_aload_n O.mo dL_round_2 0 rfl ?_
  refine J_iload_n O.mo dL_round_3 1 rfl ?_
  refine J_iload_n O.mo dL_round_4 2 rfl ?_
  refine J_callVXH O hKP (as := [.inl (.int a1), .inl (.int a2)]) (rest := [.inl (.int 0), .inr (some (6, 0, 0))]) (c_X10_round hfl h0 h) rfl (kd0 := 10) (k10_0 h0) (l10_0 h0) (T := TX10) (N := 4) rfl (by decide) mw863 mw864 mw865 mw320 mw866 pd_X10_round rfl (by decide) rfl (Nat.le_of_ble_eq_true rfl) (sl_p (s10_0 h0) (sl_v (sl_v (sl_p hO sl_0)))) (st_v (st_p hO st_0)) dL_round_5 hxt (fun s hs => ?_) (fun v hv => ?_)
  · cases rs with
    | inl r => cases hs
    | inr e =>
      have hs' : exN e = s := by injection hs
      have he1 := he e rfl
      clear he
      simp only [List.mem_cons, List.not_mem_nil, or_false] at he1
      rcases he1 with rfl | rfl | rfl
      · subst hs'
        refine ⟨13, ⟨[], ⟨0, 10, 13, 13⟩, [⟨0, 10, 17, 15⟩, ⟨0, 10, 21, 17⟩], rfl, fun _ h => absurd h List.not_mem_nil, rfl, by decide, ⟨_, mw825, mw826⟩, rfl⟩, fun q => ?_⟩
        refine J_astoreR O.mo dL_round_13 (by rw [hmL]; decide) rfl rfl ?_
        refine J_iconst O.mo (v := lwC [1, 2, 3] (.inr 1 : Int32 ⊕ Nat)) dL_round_15 (by decide) ?_
        exact hE _ _ dL_round_16
      · subst hs'
        refine ⟨17, ⟨[⟨0, 10, 13, 13⟩], ⟨0, 10, 17, 15⟩, [⟨0, 10, 21, 17⟩], rfl, List.forall_mem_cons.mpr ⟨⟨by decide, _, mw825, List.mem_of_getElem? (i := 0) rfl⟩, fun _ h => absurd h List.not_mem_nil⟩, rfl, by decide, ⟨_, mw827, mw828⟩, rfl⟩, fun q => ?_⟩
        refine J_astoreR O.mo dL_round_17 (by rw [hmL]; decide) rfl rfl ?_
        refine J_iconst O.mo (v := lwC [1, 2, 3] (.inr 2 : Int32 ⊕ Nat)) dL_round_19 (by decide) ?_
        exact hE _ _ dL_round_20
      · subst hs'
        refine ⟨21, ⟨[⟨0, 10, 13, 13⟩, ⟨0, 10, 17, 15⟩], ⟨0, 10, 21, 17⟩, [], rfl, List.forall_mem_cons.mpr ⟨⟨by decide, _, mw825, List.mem_of_getElem? (i := 1) rfl⟩, List.forall_mem_cons.mpr ⟨⟨by decide, _, mw827, List.mem_of_getElem? (i := 2) rfl⟩, fun _ h => absurd h List.not_mem_nil⟩⟩, rfl, by decide, ⟨_, mw829, mw830⟩, rfl⟩, fun q => ?_⟩
        refine J_astoreR O.mo dL_round_21 (by rw [hmL]; decide) rfl rfl ?_
        refine J_iconst O.mo (v := lwC [1, 2, 3] (.inr 3 : Int32 ⊕ Nat)) dL_round_23 (by decide) ?_
        exact hE _ _ dL_round_24
  · cases rs with
    | inr e => cases hv
    | inl r =>
      have hv' : some (.inl (.int r)) = v := by injection hv
      subst hv'
      show J X B (E, κ') 8 [(0, .inr (some (4, 0, 0))), (1, .inl (.int a1)), (2, .inl (.int a2)), (3, .inr (some (6, 0, 0)))] [.inl (.int r), .inl (.int 0), .inr (some (6, 0, 0))]
      refine J_i2l O.mo dL_round_8 ?_
      refine J_last O h6' rfl vp00 (kj := 0) (by decide) dL_round_9 ?_
      refine J_goto O.mo (tgt := 25) dL_round_10 (by decide) ?_
      refine J_iconst O.mo (v := lwC [1, 2, 3] (.inl r : Int32 ⊕ Nat)) dL_round_25 (by show Int32.ofInt 0 = 0; decide) ?_
      exact hE _ _ dL_round_26
set_option maxHeartbeats 4000000 in
set_option maxRecDepth 100000 in
theorem c_L_land {l : Launch} (hfl : l.stackTraces = false) {E : EE} {κ κ' : K} {a1 a2 : Int32} (h0 : PC 10 E 4 0 0) (h6 : liveC E 6 0 0 = true) {rs : Int32 ⊕ Nat} (h : f_X10_land E κ a1 a2 = some (κ', rs)) (he : ∀ e, rs = .inr e → e ∈ ([1, 3] : List Nat)) : ConW l yL_land cL_land 5 (some .int) [(0, 10, 13, 13), (0, 10, 17, 17)] 9 148 [.inr (some (4, 0, 0)), .inl (.int a1), .inl (.int a2), .inr (some (6, 0, 0))] (E, κ) (E, (lwS κ' rs)) (some (.inl (.int (lwC [1, 3] rs)))) := by
  refine ConW_of hfl (by decide) (Nat.le_of_ble_eq_true rfl) rfl ⟨.int, rfl, rfl⟩ ?_
  intro X B g O hKP hmL hxt hE
  change J X B (E, κ) 0 [(0, .inr (some (4, 0, 0))), (1, .inl (.int a1)), (2, .inl (.int a2)), (3, .inr (some (6, 0, 0)))] []
  have hO : Stab E (.inr (some (6, 0, 0))) := ⟨h6, by decide⟩
  have h6' := h6
  refine J_aload_n O.mo dL_land_0 3 rfl ?_
  refine J_iconst O.mo (v := 0) dL_land_1 (by decide) ?_
  refine J_aload_n O.mo dL_land_2 0 rfl ?_
  refine J_iload_n O.mo dL_land_3 1 rfl ?_
  refine J_iload_n O.mo dL_land_4 2 rfl ?_
  refine J_callVXH O hKP (as := [.inl (.int a1), .inl (.int a2)]) (rest := [.inl (.int 0), .inr (some (6, 0, 0))]) (c_X10_land hfl h0 h) rfl (kd0 := 10) (k10_0 h0) (l10_0 h0) (T := TX10) (N := 4) rfl (by decide) mw867 mw868 mw869 mw320 mw870 pd_X10_land rfl (by decide) rfl (Nat.le_of_ble_eq_true rfl) (sl_p (s10_0 h0) (sl_v (sl_v (sl_p hO sl_0)))) (st_v (st_p hO st_0)) dL_land_5 hxt (fun s hs => ?_) (fun v hv => ?_)
  · cases rs with
    | inl r => cases hs
    | inr e =>
      have hs' : exN e = s := by injection hs
      have he1 := he e rfl
      clear he
      simp only [List.mem_cons, List.not_mem_nil, or_false] at he1
      rcases he1 with rfl | rfl
      · subst hs'
        refine ⟨13, ⟨[], ⟨0, 10, 13, 13⟩, [⟨0, 10, 17, 17⟩], rfl, fun _ h => absurd h List.not_mem_nil, rfl, by decide, ⟨_, mw825, mw826⟩, rfl⟩, fun q => ?_⟩
        refine J_astoreR O.mo dL_land_13 (by rw [hmL]; decide) rfl rfl ?_
        refine J_iconst O.mo (v := lwC [1, 3] (.inr 1 : Int32 ⊕ Nat)) dL_land_15 (by decide) ?_
        exact hE _ _ dL_land_16
      · subst hs'
        refine ⟨17, ⟨[⟨0, 10, 13, 13⟩], ⟨0, 10, 17, 17⟩, [], rfl, List.forall_mem_cons.mpr ⟨⟨by decide, _, mw825, List.mem_of_getElem? (i := 1) rfl⟩, fun _ h => absurd h List.not_mem_nil⟩, rfl, by decide, ⟨_, mw829, mw830⟩, rfl⟩, fun q => ?_⟩
        refine J_astoreR O.mo dL_land_17 (by rw [hmL]; decide) rfl rfl ?_
        refine J_iconst O.mo (v := lwC [1, 3] (.inr 3 : Int32 ⊕ Nat)) dL_land_19 (by decide) ?_
        exact hE _ _ dL_land_20
  · cases rs with
    | inr e => cases hv
    | inl r =>
      have hv' : some (.inl (.int r)) = v := by injection hv
      subst hv'
      show J X B (E, κ') 8 [(0, .inr (some (4, 0, 0))), (1, .inl (.int a1)), (2, .inl (.int a2)), (3, .inr (some (6, 0, 0)))] [.inl (.int r), .inl (.int 0), .inr (some (6, 0, 0))]
      refine J_i2l O.mo dL_land_8 ?_
      refine J_last O h6' rfl vp00 (kj := 0) (by decide) dL_land_9 ?_
      refine J_goto O.mo (tgt := 21) dL_land_10 (by decide) ?_
      refine J_iconst O.mo (v := lwC [1, 3] (.inl r : Int32 ⊕ Nat)) dL_land_21 (by show Int32.ofInt 0 = 0; decide) ?_
      exact hE _ _ dL_land_22
set_option maxHeartbeats 4000000 in
set_option maxRecDepth 100000 in
theorem c_L_snapshot {l : Launch} (hfl : l.stackTraces = false) {E E' : EE} {κ κ' : K} {a1 : Int32} (h0 : PC 10 E 4 0 0) (h6 : liveC E 6 0 0 = true) (h6' : liveC E' 6 0 0 = true) (hH : E.2.2.2.1 = 1) (hRN : rawN E) {rs : Int32 ⊕ Nat} (h : f_X10_snapshot E κ a1 = some ((E', κ'), rs)) (he : ∀ e, rs = .inr e → e ∈ ([1, 3] : List Nat)) : ConW l yL_snapshot cL_snapshot 4 (some .int) [(0, 9, 12, 13), (0, 9, 15, 17)] 9 188 [.inr (some (4, 0, 0)), .inl (.int a1), .inr (some (6, 0, 0))] (E, κ) (E', (lwS κ' rs)) (some (.inl (.int (lwC [1, 3] rs)))) := by
  refine ConW_of hfl (by decide) (Nat.le_of_ble_eq_true rfl) rfl ⟨.int, rfl, rfl⟩ ?_
  intro X B g O hKP hmL hxt hE
  change J X B (E, κ) 0 [(0, .inr (some (4, 0, 0))), (1, .inl (.int a1)), (2, .inr (some (6, 0, 0)))] []
  have hO : Stab E (.inr (some (6, 0, 0))) := ⟨h6, by decide⟩
  refine J_aload_n O.mo dL_snapshot_0 2 rfl ?_
  refine J_iconst O.mo (v := 0) dL_snapshot_1 (by decide) ?_
  refine J_aload_n O.mo dL_snapshot_2 0 rfl ?_
  refine J_iload_n O.mo dL_snapshot_3 1 rfl ?_
  refine J_callVXH O hKP (as := [.inl (.int a1)]) (rest := [.inl (.int 0), .inr (some (6, 0, 0))]) (c_X10_snapshot hfl h0 hH hRN h) rfl (kd0 := 10) (k10_0 h0) (l10_0 h0) (T := TX10) (N := 4) rfl (by decide) mw871 mw872 mw873 mw320 mw874 pd_X10_snapshot rfl (by decide) rfl (Nat.le_of_ble_eq_true rfl) (sl_p (s10_0 h0) (sl_v (sl_p hO sl_0))) (st_v (st_p hO st_0)) dL_snapshot_4 hxt (fun s hs => ?_) (fun v hv => ?_)
  · cases rs with
    | inl r => cases hs
    | inr e =>
      have hs' : exN e = s := by injection hs
      have he1 := he e rfl
      clear he
      simp only [List.mem_cons, List.not_mem_nil, or_false] at he1
      rcases he1 with rfl | rfl
      · subst hs'
        refine ⟨12, ⟨[], ⟨0, 9, 12, 13⟩, [⟨0, 9, 15, 17⟩], rfl, fun _ h => absurd h List.not_mem_nil, rfl, by decide, ⟨_, mw825, mw826⟩, rfl⟩, fun q => ?_⟩
        refine J_astore_nR O.mo dL_snapshot_12 (by rw [hmL]; decide) rfl rfl ?_
        refine J_iconst O.mo (v := lwC [1, 3] (.inr 1 : Int32 ⊕ Nat)) dL_snapshot_13 (by decide) ?_
        exact hE _ _ dL_snapshot_14
      · subst hs'
        refine ⟨15, ⟨[⟨0, 9, 12, 13⟩], ⟨0, 9, 15, 17⟩, [], rfl, List.forall_mem_cons.mpr ⟨⟨by decide, _, mw825, List.mem_of_getElem? (i := 1) rfl⟩, fun _ h => absurd h List.not_mem_nil⟩, rfl, by decide, ⟨_, mw829, mw830⟩, rfl⟩, fun q => ?_⟩
        refine J_astore_nR O.mo dL_snapshot_15 (by rw [hmL]; decide) rfl rfl ?_
        refine J_iconst O.mo (v := lwC [1, 3] (.inr 3 : Int32 ⊕ Nat)) dL_snapshot_16 (by decide) ?_
        exact hE _ _ dL_snapshot_17
  · cases rs with
    | inr e => cases hv
    | inl r =>
      have hv' : some (.inl (.int r)) = v := by injection hv
      subst hv'
      show J X B (E', κ') 7 [(0, .inr (some (4, 0, 0))), (1, .inl (.int a1)), (2, .inr (some (6, 0, 0)))] [.inl (.int r), .inl (.int 0), .inr (some (6, 0, 0))]
      refine J_i2l O.mo dL_snapshot_7 ?_
      refine J_last O h6' rfl vp00 (kj := 0) (by decide) dL_snapshot_8 ?_
      refine J_goto O.mo (tgt := 18) dL_snapshot_9 (by decide) ?_
      refine J_iconst O.mo (v := lwC [1, 3] (.inl r : Int32 ⊕ Nat)) dL_snapshot_18 (by show Int32.ofInt 0 = 0; decide) ?_
      exact hE _ _ dL_snapshot_19
set_option maxHeartbeats 4000000 in
set_option maxRecDepth 100000 in
theorem c_L_restore {l : Launch} (hfl : l.stackTraces = false) {E : EE} {κ κ' : K} {a1 a2 : Int32} (h0 : PC 10 E 4 0 0) (h6 : liveC E 6 0 0 = true) {rs : Int32 ⊕ Nat} (h : f_X10_restore E κ a1 a2 = some (κ', rs)) (he : ∀ e, rs = .inr e → e ∈ ([1, 3] : List Nat)) : ConW l yL_restore cL_restore 5 (some .int) [(0, 10, 13, 13), (0, 10, 17, 17)] 9 188 [.inr (some (4, 0, 0)), .inl (.int a1), .inl (.int a2), .inr (some (6, 0, 0))] (E, κ) (E, (lwS κ' rs)) (some (.inl (.int (lwC [1, 3] rs)))) := by
  refine ConW_of hfl (by decide) (Nat.le_of_ble_eq_true rfl) rfl ⟨.int, rfl, rfl⟩ ?_
  intro X B g O hKP hmL hxt hE
  change J X B (E, κ) 0 [(0, .inr (some (4, 0, 0))), (1, .inl (.int a1)), (2, .inl (.int a2)), (3, .inr (some (6, 0, 0)))] []
  have hO : Stab E (.inr (some (6, 0, 0))) := ⟨h6, by decide⟩
  have h6' := h6
  refine J_aload_n O.mo dL_restore_0 3 rfl ?_
  refine J_iconst O.mo (v := 0) dL_restore_1 (by decide) ?_
  refine J_aload_n O.mo dL_restore_2 0 rfl ?_
  refine J_iload_n O.mo dL_restore_3 1 rfl ?_
  refine J_iload_n O.mo dL_restore_4 2 rfl ?_
  refine J_callVXH O hKP (as := [.inl (.int a1), .inl (.int a2)]) (rest := [.inl (.int 0), .inr (some (6, 0, 0))]) (c_X10_restore hfl h0 h) rfl (kd0 := 10) (k10_0 h0) (l10_0 h0) (T := TX10) (N := 4) rfl (by decide) mw875 mw876 mw877 mw320 mw878 pd_X10_restore rfl (by decide) rfl (Nat.le_of_ble_eq_true rfl) (sl_p (s10_0 h0) (sl_v (sl_v (sl_p hO sl_0)))) (st_v (st_p hO st_0)) dL_restore_5 hxt (fun s hs => ?_) (fun v hv => ?_)
  · cases rs with
    | inl r => cases hs
    | inr e =>
      have hs' : exN e = s := by injection hs
      have he1 := he e rfl
      clear he
      simp only [List.mem_cons, List.not_mem_nil, or_false] at he1
      rcases he1 with rfl | rfl
      · subst hs'
        refine ⟨13, ⟨[], ⟨0, 10, 13, 13⟩, [⟨0, 10, 17, 17⟩], rfl, fun _ h => absurd h List.not_mem_nil, rfl, by decide, ⟨_, mw825, mw826⟩, rfl⟩, fun q => ?_⟩
        refine J_astoreR O.mo dL_restore_13 (by rw [hmL]; decide) rfl rfl ?_
        refine J_iconst O.mo (v := lwC [1, 3] (.inr 1 : Int32 ⊕ Nat)) dL_restore_15 (by decide) ?_
        exact hE _ _ dL_restore_16
      · subst hs'
        refine ⟨17, ⟨[⟨0, 10, 13, 13⟩], ⟨0, 10, 17, 17⟩, [], rfl, List.forall_mem_cons.mpr ⟨⟨by decide, _, mw825, List.mem_of_getElem? (i := 1) rfl⟩, fun _ h => absurd h List.not_mem_nil⟩, rfl, by decide, ⟨_, mw829, mw830⟩, rfl⟩, fun q => ?_⟩
        refine J_astoreR O.mo dL_restore_17 (by rw [hmL]; decide) rfl rfl ?_
        refine J_iconst O.mo (v := lwC [1, 3] (.inr 3 : Int32 ⊕ Nat)) dL_restore_19 (by decide) ?_
        exact hE _ _ dL_restore_20
  · cases rs with
    | inr e => cases hv
    | inl r =>
      have hv' : some (.inl (.int r)) = v := by injection hv
      subst hv'
      show J X B (E, κ') 8 [(0, .inr (some (4, 0, 0))), (1, .inl (.int a1)), (2, .inl (.int a2)), (3, .inr (some (6, 0, 0)))] [.inl (.int r), .inl (.int 0), .inr (some (6, 0, 0))]
      refine J_i2l O.mo dL_restore_8 ?_
      refine J_last O h6' rfl vp00 (kj := 0) (by decide) dL_restore_9 ?_
      refine J_goto O.mo (tgt := 21) dL_restore_10 (by decide) ?_
      refine J_iconst O.mo (v := lwC [1, 3] (.inl r : Int32 ⊕ Nat)) dL_restore_21 (by show Int32.ofInt 0 = 0; decide) ?_
      exact hE _ _ dL_restore_22
set_option maxHeartbeats 4000000 in
set_option maxRecDepth 100000 in
theorem c_L_follow {l : Launch} (hfl : l.stackTraces = false) {E : EE} {κ κ' : K} {a1 a2 : Int32} (h0 : PC 10 E 4 0 0) (h6 : liveC E 6 0 0 = true) {rs : Int32 ⊕ Nat} (h : f_X10_follow E κ a1 a2 = some (κ', rs)) (he : ∀ e, rs = .inr e → e ∈ ([1, 3] : List Nat)) : ConW l yL_follow cL_follow 5 (some .int) [(0, 17, 20, 13), (0, 17, 24, 17)] 9 230 [.inr (some (4, 0, 0)), .inl (.int a1), .inl (.int a2), .inr (some (6, 0, 0))] (E, κ) (E, (lwB κ' rs)) (some (.inl (.int (lwC [1, 3] rs)))) := by
  refine ConW_of hfl (by decide) (Nat.le_of_ble_eq_true rfl) rfl ⟨.int, rfl, rfl⟩ ?_
  intro X B g O hKP hmL hxt hE
  change J X B (E, κ) 0 [(0, .inr (some (4, 0, 0))), (1, .inl (.int a1)), (2, .inl (.int a2)), (3, .inr (some (6, 0, 0)))] []
  have hO : Stab E (.inr (some (6, 0, 0))) := ⟨h6, by decide⟩
  have h6' := h6
  refine J_aload_n O.mo dL_follow_0 3 rfl ?_
  refine J_iconst O.mo (v := 0) dL_follow_1 (by decide) ?_
  refine J_aload_n O.mo dL_follow_2 0 rfl ?_
  refine J_iload_n O.mo dL_follow_3 1 rfl ?_
  refine J_iload_n O.mo dL_follow_4 2 rfl ?_
  refine J_callVXH O hKP (as := [.inl (.int a1), .inl (.int a2)]) (rest := [.inl (.int 0), .inr (some (6, 0, 0))]) (c_X10_follow hfl h0 h) rfl (kd0 := 10) (k10_0 h0) (l10_0 h0) (T := TX10) (N := 4) rfl (by decide) mw879 mw880 mw881 mw320 mw882 pd_X10_follow rfl (by decide) rfl (Nat.le_of_ble_eq_true rfl) (sl_p (s10_0 h0) (sl_v (sl_v (sl_p hO sl_0)))) (st_v (st_p hO st_0)) dL_follow_5 hxt (fun s hs => ?_) (fun v hv => ?_)
  · cases rs with
    | inl r => cases hs
    | inr e =>
      have hs' : exN e = s := by injection hs
      have he1 := he e rfl
      clear he
      simp only [List.mem_cons, List.not_mem_nil, or_false] at he1
      rcases he1 with rfl | rfl
      · subst hs'
        refine ⟨20, ⟨[], ⟨0, 17, 20, 13⟩, [⟨0, 17, 24, 17⟩], rfl, fun _ h => absurd h List.not_mem_nil, rfl, by decide, ⟨_, mw825, mw826⟩, rfl⟩, fun q => ?_⟩
        refine J_astoreR O.mo dL_follow_20 (by rw [hmL]; decide) rfl rfl ?_
        refine J_iconst O.mo (v := lwC [1, 3] (.inr 1 : Int32 ⊕ Nat)) dL_follow_22 (by decide) ?_
        exact hE _ _ dL_follow_23
      · subst hs'
        refine ⟨24, ⟨[⟨0, 17, 20, 13⟩], ⟨0, 17, 24, 17⟩, [], rfl, List.forall_mem_cons.mpr ⟨⟨by decide, _, mw825, List.mem_of_getElem? (i := 1) rfl⟩, fun _ h => absurd h List.not_mem_nil⟩, rfl, by decide, ⟨_, mw829, mw830⟩, rfl⟩, fun q => ?_⟩
        refine J_astoreR O.mo dL_follow_24 (by rw [hmL]; decide) rfl rfl ?_
        refine J_iconst O.mo (v := lwC [1, 3] (.inr 3 : Int32 ⊕ Nat)) dL_follow_26 (by decide) ?_
        exact hE _ _ dL_follow_27
  · cases rs with
    | inr e => cases hv
    | inl r =>
      have hv' : some (.inl (.int r)) = v := by injection hv
      subst hv'
      show J X B (E, κ') 8 [(0, .inr (some (4, 0, 0))), (1, .inl (.int a1)), (2, .inl (.int a2)), (3, .inr (some (6, 0, 0)))] [.inl (.int r), .inl (.int 0), .inr (some (6, 0, 0))]
      refine J_if_eq O.mo (tgt := 15) dL_follow_8 (by decide) (fun hc => ?_) (fun hc => ?_)
      · refine J_lconst O.mo (v := (bI r).toInt64) dL_follow_15 (by rw [show bI r = 0 from if_pos hc]; decide) ?_
        refine J_last O h6' rfl vp00 (kj := 0) (by decide) dL_follow_16 ?_
        refine J_goto O.mo (tgt := 28) dL_follow_17 (by decide) ?_
        refine J_iconst O.mo (v := lwC [1, 3] (.inl r : Int32 ⊕ Nat)) dL_follow_28 (by show Int32.ofInt 0 = 0; decide) ?_
        exact hE _ _ dL_follow_29
      · refine J_lconst O.mo (v := (bI r).toInt64) dL_follow_11 (by rw [show bI r = 1 from if_neg hc]; decide) ?_
        refine J_goto O.mo (tgt := 16) dL_follow_12 (by decide) ?_
        refine J_last O h6' rfl vp00 (kj := 0) (by decide) dL_follow_16 ?_
        refine J_goto O.mo (tgt := 28) dL_follow_17 (by decide) ?_
        refine J_iconst O.mo (v := lwC [1, 3] (.inl r : Int32 ⊕ Nat)) dL_follow_28 (by show Int32.ofInt 0 = 0; decide) ?_
        exact hE _ _ dL_follow_29
set_option maxHeartbeats 4000000 in
set_option maxRecDepth 100000 in
theorem c_L_step {l : Launch} (hfl : l.stackTraces = false) {E : EE} {κ κ' : K} {a1 : Int32} (h0 : PC 10 E 4 0 0) (h6 : liveC E 6 0 0 = true) {rs : Int32 ⊕ Nat} (h : f_X10_step E κ a1 = some (κ', rs)) (he : ∀ e, rs = .inr e → e ∈ ([1, 3] : List Nat)) : ConW l yL_step cL_step 4 (some .int) [(0, 9, 12, 13), (0, 9, 15, 17)] 9 228 [.inr (some (4, 0, 0)), .inl (.int a1), .inr (some (6, 0, 0))] (E, κ) (E, (lwS κ' rs)) (some (.inl (.int (lwC [1, 3] rs)))) := by
  refine ConW_of hfl (by decide) (Nat.le_of_ble_eq_true rfl) rfl ⟨.int, rfl, rfl⟩ ?_
  intro X B g O hKP hmL hxt hE
  change J X B (E, κ) 0 [(0, .inr (some (4, 0, 0))), (1, .inl (.int a1)), (2, .inr (some (6, 0, 0)))] []
  have hO : Stab E (.inr (some (6, 0, 0))) := ⟨h6, by decide⟩
  have h6' := h6
  refine J_aload_n O.mo dL_step_0 2 rfl ?_
  refine J_iconst O.mo (v := 0) dL_step_1 (by decide) ?_
  refine J_aload_n O.mo dL_step_2 0 rfl ?_
  refine J_iload_n O.mo dL_step_3 1 rfl ?_
  refine J_callVXH O hKP (as := [.inl (.int a1)]) (rest := [.inl (.int 0), .inr (some (6, 0, 0))]) (c_X10_step hfl h0 h) rfl (kd0 := 10) (k10_0 h0) (l10_0 h0) (T := TX10) (N := 4) rfl (by decide) mw883 mw884 mw885 mw320 mw886 pd_X10_step rfl (by decide) rfl (Nat.le_of_ble_eq_true rfl) (sl_p (s10_0 h0) (sl_v (sl_p hO sl_0))) (st_v (st_p hO st_0)) dL_step_4 hxt (fun s hs => ?_) (fun v hv => ?_)
  · cases rs with
    | inl r => cases hs
    | inr e =>
      have hs' : exN e = s := by injection hs
      have he1 := he e rfl
      clear he
      simp only [List.mem_cons, List.not_mem_nil, or_false] at he1
      rcases he1 with rfl | rfl
      · subst hs'
        refine ⟨12, ⟨[], ⟨0, 9, 12, 13⟩, [⟨0, 9, 15, 17⟩], rfl, fun _ h => absurd h List.not_mem_nil, rfl, by decide, ⟨_, mw825, mw826⟩, rfl⟩, fun q => ?_⟩
        refine J_astore_nR O.mo dL_step_12 (by rw [hmL]; decide) rfl rfl ?_
        refine J_iconst O.mo (v := lwC [1, 3] (.inr 1 : Int32 ⊕ Nat)) dL_step_13 (by decide) ?_
        exact hE _ _ dL_step_14
      · subst hs'
        refine ⟨15, ⟨[⟨0, 9, 12, 13⟩], ⟨0, 9, 15, 17⟩, [], rfl, List.forall_mem_cons.mpr ⟨⟨by decide, _, mw825, List.mem_of_getElem? (i := 1) rfl⟩, fun _ h => absurd h List.not_mem_nil⟩, rfl, by decide, ⟨_, mw829, mw830⟩, rfl⟩, fun q => ?_⟩
        refine J_astore_nR O.mo dL_step_15 (by rw [hmL]; decide) rfl rfl ?_
        refine J_iconst O.mo (v := lwC [1, 3] (.inr 3 : Int32 ⊕ Nat)) dL_step_16 (by decide) ?_
        exact hE _ _ dL_step_17
  · cases rs with
    | inr e => cases hv
    | inl r =>
      have hv' : some (.inl (.int r)) = v := by injection hv
      subst hv'
      show J X B (E, κ') 7 [(0, .inr (some (4, 0, 0))), (1, .inl (.int a1)), (2, .inr (some (6, 0, 0)))] [.inl (.int r), .inl (.int 0), .inr (some (6, 0, 0))]
      refine J_i2l O.mo dL_step_7 ?_
      refine J_last O h6' rfl vp00 (kj := 0) (by decide) dL_step_8 ?_
      refine J_goto O.mo (tgt := 18) dL_step_9 (by decide) ?_
      refine J_iconst O.mo (v := lwC [1, 3] (.inl r : Int32 ⊕ Nat)) dL_step_18 (by show Int32.ofInt 0 = 0; decide) ?_
      exact hE _ _ dL_step_19
set_option maxHeartbeats 4000000 in
set_option maxRecDepth 100000 in
theorem c_L_fail {l : Launch} (hfl : l.stackTraces = false) {E : EE} {κ κ' : K} {a1 : Int32} (h0 : PC 10 E 4 0 0) (h6 : liveC E 6 0 0 = true) {rs : Int32 ⊕ Nat} (h : f_X10_fail E κ a1 = some (κ', rs)) (he : ∀ e, rs = .inr e → e ∈ ([1, 3] : List Nat)) : ConW l yL_fail cL_fail 4 (some .int) [(0, 9, 12, 13), (0, 9, 15, 17)] 9 212 [.inr (some (4, 0, 0)), .inl (.int a1), .inr (some (6, 0, 0))] (E, κ) (E, (lwS κ' rs)) (some (.inl (.int (lwC [1, 3] rs)))) := by
  refine ConW_of hfl (by decide) (Nat.le_of_ble_eq_true rfl) rfl ⟨.int, rfl, rfl⟩ ?_
  intro X B g O hKP hmL hxt hE
  change J X B (E, κ) 0 [(0, .inr (some (4, 0, 0))), (1, .inl (.int a1)), (2, .inr (some (6, 0, 0)))] []
  have hO : Stab E (.inr (some (6, 0, 0))) := ⟨h6, by decide⟩
  have h6' := h6
  refine J_aload_n O.mo dL_fail_0 2 rfl ?_
  refine J_iconst O.mo (v := 0) dL_fail_1 (by decide) ?_
  refine J_aload_n O.mo dL_fail_2 0 rfl ?_
  refine J_iload_n O.mo dL_fail_3 1 rfl ?_
  refine J_callVXH O hKP (as := [.inl (.int a1)]) (rest := [.inl (.int 0), .inr (some (6, 0, 0))]) (c_X10_fail hfl h0 h) rfl (kd0 := 10) (k10_0 h0) (l10_0 h0) (T := TX10) (N := 4) rfl (by decide) mw887 mw888 mw889 mw320 mw890 pd_X10_fail rfl (by decide) rfl (Nat.le_of_ble_eq_true rfl) (sl_p (s10_0 h0) (sl_v (sl_p hO sl_0))) (st_v (st_p hO st_0)) dL_fail_4 hxt (fun s hs => ?_) (fun v hv => ?_)
  · cases rs with
    | inl r => cases hs
    | inr e =>
      have hs' : exN e = s := by injection hs
      have he1 := he e rfl
      clear he
      simp only [List.mem_cons, List.not_mem_nil, or_false] at he1
      rcases he1 with rfl | rfl
      · subst hs'
        refine ⟨12, ⟨[], ⟨0, 9, 12, 13⟩, [⟨0, 9, 15, 17⟩], rfl, fun _ h => absurd h List.not_mem_nil, rfl, by decide, ⟨_, mw825, mw826⟩, rfl⟩, fun q => ?_⟩
        refine J_astore_nR O.mo dL_fail_12 (by rw [hmL]; decide) rfl rfl ?_
        refine J_iconst O.mo (v := lwC [1, 3] (.inr 1 : Int32 ⊕ Nat)) dL_fail_13 (by decide) ?_
        exact hE _ _ dL_fail_14
      · subst hs'
        refine ⟨15, ⟨[⟨0, 9, 12, 13⟩], ⟨0, 9, 15, 17⟩, [], rfl, List.forall_mem_cons.mpr ⟨⟨by decide, _, mw825, List.mem_of_getElem? (i := 1) rfl⟩, fun _ h => absurd h List.not_mem_nil⟩, rfl, by decide, ⟨_, mw829, mw830⟩, rfl⟩, fun q => ?_⟩
        refine J_astore_nR O.mo dL_fail_15 (by rw [hmL]; decide) rfl rfl ?_
        refine J_iconst O.mo (v := lwC [1, 3] (.inr 3 : Int32 ⊕ Nat)) dL_fail_16 (by decide) ?_
        exact hE _ _ dL_fail_17
  · cases rs with
    | inr e => cases hv
    | inl r =>
      have hv' : some (.inl (.int r)) = v := by injection hv
      subst hv'
      show J X B (E, κ') 7 [(0, .inr (some (4, 0, 0))), (1, .inl (.int a1)), (2, .inr (some (6, 0, 0)))] [.inl (.int r), .inl (.int 0), .inr (some (6, 0, 0))]
      refine J_i2l O.mo dL_fail_7 ?_
      refine J_last O h6' rfl vp00 (kj := 0) (by decide) dL_fail_8 ?_
      refine J_goto O.mo (tgt := 18) dL_fail_9 (by decide) ?_
      refine J_iconst O.mo (v := lwC [1, 3] (.inl r : Int32 ⊕ Nat)) dL_fail_18 (by show Int32.ofInt 0 = 0; decide) ?_
      exact hE _ _ dL_fail_19
set_option maxHeartbeats 4000000 in
set_option maxRecDepth 100000 in
theorem c_L_mend {l : Launch} (hfl : l.stackTraces = false) {E : EE} {κ κ' : K} {a1 : Int32} (h0 : PC 10 E 4 0 0) {rs : Unit ⊕ Nat} (h : f_X10_mend E κ a1 = some (κ', rs)) (he : ∀ e, rs = .inr e → e ∈ ([1, 3] : List Nat)) : ConW l yL_mend cL_mend 3 (some .int) [(0, 5, 8, 13), (0, 5, 11, 17)] 9 146 [.inr (some (4, 0, 0)), .inl (.int a1)] (E, κ) (E, κ') (some (.inl (.int (lwC [1, 3] rs)))) := by
  refine ConW_of hfl (by decide) (Nat.le_of_ble_eq_true rfl) rfl ⟨.int, rfl, rfl⟩ ?_
  intro X B g O hKP hmL hxt hE
  change J X B (E, κ) 0 [(0, .inr (some (4, 0, 0))), (1, .inl (.int a1))] []
  refine J_aload_n O.mo dL_mend_0 0 rfl ?_
  refine J_iload_n O.mo dL_mend_1 1 rfl ?_
  refine J_callVXH O hKP (as := [.inl (.int a1)]) (rest := []) (c_X10_mend hfl h0 h) rfl (kd0 := 10) (k10_0 h0) (l10_0 h0) (T := TX10) (N := 4) rfl (by decide) mw891 mw892 mw893 mw320 mw894 pd_X10_mend rfl (by decide) rfl (Nat.le_of_ble_eq_true rfl) (sl_p (s10_0 h0) (sl_v sl_0)) st_0 dL_mend_2 hxt (fun s hs => ?_) (fun v hv => ?_)
  · cases rs with
    | inl r => cases hs
    | inr e =>
      have hs' : exN e = s := by injection hs
      have he1 := he e rfl
      clear he
      simp only [List.mem_cons, List.not_mem_nil, or_false] at he1
      rcases he1 with rfl | rfl
      · subst hs'
        refine ⟨8, ⟨[], ⟨0, 5, 8, 13⟩, [⟨0, 5, 11, 17⟩], rfl, fun _ h => absurd h List.not_mem_nil, rfl, by decide, ⟨_, mw825, mw826⟩, rfl⟩, fun q => ?_⟩
        refine J_astore_nR O.mo dL_mend_8 (by rw [hmL]; decide) rfl rfl ?_
        refine J_iconst O.mo (v := lwC [1, 3] (.inr 1 : Unit ⊕ Nat)) dL_mend_9 (by decide) ?_
        exact hE _ _ dL_mend_10
      · subst hs'
        refine ⟨11, ⟨[⟨0, 5, 8, 13⟩], ⟨0, 5, 11, 17⟩, [], rfl, List.forall_mem_cons.mpr ⟨⟨by decide, _, mw825, List.mem_of_getElem? (i := 1) rfl⟩, fun _ h => absurd h List.not_mem_nil⟩, rfl, by decide, ⟨_, mw829, mw830⟩, rfl⟩, fun q => ?_⟩
        refine J_astore_nR O.mo dL_mend_11 (by rw [hmL]; decide) rfl rfl ?_
        refine J_iconst O.mo (v := lwC [1, 3] (.inr 3 : Unit ⊕ Nat)) dL_mend_12 (by decide) ?_
        exact hE _ _ dL_mend_13
  · cases rs with
    | inr e => cases hv
    | inl r =>
      have hv' : none = v := by injection hv
      subst hv'
      show J X B (E, κ') 5 [(0, .inr (some (4, 0, 0))), (1, .inl (.int a1))] []
      refine J_goto O.mo (tgt := 14) dL_mend_5 (by decide) ?_
      refine J_iconst O.mo (v := lwC [1, 3] (.inl r : Unit ⊕ Nat)) dL_mend_14 (by show Int32.ofInt 0 = 0; decide) ?_
      exact hE _ _ dL_mend_15
set_option maxHeartbeats 4000000 in
set_option maxRecDepth 100000 in
theorem c_L_of {l : Launch} (hfl : l.stackTraces = false) {E : EE} {κ κ' : K} {a1 a2 : Int32} (h0 : PC 10 E 4 0 0) (h6 : liveC E 6 0 0 = true) {rs : Int32 ⊕ Nat} (h : f_X10_of E κ a1 a2 = some (κ', rs)) (he : ∀ e, rs = .inr e → e ∈ ([1, 2] : List Nat)) : ConW l yL_of cL_of 5 (some .int) [(0, 10, 13, 13), (0, 10, 17, 15)] 9 148 [.inr (some (4, 0, 0)), .inl (.int a1), .inl (.int a2), .inr (some (6, 0, 0))] (E, κ) (E, (lwS κ' rs)) (some (.inl (.int (lwC [1, 2] rs)))) := by
  refine ConW_of hfl (by decide) (Nat.le_of_ble_eq_true rfl) rfl ⟨.int, rfl, rfl⟩ ?_
  intro X B g O hKP hmL hxt hE
  change J X B (E, κ) 0 [(0, .inr (some (4, 0, 0))), (1, .inl (.int a1)), (2, .inl (.int a2)), (3, .inr (some (6, 0, 0)))] []
  have hO : Stab E (.inr (some (6, 0, 0))) := ⟨h6, by decide⟩
  have h6' := h6
  refine J_aload_n O.mo dL_of_0 3 rfl ?_
  refine J_iconst O.mo (v := 0) dL_of_1 (by decide) ?_
  refine J_aload_n O.mo dL_of_2 0 rfl ?_
  refine J_iload_n O.mo dL_of_3 1 rfl ?_
  refine J_iload_n O.mo dL_of_4 2 rfl ?_
  refine J_callVXH O hKP (as := [.inl (.int a1), .inl (.int a2)]) (rest := [.inl (.int 0), .inr (some (6, 0, 0))]) (c_X10_of hfl h0 h) rfl (kd0 := 10) (k10_0 h0) (l10_0 h0) (T := TX10) (N := 4) rfl (by decide) mw895 mw896 mw897 mw320 mw898 pd_X10_of rfl (by decide) rfl (Nat.le_of_ble_eq_true rfl) (sl_p (s10_0 h0) (sl_v (sl_v (sl_p hO sl_0)))) (st_v (st_p hO st_0)) dL_of_5 hxt (fun s hs => ?_) (fun v hv => ?_)
  · cases rs with
    | inl r => cases hs
    | inr e =>
      have hs' : exN e = s := by injection hs
      have he1 := he e rfl
      clear he
      simp only [List.mem_cons, List.not_mem_nil, or_false] at he1
      rcases he1 with rfl | rfl
      · subst hs'
        refine ⟨13, ⟨[], ⟨0, 10, 13, 13⟩, [⟨0, 10, 17, 15⟩], rfl, fun _ h => absurd h List.not_mem_nil, rfl, by decide, ⟨_, mw825, mw826⟩, rfl⟩, fun q => ?_⟩
        refine J_astoreR O.mo dL_of_13 (by rw [hmL]; decide) rfl rfl ?_
        refine J_iconst O.mo (v := lwC [1, 2] (.inr 1 : Int32 ⊕ Nat)) dL_of_15 (by decide) ?_
        exact hE _ _ dL_of_16
      · subst hs'
        refine ⟨17, ⟨[⟨0, 10, 13, 13⟩], ⟨0, 10, 17, 15⟩, [], rfl, List.forall_mem_cons.mpr ⟨⟨by decide, _, mw825, List.mem_of_getElem? (i := 0) rfl⟩, fun _ h => absurd h List.not_mem_nil⟩, rfl, by decide, ⟨_, mw827, mw828⟩, rfl⟩, fun q => ?_⟩
        refine J_astoreR O.mo dL_of_17 (by rw [hmL]; decide) rfl rfl ?_
        refine J_iconst O.mo (v := lwC [1, 2] (.inr 2 : Int32 ⊕ Nat)) dL_of_19 (by decide) ?_
        exact hE _ _ dL_of_20
  · cases rs with
    | inr e => cases hv
    | inl r =>
      have hv' : some (.inl (.int r)) = v := by injection hv
      subst hv'
      show J X B (E, κ') 8 [(0, .inr (some (4, 0, 0))), (1, .inl (.int a1)), (2, .inl (.int a2)), (3, .inr (some (6, 0, 0)))] [.inl (.int r), .inl (.int 0), .inr (some (6, 0, 0))]
      refine J_i2l O.mo dL_of_8 ?_
      refine J_last O h6' rfl vp00 (kj := 0) (by decide) dL_of_9 ?_
      refine J_goto O.mo (tgt := 21) dL_of_10 (by decide) ?_
      refine J_iconst O.mo (v := lwC [1, 2] (.inl r : Int32 ⊕ Nat)) dL_of_21 (by show Int32.ofInt 0 = 0; decide) ?_
      exact hE _ _ dL_of_22
set_option maxHeartbeats 4000000 in
set_option maxRecDepth 100000 in
theorem c_L_register {l : Launch} (hfl : l.stackTraces = false) {E : EE} {κ κ' : K} {a1 a2 : Int32} (h0 : PC 10 E 4 0 0) (h6 : liveC E 6 0 0 = true) {rs : Int32 ⊕ Nat} (h : f_X10_register E κ a1 a2 = some (κ', rs)) (he : ∀ e, rs = .inr e → e ∈ ([1] : List Nat)) : ConW l yL_register cL_register 5 (some .int) [(0, 10, 13, 13)] 9 147 [.inr (some (4, 0, 0)), .inl (.int a1), .inl (.int a2), .inr (some (6, 0, 0))] (E, κ) (E, (lwS κ' rs)) (some (.inl (.int (lwC [1] rs)))) := by
  refine ConW_of hfl (by decide) (Nat.le_of_ble_eq_true rfl) rfl ⟨.int, rfl, rfl⟩ ?_
  intro X B g O hKP hmL hxt hE
  change J X B (E, κ) 0 [(0, .inr (some (4, 0, 0))), (1, .inl (.int a1)), (2, .inl (.int a2)), (3, .inr (some (6, 0, 0)))] []
  have hO : Stab E (.inr (some (6, 0, 0))) := ⟨h6, by decide⟩
  have h6' := h6
  refine J_aload_n O.mo dL_register_0 3 rfl ?_
  refine J_iconst O.mo (v := 0) dL_register_1 (by decide) ?_
  refine J_aload_n O.mo dL_register_2 0 rfl ?_
  refine J_iload_n O.mo dL_register_3 1 rfl ?_
  refine J_iload_n O.mo dL_register_4 2 rfl ?_
  refine J_callVXH O hKP (as := [.inl (.int a1), .inl (.int a2)]) (rest := [.inl (.int 0), .inr (some (6, 0, 0))]) (c_X10_register hfl h0 h) rfl (kd0 := 10) (k10_0 h0) (l10_0 h0) (T := TX10) (N := 4) rfl (by decide) mw899 mw900 mw901 mw320 mw902 pd_X10_register rfl (by decide) rfl (Nat.le_of_ble_eq_true rfl) (sl_p (s10_0 h0) (sl_v (sl_v (sl_p hO sl_0)))) (st_v (st_p hO st_0)) dL_register_5 hxt (fun s hs => ?_) (fun v hv => ?_)
  · cases rs with
    | inl r => cases hs
    | inr e =>
      have hs' : exN e = s := by injection hs
      have he1 := he e rfl
      clear he
      simp only [List.mem_cons, List.not_mem_nil, or_false] at he1
      subst he1
      subst hs'
      refine ⟨13, ⟨[], ⟨0, 10, 13, 13⟩, [], rfl, fun _ h => absurd h List.not_mem_nil, rfl, by decide, ⟨_, mw825, mw826⟩, rfl⟩, fun q => ?_⟩
      refine J_astoreR O.mo dL_register_13 (by rw [hmL]; decide) rfl rfl ?_
      refine J_iconst O.mo (v := lwC [1] (.inr 1 : Int32 ⊕ Nat)) dL_register_15 (by decide) ?_
      exact hE _ _ dL_register_16
  · cases rs with
    | inr e => cases hv
    | inl r =>
      have hv' : some (.inl (.int r)) = v := by injection hv
      subst hv'
      show J X B (E, κ') 8 [(0, .inr (some (4, 0, 0))), (1, .inl (.int a1)), (2, .inl (.int a2)), (3, .inr (some (6, 0, 0)))] [.inl (.int r), .inl (.int 0), .inr (some (6, 0, 0))]
      refine J_i2l O.mo dL_register_8 ?_
      refine J_last O h6' rfl vp00 (kj := 0) (by decide) dL_register_9 ?_
      refine J_goto O.mo (tgt := 17) dL_register_10 (by decide) ?_
      refine J_iconst O.mo (v := lwC [1] (.inl r : Int32 ⊕ Nat)) dL_register_17 (by show Int32.ofInt 0 = 0; decide) ?_
      exact hE _ _ dL_register_18
set_option maxHeartbeats 4000000 in
set_option maxRecDepth 100000 in
theorem c_L_word {l : Launch} (hfl : l.stackTraces = false) {E : EE} {κ κ' : K} {a1 a2 a3 : Int32} (h0 : PC 10 E 4 0 0) (h6 : liveC E 6 0 0 = true) {rs : Int32 ⊕ Nat} (h : f_X10_word E κ a1 a2 a3 = some (κ', rs)) (he : ∀ e, rs = .inr e → e ∈ ([1] : List Nat)) : ConW l yL_word cL_word 6 (some .int) [(0, 12, 15, 13)] 9 148 [.inr (some (4, 0, 0)), .inl (.int a1), .inl (.int a2), .inl (.int a3), .inr (some (6, 0, 0))] (E, κ) (E, (lwS κ' rs)) (some (.inl (.int (lwC [1] rs)))) := by
  refine ConW_of hfl (by decide) (Nat.le_of_ble_eq_true rfl) rfl ⟨.int, rfl, rfl⟩ ?_
  intro X B g O hKP hmL hxt hE
  change J X B (E, κ) 0 [(0, .inr (some (4, 0, 0))), (1, .inl (.int a1)), (2, .inl (.int a2)), (3, .inl (.int a3)), (4, .inr (some (6, 0, 0)))] []
  have hO : Stab E (.inr (some (6, 0, 0))) := ⟨h6, by decide⟩
  have h6' := h6
  refine J_aload O.mo dL_word_0 4 rfl ?_
  refine J_iconst O.mo (v := 0) dL_word_2 (by decide) ?_
  refine J_aload_n O.mo dL_word_3 0 rfl ?_
  refine J_iload_n O.mo dL_word_4 1 rfl ?_
  refine J_iload_n O.mo dL_word_5 2 rfl ?_
  refine J_iload_n O.mo dL_word_6 3 rfl ?_
  refine J_callVXH O hKP (as := [.inl (.int a1), .inl (.int a2), .inl (.int a3)]) (rest := [.inl (.int 0), .inr (some (6, 0, 0))]) (c_X10_word hfl h0 h) rfl (kd0 := 10) (k10_0 h0) (l10_0 h0) (T := TX10) (N := 4) rfl (by decide) mw903 mw904 mw905 mw320 mw906 pd_X10_word rfl (by decide) rfl (Nat.le_of_ble_eq_true rfl) (sl_p (s10_0 h0) (sl_v (sl_v (sl_v (sl_p hO sl_0))))) (st_v (st_p hO st_0)) dL_word_7 hxt (fun s hs => ?_) (fun v hv => ?_)
  · cases rs with
    | inl r => cases hs
    | inr e =>
      have hs' : exN e = s := by injection hs
      have he1 := he e rfl
      clear he
      simp only [List.mem_cons, List.not_mem_nil, or_false] at he1
      subst he1
      subst hs'
      refine ⟨15, ⟨[], ⟨0, 12, 15, 13⟩, [], rfl, fun _ h => absurd h List.not_mem_nil, rfl, by decide, ⟨_, mw825, mw826⟩, rfl⟩, fun q => ?_⟩
      refine J_astoreR O.mo dL_word_15 (by rw [hmL]; decide) rfl rfl ?_
      refine J_iconst O.mo (v := lwC [1] (.inr 1 : Int32 ⊕ Nat)) dL_word_17 (by decide) ?_
      exact hE _ _ dL_word_18
  · cases rs with
    | inr e => cases hv
    | inl r =>
      have hv' : some (.inl (.int r)) = v := by injection hv
      subst hv'
      show J X B (E, κ') 10 [(0, .inr (some (4, 0, 0))), (1, .inl (.int a1)), (2, .inl (.int a2)), (3, .inl (.int a3)), (4, .inr (some (6, 0, 0)))] [.inl (.int r), .inl (.int 0), .inr (some (6, 0, 0))]
      refine J_i2l O.mo dL_word_10 ?_
      refine J_last O h6' rfl vp00 (kj := 0) (by decide) dL_word_11 ?_
      refine J_goto O.mo (tgt := 19) dL_word_12 (by decide) ?_
      refine J_iconst O.mo (v := lwC [1] (.inl r : Int32 ⊕ Nat)) dL_word_19 (by show Int32.ofInt 0 = 0; decide) ?_
      exact hE _ _ dL_word_20
set_option maxHeartbeats 4000000 in
set_option maxRecDepth 100000 in
theorem c_L_pageOf {l : Launch} (hfl : l.stackTraces = false) {E : EE} {κ κ' : K} {a1 a2 : Int32} (h0 : PC 10 E 4 0 0) (h6 : liveC E 6 0 0 = true) {rs : Int32 ⊕ Nat} (h : f_X10_pageOf E κ a1 a2 = some (κ', rs)) (he : ∀ e, rs = .inr e → e ∈ ([1] : List Nat)) : ConW l yL_pageOf cL_pageOf 5 (some .int) [(0, 10, 13, 13)] 9 147 [.inr (some (4, 0, 0)), .inl (.int a1), .inl (.int a2), .inr (some (6, 0, 0))] (E, κ) (E, (lwS κ' rs)) (some (.inl (.int (lwC [1] rs)))) := by
  refine ConW_of hfl (by decide) (Nat.le_of_ble_eq_true rfl) rfl ⟨.int, rfl, rfl⟩ ?_
  intro X B g O hKP hmL hxt hE
  change J X B (E, κ) 0 [(0, .inr (some (4, 0, 0))), (1, .inl (.int a1)), (2, .inl (.int a2)), (3, .inr (some (6, 0, 0)))] []
  have hO : Stab E (.inr (some (6, 0, 0))) := ⟨h6, by decide⟩
  have h6' := h6
  refine J_aload_n O.mo dL_pageOf_0 3 rfl ?_
  refine J_iconst O.mo (v := 0) dL_pageOf_1 (by decide) ?_
  refine J_aload_n O.mo dL_pageOf_2 0 rfl ?_
  refine J_iload_n O.mo dL_pageOf_3 1 rfl ?_
  refine J_iload_n O.mo dL_pageOf_4 2 rfl ?_
  refine J_callVXH O hKP (as := [.inl (.int a1), .inl (.int a2)]) (rest := [.inl (.int 0), .inr (some (6, 0, 0))]) (c_X10_pageOf hfl h0 h) rfl (kd0 := 10) (k10_0 h0) (l10_0 h0) (T := TX10) (N := 4) rfl (by decide) mw907 mw908 mw909 mw320 mw910 pd_X10_pageOf rfl (by decide) rfl (Nat.le_of_ble_eq_true rfl) (sl_p (s10_0 h0) (sl_v (sl_v (sl_p hO sl_0)))) (st_v (st_p hO st_0)) dL_pageOf_5 hxt (fun s hs => ?_) (fun v hv => ?_)
  · cases rs with
    | inl r => cases hs
    | inr e =>
      have hs' : exN e = s := by injection hs
      have he1 := he e rfl
      clear he
      simp only [List.mem_cons, List.not_mem_nil, or_false] at he1
      subst he1
      subst hs'
      refine ⟨13, ⟨[], ⟨0, 10, 13, 13⟩, [], rfl, fun _ h => absurd h List.not_mem_nil, rfl, by decide, ⟨_, mw825, mw826⟩, rfl⟩, fun q => ?_⟩
      refine J_astoreR O.mo dL_pageOf_13 (by rw [hmL]; decide) rfl rfl ?_
      refine J_iconst O.mo (v := lwC [1] (.inr 1 : Int32 ⊕ Nat)) dL_pageOf_15 (by decide) ?_
      exact hE _ _ dL_pageOf_16
  · cases rs with
    | inr e => cases hv
    | inl r =>
      have hv' : some (.inl (.int r)) = v := by injection hv
      subst hv'
      show J X B (E, κ') 8 [(0, .inr (some (4, 0, 0))), (1, .inl (.int a1)), (2, .inl (.int a2)), (3, .inr (some (6, 0, 0)))] [.inl (.int r), .inl (.int 0), .inr (some (6, 0, 0))]
      refine J_i2l O.mo dL_pageOf_8 ?_
      refine J_last O h6' rfl vp00 (kj := 0) (by decide) dL_pageOf_9 ?_
      refine J_goto O.mo (tgt := 17) dL_pageOf_10 (by decide) ?_
      refine J_iconst O.mo (v := lwC [1] (.inl r : Int32 ⊕ Nat)) dL_pageOf_17 (by show Int32.ofInt 0 = 0; decide) ?_
      exact hE _ _ dL_pageOf_18
set_option maxHeartbeats 4000000 in
set_option maxRecDepth 100000 in
theorem c_L_frameOf {l : Launch} (hfl : l.stackTraces = false) {E : EE} {κ κ' : K} {a1 a2 : Int32} (h0 : PC 10 E 4 0 0) (h6 : liveC E 6 0 0 = true) {rs : Int32 ⊕ Nat} (h : f_X10_frameOf E κ a1 a2 = some (κ', rs)) (he : ∀ e, rs = .inr e → e ∈ ([1] : List Nat)) : ConW l yL_frameOf cL_frameOf 5 (some .int) [(0, 10, 13, 13)] 9 147 [.inr (some (4, 0, 0)), .inl (.int a1), .inl (.int a2), .inr (some (6, 0, 0))] (E, κ) (E, (lwS κ' rs)) (some (.inl (.int (lwC [1] rs)))) := by
  refine ConW_of hfl (by decide) (Nat.le_of_ble_eq_true rfl) rfl ⟨.int, rfl, rfl⟩ ?_
  intro X B g O hKP hmL hxt hE
  change J X B (E, κ) 0 [(0, .inr (some (4, 0, 0))), (1, .inl (.int a1)), (2, .inl (.int a2)), (3, .inr (some (6, 0, 0)))] []
  have hO : Stab E (.inr (some (6, 0, 0))) := ⟨h6, by decide⟩
  have h6' := h6
  refine J_aload_n O.mo dL_frameOf_0 3 rfl ?_
  refine J_iconst O.mo (v := 0) dL_frameOf_1 (by decide) ?_
  refine J_aload_n O.mo dL_frameOf_2 0 rfl ?_
  refine J_iload_n O.mo dL_frameOf_3 1 rfl ?_
  refine J_iload_n O.mo dL_frameOf_4 2 rfl ?_
  refine J_callVXH O hKP (as := [.inl (.int a1), .inl (.int a2)]) (rest := [.inl (.int 0), .inr (some (6, 0, 0))]) (c_X10_frameOf hfl h0 h) rfl (kd0 := 10) (k10_0 h0) (l10_0 h0) (T := TX10) (N := 4) rfl (by decide) mw911 mw912 mw913 mw320 mw914 pd_X10_frameOf rfl (by decide) rfl (Nat.le_of_ble_eq_true rfl) (sl_p (s10_0 h0) (sl_v (sl_v (sl_p hO sl_0)))) (st_v (st_p hO st_0)) dL_frameOf_5 hxt (fun s hs => ?_) (fun v hv => ?_)
  · cases rs with
    | inl r => cases hs
    | inr e =>
      have hs' : exN e = s := by injection hs
      have he1 := he e rfl
      clear he
      simp only [List.mem_cons, List.not_mem_nil, or_false] at he1
      subst he1
      subst hs'
      refine ⟨13, ⟨[], ⟨0, 10, 13, 13⟩, [], rfl, fun _ h => absurd h List.not_mem_nil, rfl, by decide, ⟨_, mw825, mw826⟩, rfl⟩, fun q => ?_⟩
      refine J_astoreR O.mo dL_frameOf_13 (by rw [hmL]; decide) rfl rfl ?_
      refine J_iconst O.mo (v := lwC [1] (.inr 1 : Int32 ⊕ Nat)) dL_frameOf_15 (by decide) ?_
      exact hE _ _ dL_frameOf_16
  · cases rs with
    | inr e => cases hv
    | inl r =>
      have hv' : some (.inl (.int r)) = v := by injection hv
      subst hv'
      show J X B (E, κ') 8 [(0, .inr (some (4, 0, 0))), (1, .inl (.int a1)), (2, .inl (.int a2)), (3, .inr (some (6, 0, 0)))] [.inl (.int r), .inl (.int 0), .inr (some (6, 0, 0))]
      refine J_i2l O.mo dL_frameOf_8 ?_
      refine J_last O h6' rfl vp00 (kj := 0) (by decide) dL_frameOf_9 ?_
      refine J_goto O.mo (tgt := 17) dL_frameOf_10 (by decide) ?_
      refine J_iconst O.mo (v := lwC [1] (.inl r : Int32 ⊕ Nat)) dL_frameOf_17 (by show Int32.ofInt 0 = 0; decide) ?_
      exact hE _ _ dL_frameOf_18
set_option maxHeartbeats 4000000 in
set_option maxRecDepth 100000 in
theorem c_L_used {l : Launch} (hfl : l.stackTraces = false) {E : EE} {κ κ' : K} {a1 : Int32} (h0 : PC 10 E 4 0 0) (h6 : liveC E 6 0 0 = true) {rs : Int32 ⊕ Nat} (h : f_X10_used E κ a1 = some (κ', rs)) (he : ∀ e, rs = .inr e → e ∈ ([1] : List Nat)) : ConW l yL_used cL_used 4 (some .int) [(0, 9, 12, 13)] 9 145 [.inr (some (4, 0, 0)), .inl (.int a1), .inr (some (6, 0, 0))] (E, κ) (E, (lwS κ' rs)) (some (.inl (.int (lwC [1] rs)))) := by
  refine ConW_of hfl (by decide) (Nat.le_of_ble_eq_true rfl) rfl ⟨.int, rfl, rfl⟩ ?_
  intro X B g O hKP hmL hxt hE
  change J X B (E, κ) 0 [(0, .inr (some (4, 0, 0))), (1, .inl (.int a1)), (2, .inr (some (6, 0, 0)))] []
  have hO : Stab E (.inr (some (6, 0, 0))) := ⟨h6, by decide⟩
  have h6' := h6
  refine J_aload_n O.mo dL_used_0 2 rfl ?_
  refine J_iconst O.mo (v := 0) dL_used_1 (by decide) ?_
  refine J_aload_n O.mo dL_used_2 0 rfl ?_
  refine J_iload_n O.mo dL_used_3 1 rfl ?_
  refine J_callVXH O hKP (as := [.inl (.int a1)]) (rest := [.inl (.int 0), .inr (some (6, 0, 0))]) (c_X10_used hfl h0 h) rfl (kd0 := 10) (k10_0 h0) (l10_0 h0) (T := TX10) (N := 4) rfl (by decide) mw915 mw916 mw917 mw320 mw918 pd_X10_used rfl (by decide) rfl (Nat.le_of_ble_eq_true rfl) (sl_p (s10_0 h0) (sl_v (sl_p hO sl_0))) (st_v (st_p hO st_0)) dL_used_4 hxt (fun s hs => ?_) (fun v hv => ?_)
  · cases rs with
    | inl r => cases hs
    | inr e =>
      have hs' : exN e = s := by injection hs
      have he1 := he e rfl
      clear he
      simp only [List.mem_cons, List.not_mem_nil, or_false] at he1
      subst he1
      subst hs'
      refine ⟨12, ⟨[], ⟨0, 9, 12, 13⟩, [], rfl, fun _ h => absurd h List.not_mem_nil, rfl, by decide, ⟨_, mw825, mw826⟩, rfl⟩, fun q => ?_⟩
      refine J_astore_nR O.mo dL_used_12 (by rw [hmL]; decide) rfl rfl ?_
      refine J_iconst O.mo (v := lwC [1] (.inr 1 : Int32 ⊕ Nat)) dL_used_13 (by decide) ?_
      exact hE _ _ dL_used_14
  · cases rs with
    | inr e => cases hv
    | inl r =>
      have hv' : some (.inl (.int r)) = v := by injection hv
      subst hv'
      show J X B (E, κ') 7 [(0, .inr (some (4, 0, 0))), (1, .inl (.int a1)), (2, .inr (some (6, 0, 0)))] [.inl (.int r), .inl (.int 0), .inr (some (6, 0, 0))]
      refine J_i2l O.mo dL_used_7 ?_
      refine J_last O h6' rfl vp00 (kj := 0) (by decide) dL_used_8 ?_
      refine J_goto O.mo (tgt := 15) dL_used_9 (by decide) ?_
      refine J_iconst O.mo (v := lwC [1] (.inl r : Int32 ⊕ Nat)) dL_used_15 (by show Int32.ofInt 0 = 0; decide) ?_
      exact hE _ _ dL_used_16
set_option maxHeartbeats 4000000 in
set_option maxRecDepth 100000 in
theorem c_L_exits {l : Launch} (hfl : l.stackTraces = false) {E : EE} {κ κ' : K} {a1 a2 : Int32} (h0 : PC 10 E 4 0 0) (h6 : liveC E 6 0 0 = true) {rs : Int32 ⊕ Nat} (h : f_X10_exits E κ a1 a2 = some (κ', rs)) (he : ∀ e, rs = .inr e → e ∈ ([1, 2] : List Nat)) : ConW l yL_exits cL_exits 5 (some .int) [(0, 10, 13, 13), (0, 10, 17, 15)] 9 147 [.inr (some (4, 0, 0)), .inl (.int a1), .inl (.int a2), .inr (some (6, 0, 0))] (E, κ) (E, (lwS κ' rs)) (some (.inl (.int (lwC [1, 2] rs)))) := by
  refine ConW_of hfl (by decide) (Nat.le_of_ble_eq_true rfl) rfl ⟨.int, rfl, rfl⟩ ?_
  intro X B g O hKP hmL hxt hE
  change J X B (E, κ) 0 [(0, .inr (some (4, 0, 0))), (1, .inl (.int a1)), (2, .inl (.int a2)), (3, .inr (some (6, 0, 0)))] []
  have hO : Stab E (.inr (some (6, 0, 0))) := ⟨h6, by decide⟩
  have h6' := h6
  refine J_aload_n O.mo dL_exits_0 3 rfl ?_
  refine J_iconst O.mo (v := 0) dL_exits_1 (by decide) ?_
  refine J_aload_n O.mo dL_exits_2 0 rfl ?_
  refine J_iload_n O.mo dL_exits_3 1 rfl ?_
  refine J_iload_n O.mo dL_exits_4 2 rfl ?_
  refine J_callVXH O hKP (as := [.inl (.int a1), .inl (.int a2)]) (rest := [.inl (.int 0), .inr (some (6, 0, 0))]) (c_X10_exits hfl h0 h) rfl (kd0 := 10) (k10_0 h0) (l10_0 h0) (T := TX10) (N := 4) rfl (by decide) mw919 mw920 mw921 mw320 mw922 pd_X10_exits rfl (by decide) rfl (Nat.le_of_ble_eq_true rfl) (sl_p (s10_0 h0) (sl_v (sl_v (sl_p hO sl_0)))) (st_v (st_p hO st_0)) dL_exits_5 hxt (fun s hs => ?_) (fun v hv => ?_)
  · cases rs with
    | inl r => cases hs
    | inr e =>
      have hs' : exN e = s := by injection hs
      have he1 := he e rfl
      clear he
      simp only [List.mem_cons, List.not_mem_nil, or_false] at he1
      rcases he1 with rfl | rfl
      · subst hs'
        refine ⟨13, ⟨[], ⟨0, 10, 13, 13⟩, [⟨0, 10, 17, 15⟩], rfl, fun _ h => absurd h List.not_mem_nil, rfl, by decide, ⟨_, mw825, mw826⟩, rfl⟩, fun q => ?_⟩
        refine J_astoreR O.mo dL_exits_13 (by rw [hmL]; decide) rfl rfl ?_
        refine J_iconst O.mo (v := lwC [1, 2] (.inr 1 : Int32 ⊕ Nat)) dL_exits_15 (by decide) ?_
        exact hE _ _ dL_exits_16
      · subst hs'
        refine ⟨17, ⟨[⟨0, 10, 13, 13⟩], ⟨0, 10, 17, 15⟩, [], rfl, List.forall_mem_cons.mpr ⟨⟨by decide, _, mw825, List.mem_of_getElem? (i := 0) rfl⟩, fun _ h => absurd h List.not_mem_nil⟩, rfl, by decide, ⟨_, mw827, mw828⟩, rfl⟩, fun q => ?_⟩
        refine J_astoreR O.mo dL_exits_17 (by rw [hmL]; decide) rfl rfl ?_
        refine J_iconst O.mo (v := lwC [1, 2] (.inr 2 : Int32 ⊕ Nat)) dL_exits_19 (by decide) ?_
        exact hE _ _ dL_exits_20
  · cases rs with
    | inr e => cases hv
    | inl r =>
      have hv' : some (.inl (.int r)) = v := by injection hv
      subst hv'
      show J X B (E, κ') 8 [(0, .inr (some (4, 0, 0))), (1, .inl (.int a1)), (2, .inl (.int a2)), (3, .inr (some (6, 0, 0)))] [.inl (.int r), .inl (.int 0), .inr (some (6, 0, 0))]
      refine J_i2l O.mo dL_exits_8 ?_
      refine J_last O h6' rfl vp00 (kj := 0) (by decide) dL_exits_9 ?_
      refine J_goto O.mo (tgt := 21) dL_exits_10 (by decide) ?_
      refine J_iconst O.mo (v := lwC [1, 2] (.inl r : Int32 ⊕ Nat)) dL_exits_21 (by show Int32.ofInt 0 = 0; decide) ?_
      exact hE _ _ dL_exits_22
set_option maxHeartbeats 4000000 in
set_option maxRecDepth 100000 in
theorem c_L_out {l : Launch} (hfl : l.stackTraces = false) {E : EE} {κ κ' : K} {a1 : Int32} (h0 : PC 10 E 4 0 0) (h6 : liveC E 6 0 0 = true) {rs : Int32 ⊕ Nat} (h : f_X10_out E κ a1 = some (κ', rs)) (he : ∀ e, rs = .inr e → e ∈ ([1] : List Nat)) : ConW l yL_out cL_out 4 (some .int) [(0, 9, 12, 13)] 9 145 [.inr (some (4, 0, 0)), .inl (.int a1), .inr (some (6, 0, 0))] (E, κ) (E, (lwS κ' rs)) (some (.inl (.int (lwC [1] rs)))) := by
  refine ConW_of hfl (by decide) (Nat.le_of_ble_eq_true rfl) rfl ⟨.int, rfl, rfl⟩ ?_
  intro X B g O hKP hmL hxt hE
  change J X B (E, κ) 0 [(0, .inr (some (4, 0, 0))), (1, .inl (.int a1)), (2, .inr (some (6, 0, 0)))] []
  have hO : Stab E (.inr (some (6, 0, 0))) := ⟨h6, by decide⟩
  have h6' := h6
  refine J_aload_n O.mo dL_out_0 2 rfl ?_
  refine J_iconst O.mo (v := 0) dL_out_1 (by decide) ?_
  refine J_aload_n O.mo dL_out_2 0 rfl ?_
  refine J_iload_n O.mo dL_out_3 1 rfl ?_
  refine J_callVXH O hKP (as := [.inl (.int a1)]) (rest := [.inl (.int 0), .inr (some (6, 0, 0))]) (c_X10_out hfl h0 h) rfl (kd0 := 10) (k10_0 h0) (l10_0 h0) (T := TX10) (N := 4) rfl (by decide) mw923 mw924 mw925 mw320 mw926 pd_X10_out rfl (by decide) rfl (Nat.le_of_ble_eq_true rfl) (sl_p (s10_0 h0) (sl_v (sl_p hO sl_0))) (st_v (st_p hO st_0)) dL_out_4 hxt (fun s hs => ?_) (fun v hv => ?_)
  · cases rs with
    | inl r => cases hs
    | inr e =>
      have hs' : exN e = s := by injection hs
      have he1 := he e rfl
      clear he
      simp only [List.mem_cons, List.not_mem_nil, or_false] at he1
      subst he1
      subst hs'
      refine ⟨12, ⟨[], ⟨0, 9, 12, 13⟩, [], rfl, fun _ h => absurd h List.not_mem_nil, rfl, by decide, ⟨_, mw825, mw826⟩, rfl⟩, fun q => ?_⟩
      refine J_astore_nR O.mo dL_out_12 (by rw [hmL]; decide) rfl rfl ?_
      refine J_iconst O.mo (v := lwC [1] (.inr 1 : Int32 ⊕ Nat)) dL_out_13 (by decide) ?_
      exact hE _ _ dL_out_14
  · cases rs with
    | inr e => cases hv
    | inl r =>
      have hv' : some (.inl (.int r)) = v := by injection hv
      subst hv'
      show J X B (E, κ') 7 [(0, .inr (some (4, 0, 0))), (1, .inl (.int a1)), (2, .inr (some (6, 0, 0)))] [.inl (.int r), .inl (.int 0), .inr (some (6, 0, 0))]
      refine J_i2l O.mo dL_out_7 ?_
      refine J_last O h6' rfl vp00 (kj := 0) (by decide) dL_out_8 ?_
      refine J_goto O.mo (tgt := 15) dL_out_9 (by decide) ?_
      refine J_iconst O.mo (v := lwC [1] (.inl r : Int32 ⊕ Nat)) dL_out_15 (by show Int32.ofInt 0 = 0; decide) ?_
      exact hE _ _ dL_out_16
set_option maxHeartbeats 4000000 in
set_option maxRecDepth 100000 in
theorem c_L_outAt {l : Launch} (hfl : l.stackTraces = false) {E : EE} {κ κ' : K} {a1 a2 : Int32} (h0 : PC 10 E 4 0 0) (h6 : liveC E 6 0 0 = true) {rs : Int32 ⊕ Nat} (h : f_X10_outAt E κ a1 a2 = some (κ', rs)) (he : ∀ e, rs = .inr e → e ∈ ([1] : List Nat)) : ConW l yL_outAt cL_outAt 5 (some .int) [(0, 10, 13, 13)] 9 147 [.inr (some (4, 0, 0)), .inl (.int a1), .inl (.int a2), .inr (some (6, 0, 0))] (E, κ) (E, (lwS κ' rs)) (some (.inl (.int (lwC [1] rs)))) := by
  refine ConW_of hfl (by decide) (Nat.le_of_ble_eq_true rfl) rfl ⟨.int, rfl, rfl⟩ ?_
  intro X B g O hKP hmL hxt hE
  change J X B (E, κ) 0 [(0, .inr (some (4, 0, 0))), (1, .inl (.int a1)), (2, .inl (.int a2)), (3, .inr (some (6, 0, 0)))] []
  have hO : Stab E (.inr (some (6, 0, 0))) := ⟨h6, by decide⟩
  have h6' := h6
  refine J_aload_n O.mo dL_outAt_0 3 rfl ?_
  refine J_iconst O.mo (v := 0) dL_outAt_1 (by decide) ?_
  refine J_aload_n O.mo dL_outAt_2 0 rfl ?_
  refine J_iload_n O.mo dL_outAt_3 1 rfl ?_
  refine J_iload_n O.mo dL_outAt_4 2 rfl ?_
  refine J_callVXH O hKP (as := [.inl (.int a1), .inl (.int a2)]) (rest := [.inl (.int 0), .inr (some (6, 0, 0))]) (c_X10_outAt hfl h0 h) rfl (kd0 := 10) (k10_0 h0) (l10_0 h0) (T := TX10) (N := 4) rfl (by decide) mw927 mw928 mw929 mw320 mw930 pd_X10_outAt rfl (by decide) rfl (Nat.le_of_ble_eq_true rfl) (sl_p (s10_0 h0) (sl_v (sl_v (sl_p hO sl_0)))) (st_v (st_p hO st_0)) dL_outAt_5 hxt (fun s hs => ?_) (fun v hv => ?_)
  · cases rs with
    | inl r => cases hs
    | inr e =>
      have hs' : exN e = s := by injection hs
      have he1 := he e rfl
      clear he
      simp only [List.mem_cons, List.not_mem_nil, or_false] at he1
      subst he1
      subst hs'
      refine ⟨13, ⟨[], ⟨0, 10, 13, 13⟩, [], rfl, fun _ h => absurd h List.not_mem_nil, rfl, by decide, ⟨_, mw825, mw826⟩, rfl⟩, fun q => ?_⟩
      refine J_astoreR O.mo dL_outAt_13 (by rw [hmL]; decide) rfl rfl ?_
      refine J_iconst O.mo (v := lwC [1] (.inr 1 : Int32 ⊕ Nat)) dL_outAt_15 (by decide) ?_
      exact hE _ _ dL_outAt_16
  · cases rs with
    | inr e => cases hv
    | inl r =>
      have hv' : some (.inl (.int r)) = v := by injection hv
      subst hv'
      show J X B (E, κ') 8 [(0, .inr (some (4, 0, 0))), (1, .inl (.int a1)), (2, .inl (.int a2)), (3, .inr (some (6, 0, 0)))] [.inl (.int r), .inl (.int 0), .inr (some (6, 0, 0))]
      refine J_i2l O.mo dL_outAt_8 ?_
      refine J_last O h6' rfl vp00 (kj := 0) (by decide) dL_outAt_9 ?_
      refine J_goto O.mo (tgt := 17) dL_outAt_10 (by decide) ?_
      refine J_iconst O.mo (v := lwC [1] (.inl r : Int32 ⊕ Nat)) dL_outAt_17 (by show Int32.ofInt 0 = 0; decide) ?_
      exact hE _ _ dL_outAt_18
set_option maxHeartbeats 4000000 in
set_option maxRecDepth 100000 in
theorem c_L_held {l : Launch} (hfl : l.stackTraces = false) {E : EE} {κ κ' : K} {a1 : Int32} (h0 : PC 10 E 4 0 0) (h6 : liveC E 6 0 0 = true) {rs : Int32 ⊕ Nat} (h : f_X10_held E κ a1 = some (κ', rs)) (he : ∀ e, rs = .inr e → e ∈ ([1] : List Nat)) : ConW l yL_held cL_held 4 (some .int) [(0, 9, 12, 13)] 9 145 [.inr (some (4, 0, 0)), .inl (.int a1), .inr (some (6, 0, 0))] (E, κ) (E, (lwS κ' rs)) (some (.inl (.int (lwC [1] rs)))) := by
  refine ConW_of hfl (by decide) (Nat.le_of_ble_eq_true rfl) rfl ⟨.int, rfl, rfl⟩ ?_
  intro X B g O hKP hmL hxt hE
  change J X B (E, κ) 0 [(0, .inr (some (4, 0, 0))), (1, .inl (.int a1)), (2, .inr (some (6, 0, 0)))] []
  have hO : Stab E (.inr (some (6, 0, 0))) := ⟨h6, by decide⟩
  have h6' := h6
  refine J_aload_n O.mo dL_held_0 2 rfl ?_
  refine J_iconst O.mo (v := 0) dL_held_1 (by decide) ?_
  refine J_aload_n O.mo dL_held_2 0 rfl ?_
  refine J_iload_n O.mo dL_held_3 1 rfl ?_
  refine J_callVXH O hKP (as := [.inl (.int a1)]) (rest := [.inl (.int 0), .inr (some (6, 0, 0))]) (c_X10_held hfl h0 h) rfl (kd0 := 10) (k10_0 h0) (l10_0 h0) (T := TX10) (N := 4) rfl (by decide) mw931 mw932 mw933 mw320 mw934 pd_X10_held rfl (by decide) rfl (Nat.le_of_ble_eq_true rfl) (sl_p (s10_0 h0) (sl_v (sl_p hO sl_0))) (st_v (st_p hO st_0)) dL_held_4 hxt (fun s hs => ?_) (fun v hv => ?_)
  · cases rs with
    | inl r => cases hs
    | inr e =>
      have hs' : exN e = s := by injection hs
      have he1 := he e rfl
      clear he
      simp only [List.mem_cons, List.not_mem_nil, or_false] at he1
      subst he1
      subst hs'
      refine ⟨12, ⟨[], ⟨0, 9, 12, 13⟩, [], rfl, fun _ h => absurd h List.not_mem_nil, rfl, by decide, ⟨_, mw825, mw826⟩, rfl⟩, fun q => ?_⟩
      refine J_astore_nR O.mo dL_held_12 (by rw [hmL]; decide) rfl rfl ?_
      refine J_iconst O.mo (v := lwC [1] (.inr 1 : Int32 ⊕ Nat)) dL_held_13 (by decide) ?_
      exact hE _ _ dL_held_14
  · cases rs with
    | inr e => cases hv
    | inl r =>
      have hv' : some (.inl (.int r)) = v := by injection hv
      subst hv'
      show J X B (E, κ') 7 [(0, .inr (some (4, 0, 0))), (1, .inl (.int a1)), (2, .inr (some (6, 0, 0)))] [.inl (.int r), .inl (.int 0), .inr (some (6, 0, 0))]
      refine J_i2l O.mo dL_held_7 ?_
      refine J_last O h6' rfl vp00 (kj := 0) (by decide) dL_held_8 ?_
      refine J_goto O.mo (tgt := 15) dL_held_9 (by decide) ?_
      refine J_iconst O.mo (v := lwC [1] (.inl r : Int32 ⊕ Nat)) dL_held_15 (by show Int32.ofInt 0 = 0; decide) ?_
      exact hE _ _ dL_held_16
set_option maxHeartbeats 4000000 in
set_option maxRecDepth 100000 in
theorem c_L_stored {l : Launch} (hfl : l.stackTraces = false) {E : EE} {κ κ' : K} {a1 : Int32} (h0 : PC 10 E 4 0 0) (h6 : liveC E 6 0 0 = true) {rs : Int32 ⊕ Nat} (h : f_X10_stored E κ a1 = some (κ', rs)) (he : ∀ e, rs = .inr e → e ∈ ([1] : List Nat)) : ConW l yL_stored cL_stored 4 (some .int) [(0, 9, 12, 13)] 9 145 [.inr (some (4, 0, 0)), .inl (.int a1), .inr (some (6, 0, 0))] (E, κ) (E, (lwS κ' rs)) (some (.inl (.int (lwC [1] rs)))) := by
  refine ConW_of hfl (by decide) (Nat.le_of_ble_eq_true rfl) rfl ⟨.int, rfl, rfl⟩ ?_
  intro X B g O hKP hmL hxt hE
  change J X B (E, κ) 0 [(0, .inr (some (4, 0, 0))), (1, .inl (.int a1)), (2, .inr (some (6, 0, 0)))] []
  have hO : Stab E (.inr (some (6, 0, 0))) := ⟨h6, by decide⟩
  have h6' := h6
  refine J_aload_n O.mo dL_stored_0 2 rfl ?_
  refine J_iconst O.mo (v := 0) dL_stored_1 (by decide) ?_
  refine J_aload_n O.mo dL_stored_2 0 rfl ?_
  refine J_iload_n O.mo dL_stored_3 1 rfl ?_
  refine J_callVXH O hKP (as := [.inl (.int a1)]) (rest := [.inl (.int 0), .inr (some (6, 0, 0))]) (c_X10_stored hfl h0 h) rfl (kd0 := 10) (k10_0 h0) (l10_0 h0) (T := TX10) (N := 4) rfl (by decide) mw935 mw936 mw937 mw320 mw938 pd_X10_stored rfl (by decide) rfl (Nat.le_of_ble_eq_true rfl) (sl_p (s10_0 h0) (sl_v (sl_p hO sl_0))) (st_v (st_p hO st_0)) dL_stored_4 hxt (fun s hs => ?_) (fun v hv => ?_)
  · cases rs with
    | inl r => cases hs
    | inr e =>
      have hs' : exN e = s := by injection hs
      have he1 := he e rfl
      clear he
      simp only [List.mem_cons, List.not_mem_nil, or_false] at he1
      subst he1
      subst hs'
      refine ⟨12, ⟨[], ⟨0, 9, 12, 13⟩, [], rfl, fun _ h => absurd h List.not_mem_nil, rfl, by decide, ⟨_, mw825, mw826⟩, rfl⟩, fun q => ?_⟩
      refine J_astore_nR O.mo dL_stored_12 (by rw [hmL]; decide) rfl rfl ?_
      refine J_iconst O.mo (v := lwC [1] (.inr 1 : Int32 ⊕ Nat)) dL_stored_13 (by decide) ?_
      exact hE _ _ dL_stored_14
  · cases rs with
    | inr e => cases hv
    | inl r =>
      have hv' : some (.inl (.int r)) = v := by injection hv
      subst hv'
      show J X B (E, κ') 7 [(0, .inr (some (4, 0, 0))), (1, .inl (.int a1)), (2, .inr (some (6, 0, 0)))] [.inl (.int r), .inl (.int 0), .inr (some (6, 0, 0))]
      refine J_i2l O.mo dL_stored_7 ?_
      refine J_last O h6' rfl vp00 (kj := 0) (by decide) dL_stored_8 ?_
      refine J_goto O.mo (tgt := 15) dL_stored_9 (by decide) ?_
      refine J_iconst O.mo (v := lwC [1] (.inl r : Int32 ⊕ Nat)) dL_stored_15 (by show Int32.ofInt 0 = 0; decide) ?_
      exact hE _ _ dL_stored_16
set_option maxHeartbeats 4000000 in
set_option maxRecDepth 100000 in
theorem c_L_isAsPlain {l : Launch} (hfl : l.stackTraces = false) {E E' : EE} {κ κ' : K} {a1 : Int32} (h0 : PC 10 E 4 0 0) (h6 : liveC E 6 0 0 = true) (h6' : liveC E' 6 0 0 = true) (hH : E.2.2.2.1 = 1) (hRN : rawN E) {rs : Int32 ⊕ Nat} (h : f_X10_isAsPlain E κ a1 = some ((E', κ'), rs)) (he : ∀ e, rs = .inr e → e ∈ ([1] : List Nat)) : ConW l yL_isAsPlain cL_isAsPlain 4 (some .int) [(0, 16, 19, 13)] 9 146 [.inr (some (4, 0, 0)), .inl (.int a1), .inr (some (6, 0, 0))] (E, κ) (E', (lwB κ' rs)) (some (.inl (.int (lwC [1] rs)))) := by
  refine ConW_of hfl (by decide) (Nat.le_of_ble_eq_true rfl) rfl ⟨.int, rfl, rfl⟩ ?_
  intro X B g O hKP hmL hxt hE
  change J X B (E, κ) 0 [(0, .inr (some (4, 0, 0))), (1, .inl (.int a1)), (2, .inr (some (6, 0, 0)))] []
  have hO : Stab E (.inr (some (6, 0, 0))) := ⟨h6, by decide⟩
  refine J_aload_n O.mo dL_isAsPlain_0 2 rfl ?_
  refine J_iconst O.mo (v := 0) dL_isAsPlain_1 (by decide) ?_
  refine J_aload_n O.mo dL_isAsPlain_2 0 rfl ?_
  refine J_iload_n O.mo dL_isAsPlain_3 1 rfl ?_
  refine J_callVXH O hKP (as := [.inl (.int a1)]) (rest := [.inl (.int 0), .inr (some (6, 0, 0))]) (c_X10_isAsPlain hfl h0 hH hRN h) rfl (kd0 := 10) (k10_0 h0) (l10_0 h0) (T := TX10) (N := 4) rfl (by decide) mw939 mw940 mw941 mw320 mw942 pd_X10_isAsPlain rfl (by decide) rfl (Nat.le_of_ble_eq_true rfl) (sl_p (s10_0 h0) (sl_v (sl_p hO sl_0))) (st_v (st_p hO st_0)) dL_isAsPlain_4 hxt (fun s hs => ?_) (fun v hv => ?_)
  · cases rs with
    | inl r => cases hs
    | inr e =>
      have hs' : exN e = s := by injection hs
      have he1 := he e rfl
      clear he
      simp only [List.mem_cons, List.not_mem_nil, or_false] at he1
      subst he1
      subst hs'
      refine ⟨19, ⟨[], ⟨0, 16, 19, 13⟩, [], rfl, fun _ h => absurd h List.not_mem_nil, rfl, by decide, ⟨_, mw825, mw826⟩, rfl⟩, fun q => ?_⟩
      refine J_astore_nR O.mo dL_isAsPlain_19 (by rw [hmL]; decide) rfl rfl ?_
      refine J_iconst O.mo (v := lwC [1] (.inr 1 : Int32 ⊕ Nat)) dL_isAsPlain_20 (by decide) ?_
      exact hE _ _ dL_isAsPlain_21
  · cases rs with
    | inr e => cases hv
    | inl r =>
      have hv' : some (.inl (.int r)) = v := by injection hv
      subst hv'
      show J X B (E', κ') 7 [(0, .inr (some (4, 0, 0))), (1, .inl (.int a1)), (2, .inr (some (6, 0, 0)))] [.inl (.int r), .inl (.int 0), .inr (some (6, 0, 0))]
      refine J_if_eq O.mo (tgt := 14) dL_isAsPlain_7 (by decide) (fun hc => ?_) (fun hc => ?_)
      · refine J_lconst O.mo (v := (bI r).toInt64) dL_isAsPlain_14 (by rw [show bI r = 0 from if_pos hc]; decide) ?_
        refine J_last O h6' rfl vp00 (kj := 0) (by decide) dL_isAsPlain_15 ?_
        refine J_goto O.mo (tgt := 22) dL_isAsPlain_16 (by decide) ?_
        refine J_iconst O.mo (v := lwC [1] (.inl r : Int32 ⊕ Nat)) dL_isAsPlain_22 (by show Int32.ofInt 0 = 0; decide) ?_
        exact hE _ _ dL_isAsPlain_23
      · refine J_lconst O.mo (v := (bI r).toInt64) dL_isAsPlain_10 (by rw [show bI r = 1 from if_neg hc]; decide) ?_
        refine J_goto O.mo (tgt := 15) dL_isAsPlain_11 (by decide) ?_
        refine J_last O h6' rfl vp00 (kj := 0) (by decide) dL_isAsPlain_15 ?_
        refine J_goto O.mo (tgt := 22) dL_isAsPlain_16 (by decide) ?_
        refine J_iconst O.mo (v := lwC [1] (.inl r : Int32 ⊕ Nat)) dL_isAsPlain_22 (by show Int32.ofInt 0 = 0; decide) ?_
        exact hE _ _ dL_isAsPlain_23
