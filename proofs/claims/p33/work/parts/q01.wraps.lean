set_option maxRecDepth 100000 in
theorem mw643 : Cond.methodLink RL 7 yX10_guest ∈ gwl := gwl_tb 131 rfl rfl
set_option maxRecDepth 100000 in
theorem mw644 : Cond.instanceMethod yX10_guest ∈ gwl := gwl_tb 132 rfl rfl
set_option maxRecDepth 100000 in
theorem mw645 : Cond.selects RX10 yX10_guest yX10_guest ∈ gwl := gwl_tb 133 rfl rfl
set_option maxRecDepth 100000 in
theorem mw646 : Cond.code yX10_guest cX10_guest 5 (some .int) ∈ gwl := gwl_tb 134 rfl rfl
set_option maxRecDepth 100000 in
theorem mw647 : Cond.classLink RL 13 "java/lang/IndexOutOfBoundsException" ∈ gwl := gwl_tb 128 rfl rfl
set_option maxRecDepth 100000 in
theorem mw648 : Cond.castable "java/lang/IndexOutOfBoundsException" "java/lang/IndexOutOfBoundsException" ∈ nwl := nwl_tb 144 rfl rfl
set_option maxRecDepth 100000 in
theorem mw649 : Cond.constant RL 15 (-2000000001) ∈ gwl := gwl_tb 567 rfl rfl
set_option maxRecDepth 100000 in
theorem mw650 : Cond.classLink RL 16 "java/lang/IllegalArgumentException" ∈ gwl := gwl_tb 129 rfl rfl
set_option maxRecDepth 100000 in
theorem mw651 : Cond.castable "java/lang/IllegalArgumentException" "java/lang/IllegalArgumentException" ∈ nwl := nwl_tb 212 rfl rfl
set_option maxRecDepth 100000 in
theorem mw652 : Cond.constant RL 18 (-2000000002) ∈ gwl := gwl_tb 568 rfl rfl
set_option maxRecDepth 100000 in
theorem mw653 : Cond.classLink RL 19 "java/lang/IllegalStateException" ∈ gwl := gwl_tb 130 rfl rfl
set_option maxRecDepth 100000 in
theorem mw654 : Cond.castable "java/lang/IllegalStateException" "java/lang/IllegalStateException" ∈ nwl := nwl_tb 232 rfl rfl
set_option maxRecDepth 100000 in
theorem mw655 : Cond.constant RL 21 (-2000000003) ∈ gwl := gwl_tb 569 rfl rfl
set_option maxRecDepth 100000 in
theorem mw656 : Cond.methodLink RL 22 yX10_instruct ∈ gwl := gwl_tb 573 rfl rfl
set_option maxRecDepth 100000 in
theorem mw657 : Cond.instanceMethod yX10_instruct ∈ gwl := gwl_tb 574 rfl rfl
set_option maxRecDepth 100000 in
theorem mw658 : Cond.selects RX10 yX10_instruct yX10_instruct ∈ gwl := gwl_tb 575 rfl rfl
set_option maxRecDepth 100000 in
theorem mw659 : Cond.code yX10_instruct cX10_instruct 6 (some .int) ∈ gwl := gwl_tb 576 rfl rfl
set_option maxRecDepth 100000 in
theorem mw660 : Cond.methodLink RL 26 yX10_pause ∈ gwl := gwl_tb 611 rfl rfl
set_option maxRecDepth 100000 in
theorem mw661 : Cond.instanceMethod yX10_pause ∈ gwl := gwl_tb 612 rfl rfl
set_option maxRecDepth 100000 in
theorem mw662 : Cond.selects RX10 yX10_pause yX10_pause ∈ gwl := gwl_tb 613 rfl rfl
set_option maxRecDepth 100000 in
theorem mw663 : Cond.code yX10_pause cX10_pause 5 (some .boolean) ∈ gwl := gwl_tb 614 rfl rfl
set_option maxRecDepth 100000 in
theorem mw664 : Cond.methodLink RL 30 yX10_scale ∈ gwl := gwl_tb 618 rfl rfl
set_option maxRecDepth 100000 in
theorem mw665 : Cond.instanceMethod yX10_scale ∈ gwl := gwl_tb 619 rfl rfl
set_option maxRecDepth 100000 in
theorem mw666 : Cond.selects RX10 yX10_scale yX10_scale ∈ gwl := gwl_tb 620 rfl rfl
set_option maxRecDepth 100000 in
theorem mw667 : Cond.code yX10_scale cX10_scale 5 (some .int) ∈ gwl := gwl_tb 621 rfl rfl
set_option maxRecDepth 100000 in
theorem mw668 : Cond.methodLink RL 34 yX10_input ∈ gwl := gwl_tb 626 rfl rfl
set_option maxRecDepth 100000 in
theorem mw669 : Cond.instanceMethod yX10_input ∈ gwl := gwl_tb 627 rfl rfl
set_option maxRecDepth 100000 in
theorem mw670 : Cond.selects RX10 yX10_input yX10_input ∈ gwl := gwl_tb 628 rfl rfl
set_option maxRecDepth 100000 in
theorem mw671 : Cond.code yX10_input cX10_input 4 (some .int) ∈ gwl := gwl_tb 629 rfl rfl
set_option maxRecDepth 100000 in
theorem mw672 : Cond.methodLink RL 37 yX10_send ∈ gwl := gwl_tb 649 rfl rfl
set_option maxRecDepth 100000 in
theorem mw673 : Cond.instanceMethod yX10_send ∈ gwl := gwl_tb 650 rfl rfl
set_option maxRecDepth 100000 in
theorem mw674 : Cond.selects RX10 yX10_send yX10_send ∈ gwl := gwl_tb 651 rfl rfl
set_option maxRecDepth 100000 in
theorem mw675 : Cond.code yX10_send cX10_send 4 (some .boolean) ∈ gwl := gwl_tb 652 rfl rfl
set_option maxRecDepth 100000 in
theorem mw676 : Cond.methodLink RL 41 yX10_tick ∈ gwl := gwl_tb 669 rfl rfl
set_option maxRecDepth 100000 in
theorem mw677 : Cond.instanceMethod yX10_tick ∈ gwl := gwl_tb 670 rfl rfl
set_option maxRecDepth 100000 in
theorem mw678 : Cond.selects RX10 yX10_tick yX10_tick ∈ gwl := gwl_tb 671 rfl rfl
set_option maxRecDepth 100000 in
theorem mw679 : Cond.code yX10_tick cX10_tick 7 (some .int) ∈ gwl := gwl_tb 672 rfl rfl
set_option maxRecDepth 100000 in
theorem mw680 : Cond.methodLink RL 45 yX10_share ∈ gwl := gwl_tb 852 rfl rfl
set_option maxRecDepth 100000 in
theorem mw681 : Cond.instanceMethod yX10_share ∈ gwl := gwl_tb 853 rfl rfl
set_option maxRecDepth 100000 in
theorem mw682 : Cond.selects RX10 yX10_share yX10_share ∈ gwl := gwl_tb 854 rfl rfl
set_option maxRecDepth 100000 in
theorem mw683 : Cond.code yX10_share cX10_share 6 (some .int) ∈ gwl := gwl_tb 855 rfl rfl
set_option maxRecDepth 100000 in
theorem mw684 : Cond.methodLink RL 48 yX10_move ∈ gwl := gwl_tb 875 rfl rfl
set_option maxRecDepth 100000 in
theorem mw685 : Cond.instanceMethod yX10_move ∈ gwl := gwl_tb 876 rfl rfl
set_option maxRecDepth 100000 in
theorem mw686 : Cond.selects RX10 yX10_move yX10_move ∈ gwl := gwl_tb 877 rfl rfl
set_option maxRecDepth 100000 in
theorem mw687 : Cond.code yX10_move cX10_move 3 (some .int) ∈ gwl := gwl_tb 878 rfl rfl
set_option maxRecDepth 100000 in
theorem mw688 : Cond.methodLink RL 51 yX10_round ∈ gwl := gwl_tb 898 rfl rfl
set_option maxRecDepth 100000 in
theorem mw689 : Cond.instanceMethod yX10_round ∈ gwl := gwl_tb 899 rfl rfl
set_option maxRecDepth 100000 in
theorem mw690 : Cond.selects RX10 yX10_round yX10_round ∈ gwl := gwl_tb 900 rfl rfl
set_option maxRecDepth 100000 in
theorem mw691 : Cond.code yX10_round cX10_round 4 (some .int) ∈ gwl := gwl_tb 901 rfl rfl
set_option maxRecDepth 100000 in
theorem mw692 : Cond.methodLink RL 54 yX10_land ∈ gwl := gwl_tb 911 rfl rfl
set_option maxRecDepth 100000 in
theorem mw693 : Cond.instanceMethod yX10_land ∈ gwl := gwl_tb 912 rfl rfl
set_option maxRecDepth 100000 in
theorem mw694 : Cond.selects RX10 yX10_land yX10_land ∈ gwl := gwl_tb 913 rfl rfl
set_option maxRecDepth 100000 in
theorem mw695 : Cond.code yX10_land cX10_land 5 (some .int) ∈ gwl := gwl_tb 914 rfl rfl
set_option maxRecDepth 100000 in
theorem mw696 : Cond.methodLink RL 58 yX10_snapshot ∈ gwl := gwl_tb 922 rfl rfl
set_option maxRecDepth 100000 in
theorem mw697 : Cond.instanceMethod yX10_snapshot ∈ gwl := gwl_tb 923 rfl rfl
set_option maxRecDepth 100000 in
theorem mw698 : Cond.selects RX10 yX10_snapshot yX10_snapshot ∈ gwl := gwl_tb 924 rfl rfl
set_option maxRecDepth 100000 in
theorem mw699 : Cond.code yX10_snapshot cX10_snapshot 4 (some .int) ∈ gwl := gwl_tb 925 rfl rfl
set_option maxRecDepth 100000 in
theorem mw700 : Cond.methodLink RL 61 yX10_restore ∈ gwl := gwl_tb 969 rfl rfl
set_option maxRecDepth 100000 in
theorem mw701 : Cond.instanceMethod yX10_restore ∈ gwl := gwl_tb 970 rfl rfl
set_option maxRecDepth 100000 in
theorem mw702 : Cond.selects RX10 yX10_restore yX10_restore ∈ gwl := gwl_tb 971 rfl rfl
set_option maxRecDepth 100000 in
theorem mw703 : Cond.code yX10_restore cX10_restore 5 (some .int) ∈ gwl := gwl_tb 972 rfl rfl
set_option maxRecDepth 100000 in
theorem mw704 : Cond.methodLink RL 64 yX10_follow ∈ gwl := gwl_tb 992 rfl rfl
set_option maxRecDepth 100000 in
theorem mw705 : Cond.instanceMethod yX10_follow ∈ gwl := gwl_tb 993 rfl rfl
set_option maxRecDepth 100000 in
theorem mw706 : Cond.selects RX10 yX10_follow yX10_follow ∈ gwl := gwl_tb 994 rfl rfl
set_option maxRecDepth 100000 in
theorem mw707 : Cond.code yX10_follow cX10_follow 5 (some .boolean) ∈ gwl := gwl_tb 995 rfl rfl
set_option maxRecDepth 100000 in
theorem mw708 : Cond.methodLink RL 67 yX10_step ∈ gwl := gwl_tb 1014 rfl rfl
set_option maxRecDepth 100000 in
theorem mw709 : Cond.instanceMethod yX10_step ∈ gwl := gwl_tb 1015 rfl rfl
set_option maxRecDepth 100000 in
theorem mw710 : Cond.selects RX10 yX10_step yX10_step ∈ gwl := gwl_tb 1016 rfl rfl
set_option maxRecDepth 100000 in
theorem mw711 : Cond.code yX10_step cX10_step 3 (some .int) ∈ gwl := gwl_tb 1017 rfl rfl
set_option maxRecDepth 100000 in
theorem mw712 : Cond.methodLink RL 70 yX10_fail ∈ gwl := gwl_tb 1022 rfl rfl
set_option maxRecDepth 100000 in
theorem mw713 : Cond.instanceMethod yX10_fail ∈ gwl := gwl_tb 1023 rfl rfl
set_option maxRecDepth 100000 in
theorem mw714 : Cond.selects RX10 yX10_fail yX10_fail ∈ gwl := gwl_tb 1024 rfl rfl
set_option maxRecDepth 100000 in
theorem mw715 : Cond.code yX10_fail cX10_fail 7 (some .int) ∈ gwl := gwl_tb 1025 rfl rfl
set_option maxRecDepth 100000 in
theorem mw716 : Cond.methodLink RL 73 yX10_mend ∈ gwl := gwl_tb 1044 rfl rfl
set_option maxRecDepth 100000 in
theorem mw717 : Cond.instanceMethod yX10_mend ∈ gwl := gwl_tb 1045 rfl rfl
set_option maxRecDepth 100000 in
theorem mw718 : Cond.selects RX10 yX10_mend yX10_mend ∈ gwl := gwl_tb 1046 rfl rfl
set_option maxRecDepth 100000 in
theorem mw719 : Cond.code yX10_mend cX10_mend 3 none ∈ gwl := gwl_tb 1047 rfl rfl
set_option maxRecDepth 100000 in
theorem mw720 : Cond.methodLink RL 77 yX10_of ∈ gwl := gwl_tb 1052 rfl rfl
set_option maxRecDepth 100000 in
theorem mw721 : Cond.instanceMethod yX10_of ∈ gwl := gwl_tb 1053 rfl rfl
set_option maxRecDepth 100000 in
theorem mw722 : Cond.selects RX10 yX10_of yX10_of ∈ gwl := gwl_tb 1054 rfl rfl
set_option maxRecDepth 100000 in
theorem mw723 : Cond.code yX10_of cX10_of 5 (some .int) ∈ gwl := gwl_tb 1055 rfl rfl
set_option maxRecDepth 100000 in
theorem mw724 : Cond.methodLink RL 80 yX10_register ∈ gwl := gwl_tb 1060 rfl rfl
set_option maxRecDepth 100000 in
theorem mw725 : Cond.instanceMethod yX10_register ∈ gwl := gwl_tb 1061 rfl rfl
set_option maxRecDepth 100000 in
theorem mw726 : Cond.selects RX10 yX10_register yX10_register ∈ gwl := gwl_tb 1062 rfl rfl
set_option maxRecDepth 100000 in
theorem mw727 : Cond.code yX10_register cX10_register 4 (some .int) ∈ gwl := gwl_tb 1063 rfl rfl
set_option maxRecDepth 100000 in
theorem mw728 : Cond.methodLink RL 83 yX10_word ∈ gwl := gwl_tb 1067 rfl rfl
set_option maxRecDepth 100000 in
theorem mw729 : Cond.instanceMethod yX10_word ∈ gwl := gwl_tb 1068 rfl rfl
set_option maxRecDepth 100000 in
theorem mw730 : Cond.selects RX10 yX10_word yX10_word ∈ gwl := gwl_tb 1069 rfl rfl
set_option maxRecDepth 100000 in
theorem mw731 : Cond.code yX10_word cX10_word 5 (some .int) ∈ gwl := gwl_tb 1070 rfl rfl
set_option maxRecDepth 100000 in
theorem mw732 : Cond.methodLink RL 87 yX10_pageOf ∈ gwl := gwl_tb 1074 rfl rfl
set_option maxRecDepth 100000 in
theorem mw733 : Cond.instanceMethod yX10_pageOf ∈ gwl := gwl_tb 1075 rfl rfl
set_option maxRecDepth 100000 in
theorem mw734 : Cond.selects RX10 yX10_pageOf yX10_pageOf ∈ gwl := gwl_tb 1076 rfl rfl
set_option maxRecDepth 100000 in
theorem mw735 : Cond.code yX10_pageOf cX10_pageOf 4 (some .int) ∈ gwl := gwl_tb 1077 rfl rfl
set_option maxRecDepth 100000 in
theorem mw736 : Cond.methodLink RL 90 yX10_frameOf ∈ gwl := gwl_tb 1086 rfl rfl
set_option maxRecDepth 100000 in
theorem mw737 : Cond.instanceMethod yX10_frameOf ∈ gwl := gwl_tb 1087 rfl rfl
set_option maxRecDepth 100000 in
theorem mw738 : Cond.selects RX10 yX10_frameOf yX10_frameOf ∈ gwl := gwl_tb 1088 rfl rfl
set_option maxRecDepth 100000 in
theorem mw739 : Cond.code yX10_frameOf cX10_frameOf 4 (some .int) ∈ gwl := gwl_tb 1089 rfl rfl
set_option maxRecDepth 100000 in
theorem mw740 : Cond.methodLink RL 93 yX10_used ∈ gwl := gwl_tb 1093 rfl rfl
set_option maxRecDepth 100000 in
theorem mw741 : Cond.instanceMethod yX10_used ∈ gwl := gwl_tb 1094 rfl rfl
set_option maxRecDepth 100000 in
theorem mw742 : Cond.selects RX10 yX10_used yX10_used ∈ gwl := gwl_tb 1095 rfl rfl
set_option maxRecDepth 100000 in
theorem mw743 : Cond.code yX10_used cX10_used 2 (some .int) ∈ gwl := gwl_tb 1096 rfl rfl
set_option maxRecDepth 100000 in
theorem mw744 : Cond.methodLink RL 96 yX10_exits ∈ gwl := gwl_tb 1104 rfl rfl
set_option maxRecDepth 100000 in
theorem mw745 : Cond.instanceMethod yX10_exits ∈ gwl := gwl_tb 1105 rfl rfl
set_option maxRecDepth 100000 in
theorem mw746 : Cond.selects RX10 yX10_exits yX10_exits ∈ gwl := gwl_tb 1106 rfl rfl
set_option maxRecDepth 100000 in
theorem mw747 : Cond.code yX10_exits cX10_exits 4 (some .int) ∈ gwl := gwl_tb 1107 rfl rfl
set_option maxRecDepth 100000 in
theorem mw748 : Cond.methodLink RL 99 yX10_out ∈ gwl := gwl_tb 1112 rfl rfl
set_option maxRecDepth 100000 in
theorem mw749 : Cond.instanceMethod yX10_out ∈ gwl := gwl_tb 1113 rfl rfl
set_option maxRecDepth 100000 in
theorem mw750 : Cond.selects RX10 yX10_out yX10_out ∈ gwl := gwl_tb 1114 rfl rfl
set_option maxRecDepth 100000 in
theorem mw751 : Cond.code yX10_out cX10_out 2 (some .int) ∈ gwl := gwl_tb 1115 rfl rfl
set_option maxRecDepth 100000 in
theorem mw752 : Cond.methodLink RL 102 yX10_outAt ∈ gwl := gwl_tb 1119 rfl rfl
set_option maxRecDepth 100000 in
theorem mw753 : Cond.instanceMethod yX10_outAt ∈ gwl := gwl_tb 1120 rfl rfl
set_option maxRecDepth 100000 in
theorem mw754 : Cond.selects RX10 yX10_outAt yX10_outAt ∈ gwl := gwl_tb 1121 rfl rfl
set_option maxRecDepth 100000 in
theorem mw755 : Cond.code yX10_outAt cX10_outAt 4 (some .int) ∈ gwl := gwl_tb 1122 rfl rfl
set_option maxRecDepth 100000 in
theorem mw756 : Cond.methodLink RL 105 yX10_held ∈ gwl := gwl_tb 1126 rfl rfl
set_option maxRecDepth 100000 in
theorem mw757 : Cond.instanceMethod yX10_held ∈ gwl := gwl_tb 1127 rfl rfl
set_option maxRecDepth 100000 in
theorem mw758 : Cond.selects RX10 yX10_held yX10_held ∈ gwl := gwl_tb 1128 rfl rfl
set_option maxRecDepth 100000 in
theorem mw759 : Cond.code yX10_held cX10_held 2 (some .int) ∈ gwl := gwl_tb 1129 rfl rfl
set_option maxRecDepth 100000 in
theorem mw760 : Cond.methodLink RL 108 yX10_stored ∈ gwl := gwl_tb 1133 rfl rfl
set_option maxRecDepth 100000 in
theorem mw761 : Cond.instanceMethod yX10_stored ∈ gwl := gwl_tb 1134 rfl rfl
set_option maxRecDepth 100000 in
theorem mw762 : Cond.selects RX10 yX10_stored yX10_stored ∈ gwl := gwl_tb 1135 rfl rfl
set_option maxRecDepth 100000 in
theorem mw763 : Cond.code yX10_stored cX10_stored 2 (some .int) ∈ gwl := gwl_tb 1136 rfl rfl
set_option maxRecDepth 100000 in
theorem mw764 : Cond.methodLink RL 111 yX10_isAsPlain ∈ gwl := gwl_tb 1140 rfl rfl
set_option maxRecDepth 100000 in
theorem mw765 : Cond.instanceMethod yX10_isAsPlain ∈ gwl := gwl_tb 1141 rfl rfl
set_option maxRecDepth 100000 in
theorem mw766 : Cond.selects RX10 yX10_isAsPlain yX10_isAsPlain ∈ gwl := gwl_tb 1142 rfl rfl
set_option maxRecDepth 100000 in
theorem mw767 : Cond.code yX10_isAsPlain cX10_isAsPlain 3 (some .boolean) ∈ gwl := gwl_tb 1143 rfl rfl
theorem pd_X10_guest : (yX10_guest).cls ≠ "java/lang/invoke/MethodHandle" ∧ (yX10_guest).cls ≠ "java/lang/invoke/VarHandle" ∧ (parseMethodDescriptor (yX10_guest).desc).map (fun d => d.parameters.length) = some 3 := ⟨by decide +kernel, by decide +kernel, by decide +kernel⟩
theorem pd_X10_instruct : (yX10_instruct).cls ≠ "java/lang/invoke/MethodHandle" ∧ (yX10_instruct).cls ≠ "java/lang/invoke/VarHandle" ∧ (parseMethodDescriptor (yX10_instruct).desc).map (fun d => d.parameters.length) = some 4 := ⟨by decide +kernel, by decide +kernel, by decide +kernel⟩
theorem pd_X10_pause : (yX10_pause).cls ≠ "java/lang/invoke/MethodHandle" ∧ (yX10_pause).cls ≠ "java/lang/invoke/VarHandle" ∧ (parseMethodDescriptor (yX10_pause).desc).map (fun d => d.parameters.length) = some 2 := ⟨by decide +kernel, by decide +kernel, by decide +kernel⟩
theorem pd_X10_scale : (yX10_scale).cls ≠ "java/lang/invoke/MethodHandle" ∧ (yX10_scale).cls ≠ "java/lang/invoke/VarHandle" ∧ (parseMethodDescriptor (yX10_scale).desc).map (fun d => d.parameters.length) = some 2 := ⟨by decide +kernel, by decide +kernel, by decide +kernel⟩
theorem pd_X10_input : (yX10_input).cls ≠ "java/lang/invoke/MethodHandle" ∧ (yX10_input).cls ≠ "java/lang/invoke/VarHandle" ∧ (parseMethodDescriptor (yX10_input).desc).map (fun d => d.parameters.length) = some 2 := ⟨by decide +kernel, by decide +kernel, by decide +kernel⟩
theorem pd_X10_send : (yX10_send).cls ≠ "java/lang/invoke/MethodHandle" ∧ (yX10_send).cls ≠ "java/lang/invoke/VarHandle" ∧ (parseMethodDescriptor (yX10_send).desc).map (fun d => d.parameters.length) = some 1 := ⟨by decide +kernel, by decide +kernel, by decide +kernel⟩
theorem pd_X10_tick : (yX10_tick).cls ≠ "java/lang/invoke/MethodHandle" ∧ (yX10_tick).cls ≠ "java/lang/invoke/VarHandle" ∧ (parseMethodDescriptor (yX10_tick).desc).map (fun d => d.parameters.length) = some 1 := ⟨by decide +kernel, by decide +kernel, by decide +kernel⟩
theorem pd_X10_share : (yX10_share).cls ≠ "java/lang/invoke/MethodHandle" ∧ (yX10_share).cls ≠ "java/lang/invoke/VarHandle" ∧ (parseMethodDescriptor (yX10_share).desc).map (fun d => d.parameters.length) = some 1 := ⟨by decide +kernel, by decide +kernel, by decide +kernel⟩
theorem pd_X10_move : (yX10_move).cls ≠ "java/lang/invoke/MethodHandle" ∧ (yX10_move).cls ≠ "java/lang/invoke/VarHandle" ∧ (parseMethodDescriptor (yX10_move).desc).map (fun d => d.parameters.length) = some 1 := ⟨by decide +kernel, by decide +kernel, by decide +kernel⟩
theorem pd_X10_round : (yX10_round).cls ≠ "java/lang/invoke/MethodHandle" ∧ (yX10_round).cls ≠ "java/lang/invoke/VarHandle" ∧ (parseMethodDescriptor (yX10_round).desc).map (fun d => d.parameters.length) = some 2 := ⟨by decide +kernel, by decide +kernel, by decide +kernel⟩
theorem pd_X10_land : (yX10_land).cls ≠ "java/lang/invoke/MethodHandle" ∧ (yX10_land).cls ≠ "java/lang/invoke/VarHandle" ∧ (parseMethodDescriptor (yX10_land).desc).map (fun d => d.parameters.length) = some 2 := ⟨by decide +kernel, by decide +kernel, by decide +kernel⟩
theorem pd_X10_snapshot : (yX10_snapshot).cls ≠ "java/lang/invoke/MethodHandle" ∧ (yX10_snapshot).cls ≠ "java/lang/invoke/VarHandle" ∧ (parseMethodDescriptor (yX10_snapshot).desc).map (fun d => d.parameters.length) = some 1 := ⟨by decide +kernel, by decide +kernel, by decide +kernel⟩
theorem pd_X10_restore : (yX10_restore).cls ≠ "java/lang/invoke/MethodHandle" ∧ (yX10_restore).cls ≠ "java/lang/invoke/VarHandle" ∧ (parseMethodDescriptor (yX10_restore).desc).map (fun d => d.parameters.length) = some 2 := ⟨by decide +kernel, by decide +kernel, by decide +kernel⟩
theorem pd_X10_follow : (yX10_follow).cls ≠ "java/lang/invoke/MethodHandle" ∧ (yX10_follow).cls ≠ "java/lang/invoke/VarHandle" ∧ (parseMethodDescriptor (yX10_follow).desc).map (fun d => d.parameters.length) = some 2 := ⟨by decide +kernel, by decide +kernel, by decide +kernel⟩
theorem pd_X10_step : (yX10_step).cls ≠ "java/lang/invoke/MethodHandle" ∧ (yX10_step).cls ≠ "java/lang/invoke/VarHandle" ∧ (parseMethodDescriptor (yX10_step).desc).map (fun d => d.parameters.length) = some 1 := ⟨by decide +kernel, by decide +kernel, by decide +kernel⟩
theorem pd_X10_fail : (yX10_fail).cls ≠ "java/lang/invoke/MethodHandle" ∧ (yX10_fail).cls ≠ "java/lang/invoke/VarHandle" ∧ (parseMethodDescriptor (yX10_fail).desc).map (fun d => d.parameters.length) = some 1 := ⟨by decide +kernel, by decide +kernel, by decide +kernel⟩
theorem pd_X10_mend : (yX10_mend).cls ≠ "java/lang/invoke/MethodHandle" ∧ (yX10_mend).cls ≠ "java/lang/invoke/VarHandle" ∧ (parseMethodDescriptor (yX10_mend).desc).map (fun d => d.parameters.length) = some 1 := ⟨by decide +kernel, by decide +kernel, by decide +kernel⟩
theorem pd_X10_of : (yX10_of).cls ≠ "java/lang/invoke/MethodHandle" ∧ (yX10_of).cls ≠ "java/lang/invoke/VarHandle" ∧ (parseMethodDescriptor (yX10_of).desc).map (fun d => d.parameters.length) = some 2 := ⟨by decide +kernel, by decide +kernel, by decide +kernel⟩
theorem pd_X10_register : (yX10_register).cls ≠ "java/lang/invoke/MethodHandle" ∧ (yX10_register).cls ≠ "java/lang/invoke/VarHandle" ∧ (parseMethodDescriptor (yX10_register).desc).map (fun d => d.parameters.length) = some 2 := ⟨by decide +kernel, by decide +kernel, by decide +kernel⟩
theorem pd_X10_word : (yX10_word).cls ≠ "java/lang/invoke/MethodHandle" ∧ (yX10_word).cls ≠ "java/lang/invoke/VarHandle" ∧ (parseMethodDescriptor (yX10_word).desc).map (fun d => d.parameters.length) = some 3 := ⟨by decide +kernel, by decide +kernel, by decide +kernel⟩
theorem pd_X10_pageOf : (yX10_pageOf).cls ≠ "java/lang/invoke/MethodHandle" ∧ (yX10_pageOf).cls ≠ "java/lang/invoke/VarHandle" ∧ (parseMethodDescriptor (yX10_pageOf).desc).map (fun d => d.parameters.length) = some 2 := ⟨by decide +kernel, by decide +kernel, by decide +kernel⟩
theorem pd_X10_frameOf : (yX10_frameOf).cls ≠ "java/lang/invoke/MethodHandle" ∧ (yX10_frameOf).cls ≠ "java/lang/invoke/VarHandle" ∧ (parseMethodDescriptor (yX10_frameOf).desc).map (fun d => d.parameters.length) = some 2 := ⟨by decide +kernel, by decide +kernel, by decide +kernel⟩
theorem pd_X10_used : (yX10_used).cls ≠ "java/lang/invoke/MethodHandle" ∧ (yX10_used).cls ≠ "java/lang/invoke/VarHandle" ∧ (parseMethodDescriptor (yX10_used).desc).map (fun d => d.parameters.length) = some 1 := ⟨by decide +kernel, by decide +kernel, by decide +kernel⟩
theorem pd_X10_exits : (yX10_exits).cls ≠ "java/lang/invoke/MethodHandle" ∧ (yX10_exits).cls ≠ "java/lang/invoke/VarHandle" ∧ (parseMethodDescriptor (yX10_exits).desc).map (fun d => d.parameters.length) = some 2 := ⟨by decide +kernel, by decide +kernel, by decide +kernel⟩
theorem pd_X10_out : (yX10_out).cls ≠ "java/lang/invoke/MethodHandle" ∧ (yX10_out).cls ≠ "java/lang/invoke/VarHandle" ∧ (parseMethodDescriptor (yX10_out).desc).map (fun d => d.parameters.length) = some 1 := ⟨by decide +kernel, by decide +kernel, by decide +kernel⟩
theorem pd_X10_outAt : (yX10_outAt).cls ≠ "java/lang/invoke/MethodHandle" ∧ (yX10_outAt).cls ≠ "java/lang/invoke/VarHandle" ∧ (parseMethodDescriptor (yX10_outAt).desc).map (fun d => d.parameters.length) = some 2 := ⟨by decide +kernel, by decide +kernel, by decide +kernel⟩
theorem pd_X10_held : (yX10_held).cls ≠ "java/lang/invoke/MethodHandle" ∧ (yX10_held).cls ≠ "java/lang/invoke/VarHandle" ∧ (parseMethodDescriptor (yX10_held).desc).map (fun d => d.parameters.length) = some 1 := ⟨by decide +kernel, by decide +kernel, by decide +kernel⟩
theorem pd_X10_stored : (yX10_stored).cls ≠ "java/lang/invoke/MethodHandle" ∧ (yX10_stored).cls ≠ "java/lang/invoke/VarHandle" ∧ (parseMethodDescriptor (yX10_stored).desc).map (fun d => d.parameters.length) = some 1 := ⟨by decide +kernel, by decide +kernel, by decide +kernel⟩
theorem pd_X10_isAsPlain : (yX10_isAsPlain).cls ≠ "java/lang/invoke/MethodHandle" ∧ (yX10_isAsPlain).cls ≠ "java/lang/invoke/VarHandle" ∧ (parseMethodDescriptor (yX10_isAsPlain).desc).map (fun d => d.parameters.length) = some 1 := ⟨by decide +kernel, by decide +kernel, by decide +kernel⟩
def exc33 (e : Nat) : Int32 := if e = 1 then (-2000000001) else if e = 2 then (-2000000002) else (-2000000003)
def lwR : Int32 ⊕ Nat → Int32
  | .inl r => r
  | .inr e => exc33 e
def lwRB : Int32 ⊕ Nat → Int32
  | .inl r => bI r
  | .inr e => exc33 e
def lwRV : Unit ⊕ Nat → Int32
  | .inl _ => 0
  | .inr e => exc33 e
set_option maxHeartbeats 4000000 in
set_option maxRecDepth 100000 in
theorem c_L_guest {l : Launch} (hfl : l.stackTraces = false) {E : EE} {κ : K} {x' : EE × K} {a1 a2 a3 : Int32} (h0 : PC 10 E 4 0 0) (hH : E.2.2.2.1 = 1) (hRN : rawN E) (hb3 : a3 = 0 ∨ a3 = 1) {rs : Int32 ⊕ Nat} (h : f_X10_guest E κ a1 a2 a3 = some (x', rs)) (he : ∀ e, rs = .inr e → e ∈ ([1, 2, 3] : List Nat)) : ConW l yL_guest cL_guest 5 (some .int) [(0, 7, 8, 13), (0, 7, 13, 16), (0, 7, 18, 19)] 9 165 [.inr (some (4, 0, 0)), .inl (.int a1), .inl (.int a2), .inl (.int a3)] (E, κ) x' (some (.inl (.int (lwR rs)))) := by
  refine ConW_of hfl (by decide) (Nat.le_of_ble_eq_true rfl) rfl ⟨.int, rfl, rfl⟩ ?_
  intro X B g O hKP hmL hxt hE
  change J X B (E, κ) 0 [(0, .inr (some (4, 0, 0))), (1, .inl (.int a1)), (2, .inl (.int a2)), (3, .inl (.int a3))] []
  refine J_aload_n O.mo dL_guest_0 0 rfl ?_
  refine J_iload_n O.mo dL_guest_1 1 rfl ?_
  refine J_iload_n O.mo dL_guest_2 2 rfl ?_
  refine J_iload_n O.mo dL_guest_3 3 rfl ?_
  refine J_callVXH O hKP (as := [.inl (.int a1), .inl (.int a2), .inl (.int a3)]) (rest := []) (c_X10_guest hfl h0 hH hRN hb3 h) rfl (kd0 := 10) (k10_0 h0) (l10_0 h0) (T := TX10) (N := 4) rfl (by decide) mw643 mw644 mw645 mw320 mw646 pd_X10_guest rfl (by decide) rfl (Nat.le_of_ble_eq_true rfl) (sl_p (s10_0 h0) (sl_v (sl_v (sl_v sl_0)))) st_0 dL_guest_4 hxt (fun s hs => ?_) (fun v hv => ?_)
  · cases rs with
    | inl r => cases hs
    | inr e =>
      have hs' : exN e = s := by injection hs
      have he1 := he e rfl
      clear he
      simp only [List.mem_cons, List.not_mem_nil, or_false] at he1
      rcases he1 with rfl | rfl | rfl
      · subst hs'
        refine ⟨8, ⟨[], ⟨0, 7, 8, 13⟩, [⟨0, 7, 13, 16⟩, ⟨0, 7, 18, 19⟩], rfl, fun _ h => absurd h List.not_mem_nil, rfl, by decide, ⟨_, mw647, mw648⟩, rfl⟩, fun q => ?_⟩
        refine J_astoreR O.mo dL_guest_8 (by rw [hmL]; decide) rfl rfl ?_
        refine J_ldc O mw649 dL_guest_10 ?_
        exact hE _ _ dL_guest_12
      · subst hs'
        refine ⟨13, ⟨[⟨0, 7, 8, 13⟩], ⟨0, 7, 13, 16⟩, [⟨0, 7, 18, 19⟩], rfl, List.forall_mem_cons.mpr ⟨⟨by decide, _, mw647, List.mem_of_getElem? (i := 0) rfl⟩, fun _ h => absurd h List.not_mem_nil⟩, rfl, by decide, ⟨_, mw650, mw651⟩, rfl⟩, fun q => ?_⟩
        refine J_astoreR O.mo dL_guest_13 (by rw [hmL]; decide) rfl rfl ?_
        refine J_ldc O mw652 dL_guest_15 ?_
        exact hE _ _ dL_guest_17
      · subst hs'
        refine ⟨18, ⟨[⟨0, 7, 8, 13⟩, ⟨0, 7, 13, 16⟩], ⟨0, 7, 18, 19⟩, [], rfl, List.forall_mem_cons.mpr ⟨⟨by decide, _, mw647, List.mem_of_getElem? (i := 1) rfl⟩, List.forall_mem_cons.mpr ⟨⟨by decide, _, mw650, List.mem_of_getElem? (i := 2) rfl⟩, fun _ h => absurd h List.not_mem_nil⟩⟩, rfl, by decide, ⟨_, mw653, mw654⟩, rfl⟩, fun q => ?_⟩
        refine J_astoreR O.mo dL_guest_18 (by rw [hmL]; decide) rfl rfl ?_
        refine J_ldc O mw655 dL_guest_20 ?_
        exact hE _ _ dL_guest_22
  · cases rs with
    | inr e => cases hv
    | inl r =>
      have hv' : some (.inl (.int r)) = v := by injection hv
      subst hv'
      show J X B x' 7 [(0, .inr (some (4, 0, 0))), (1, .inl (.int a1)), (2, .inl (.int a2)), (3, .inl (.int a3))] [.inl (.int r)]
      exact hE _ _ dL_guest_7
set_option maxHeartbeats 4000000 in
set_option maxRecDepth 100000 in
theorem c_L_op {l : Launch} (hfl : l.stackTraces = false) {E : EE} {κ : K} {κ' : K} {a1 a2 a3 a4 : Int32} (h0 : PC 10 E 4 0 0) {rs : Int32 ⊕ Nat} (h : f_X10_instruct E κ a1 a2 a3 a4 = some (κ', rs)) (he : ∀ e, rs = .inr e → e ∈ ([1, 2, 3] : List Nat)) : ConW l yL_op cL_op 6 (some .int) [(0, 9, 10, 13), (0, 9, 15, 16), (0, 9, 20, 19)] 9 149 [.inr (some (4, 0, 0)), .inl (.int a1), .inl (.int a2), .inl (.int a3), .inl (.int a4)] (E, κ) (E, κ') (some (.inl (.int (lwR rs)))) := by
  refine ConW_of hfl (by decide) (Nat.le_of_ble_eq_true rfl) rfl ⟨.int, rfl, rfl⟩ ?_
  intro X B g O hKP hmL hxt hE
  change J X B (E, κ) 0 [(0, .inr (some (4, 0, 0))), (1, .inl (.int a1)), (2, .inl (.int a2)), (3, .inl (.int a3)), (4, .inl (.int a4))] []
  refine J_aload_n O.mo dL_op_0 0 rfl ?_
  refine J_iload_n O.mo dL_op_1 1 rfl ?_
  refine J_iload_n O.mo dL_op_2 2 rfl ?_
  refine J_iload_n O.mo dL_op_3 3 rfl ?_
  refine J_iload O.mo dL_op_4 4 rfl ?_
  refine J_callVXH O hKP (as := [.inl (.int a1), .inl (.int a2), .inl (.int a3), .inl (.int a4)]) (rest := []) (c_X10_instruct hfl h0 h) rfl (kd0 := 10) (k10_0 h0) (l10_0 h0) (T := TX10) (N := 4) rfl (by decide) mw656 mw657 mw658 mw320 mw659 pd_X10_instruct rfl (by decide) rfl (Nat.le_of_ble_eq_true rfl) (sl_p (s10_0 h0) (sl_v (sl_v (sl_v (sl_v sl_0))))) st_0 dL_op_6 hxt (fun s hs => ?_) (fun v hv => ?_)
  · cases rs with
    | inl r => cases hs
    | inr e =>
      have hs' : exN e = s := by injection hs
      have he1 := he e rfl
      clear he
      simp only [List.mem_cons, List.not_mem_nil, or_false] at he1
      rcases he1 with rfl | rfl | rfl
      · subst hs'
        refine ⟨10, ⟨[], ⟨0, 9, 10, 13⟩, [⟨0, 9, 15, 16⟩, ⟨0, 9, 20, 19⟩], rfl, fun _ h => absurd h List.not_mem_nil, rfl, by decide, ⟨_, mw647, mw648⟩, rfl⟩, fun q => ?_⟩
        refine J_astoreR O.mo dL_op_10 (by rw [hmL]; decide) rfl rfl ?_
        refine J_ldc O mw649 dL_op_12 ?_
        exact hE _ _ dL_op_14
      · subst hs'
        refine ⟨15, ⟨[⟨0, 9, 10, 13⟩], ⟨0, 9, 15, 16⟩, [⟨0, 9, 20, 19⟩], rfl, List.forall_mem_cons.mpr ⟨⟨by decide, _, mw647, List.mem_of_getElem? (i := 0) rfl⟩, fun _ h => absurd h List.not_mem_nil⟩, rfl, by decide, ⟨_, mw650, mw651⟩, rfl⟩, fun q => ?_⟩
        refine J_astoreR O.mo dL_op_15 (by rw [hmL]; decide) rfl rfl ?_
        refine J_ldc O mw652 dL_op_17 ?_
        exact hE _ _ dL_op_19
      · subst hs'
        refine ⟨20, ⟨[⟨0, 9, 10, 13⟩, ⟨0, 9, 15, 16⟩], ⟨0, 9, 20, 19⟩, [], rfl, List.forall_mem_cons.mpr ⟨⟨by decide, _, mw647, List.mem_of_getElem? (i := 1) rfl⟩, List.forall_mem_cons.mpr ⟨⟨by decide, _, mw650, List.mem_of_getElem? (i := 2) rfl⟩, fun _ h => absurd h List.not_mem_nil⟩⟩, rfl, by decide, ⟨_, mw653, mw654⟩, rfl⟩, fun q => ?_⟩
        refine J_astoreR O.mo dL_op_20 (by rw [hmL]; decide) rfl rfl ?_
        refine J_ldc O mw655 dL_op_22 ?_
        exact hE _ _ dL_op_24
  · cases rs with
    | inr e => cases hv
    | inl r =>
      have hv' : some (.inl (.int r)) = v := by injection hv
      subst hv'
      show J X B (E, κ') 9 [(0, .inr (some (4, 0, 0))), (1, .inl (.int a1)), (2, .inl (.int a2)), (3, .inl (.int a3)), (4, .inl (.int a4))] [.inl (.int r)]
      exact hE _ _ dL_op_9
set_option maxHeartbeats 4000000 in
set_option maxRecDepth 100000 in
theorem c_L_pause {l : Launch} (hfl : l.stackTraces = false) {E : EE} {κ : K} {κ' : K} {a1 a2 : Int32} (h0 : PC 10 E 4 0 0) {rs : Int32 ⊕ Nat} (h : f_X10_pause E κ a1 a2 = some (κ', rs)) (he : ∀ e, rs = .inr e → e ∈ ([1] : List Nat)) : ConW l yL_pause cL_pause 4 (some .int) [(0, 14, 15, 13)] 9 148 [.inr (some (4, 0, 0)), .inl (.int a1), .inl (.int a2)] (E, κ) (E, κ') (some (.inl (.int (lwRB rs)))) := by
  refine ConW_of hfl (by decide) (Nat.le_of_ble_eq_true rfl) rfl ⟨.int, rfl, rfl⟩ ?_
  intro X B g O hKP hmL hxt hE
  change J X B (E, κ) 0 [(0, .inr (some (4, 0, 0))), (1, .inl (.int a1)), (2, .inl (.int a2))] []
  refine J_aload_n O.mo dL_pause_0 0 rfl ?_
  refine J_iload_n O.mo dL_pause_1 1 rfl ?_
  refine J_iload_n O.mo dL_pause_2 2 rfl ?_
  refine J_callVXH O hKP (as := [.inl (.int a1), .inl (.int a2)]) (rest := []) (c_X10_pause hfl h0 h) rfl (kd0 := 10) (k10_0 h0) (l10_0 h0) (T := TX10) (N := 4) rfl (by decide) mw660 mw661 mw662 mw320 mw663 pd_X10_pause rfl (by decide) rfl (Nat.le_of_ble_eq_true rfl) (sl_p (s10_0 h0) (sl_v (sl_v sl_0))) st_0 dL_pause_3 hxt (fun s hs => ?_) (fun v hv => ?_)
  · cases rs with
    | inl r => cases hs
    | inr e =>
      have hs' : exN e = s := by injection hs
      have he1 := he e rfl
      clear he
      simp only [List.mem_cons, List.not_mem_nil, or_false] at he1
      subst he1
      subst hs'
      refine ⟨15, ⟨[], ⟨0, 14, 15, 13⟩, [], rfl, fun _ h => absurd h List.not_mem_nil, rfl, by decide, ⟨_, mw647, mw648⟩, rfl⟩, fun q => ?_⟩
      refine J_astore_nR O.mo dL_pause_15 (by rw [hmL]; decide) rfl rfl ?_
      refine J_ldc O mw649 dL_pause_16 ?_
      exact hE _ _ dL_pause_18
  · cases rs with
    | inr e => cases hv
    | inl r =>
      have hv' : some (.inl (.int r)) = v := by injection hv
      subst hv'
      show J X B (E, κ') 6 [(0, .inr (some (4, 0, 0))), (1, .inl (.int a1)), (2, .inl (.int a2))] [.inl (.int r)]
      refine J_if_eq O.mo (tgt := 13) dL_pause_6 (by decide) (fun hc => ?_) (fun hc => ?_)
      · refine J_iconst O.mo (v := bI r) dL_pause_13 (by rw [show bI r = 0 from if_pos hc]; decide) ?_
        exact hE _ _ dL_pause_14
      · refine J_iconst O.mo (v := bI r) dL_pause_9 (by rw [show bI r = 1 from if_neg hc]; decide) ?_
        refine J_goto O.mo (tgt := 14) dL_pause_10 (by decide) ?_
        exact hE _ _ dL_pause_14
set_option maxHeartbeats 4000000 in
set_option maxRecDepth 100000 in
theorem c_L_scale {l : Launch} (hfl : l.stackTraces = false) {E : EE} {κ : K} {κ' : K} {a1 a2 : Int32} (h0 : PC 10 E 4 0 0) {rs : Int32 ⊕ Nat} (h : f_X10_scale E κ a1 a2 = some (κ', rs)) (he : ∀ e, rs = .inr e → e ∈ ([1, 2] : List Nat)) : ConW l yL_scale cL_scale 4 (some .int) [(0, 6, 7, 13), (0, 6, 11, 16)] 9 148 [.inr (some (4, 0, 0)), .inl (.int a1), .inl (.int a2)] (E, κ) (E, κ') (some (.inl (.int (lwR rs)))) := by
  refine ConW_of hfl (by decide) (Nat.le_of_ble_eq_true rfl) rfl ⟨.int, rfl, rfl⟩ ?_
  intro X B g O hKP hmL hxt hE
  change J X B (E, κ) 0 [(0, .inr (some (4, 0, 0))), (1, .inl (.int a1)), (2, .inl (.int a2))] []
  refine J_aload_n O.mo dL_scale_0 0 rfl ?_
  refine J_iload_n O.mo dL_scale_1 1 rfl ?_
  refine J_iload_n O.mo dL_scale_2 2 rfl ?_
  refine J_callVXH O hKP (as := [.inl (.int a1), .inl (.int a2)]) (rest := []) (c_X10_scale hfl h0 h) rfl (kd0 := 10) (k10_0 h0) (l10_0 h0) (T := TX10) (N := 4) rfl (by decide) mw664 mw665 mw666 mw320 mw667 pd_X10_scale rfl (by decide) rfl (Nat.le_of_ble_eq_true rfl) (sl_p (s10_0 h0) (sl_v (sl_v sl_0))) st_0 dL_scale_3 hxt (fun s hs => ?_) (fun v hv => ?_)
  · cases rs with
    | inl r => cases hs
    | inr e =>
      have hs' : exN e = s := by injection hs
      have he1 := he e rfl
      clear he
      simp only [List.mem_cons, List.not_mem_nil, or_false] at he1
      rcases he1 with rfl | rfl
      · subst hs'
        refine ⟨7, ⟨[], ⟨0, 6, 7, 13⟩, [⟨0, 6, 11, 16⟩], rfl, fun _ h => absurd h List.not_mem_nil, rfl, by decide, ⟨_, mw647, mw648⟩, rfl⟩, fun q => ?_⟩
        refine J_astore_nR O.mo dL_scale_7 (by rw [hmL]; decide) rfl rfl ?_
        refine J_ldc O mw649 dL_scale_8 ?_
        exact hE _ _ dL_scale_10
      · subst hs'
        refine ⟨11, ⟨[⟨0, 6, 7, 13⟩], ⟨0, 6, 11, 16⟩, [], rfl, List.forall_mem_cons.mpr ⟨⟨by decide, _, mw647, List.mem_of_getElem? (i := 0) rfl⟩, fun _ h => absurd h List.not_mem_nil⟩, rfl, by decide, ⟨_, mw650, mw651⟩, rfl⟩, fun q => ?_⟩
        refine J_astore_nR O.mo dL_scale_11 (by rw [hmL]; decide) rfl rfl ?_
        refine J_ldc O mw652 dL_scale_12 ?_
        exact hE _ _ dL_scale_14
  · cases rs with
    | inr e => cases hv
    | inl r =>
      have hv' : some (.inl (.int r)) = v := by injection hv
      subst hv'
      show J X B (E, κ') 6 [(0, .inr (some (4, 0, 0))), (1, .inl (.int a1)), (2, .inl (.int a2))] [.inl (.int r)]
      exact hE _ _ dL_scale_6
set_option maxHeartbeats 4000000 in
set_option maxRecDepth 100000 in
theorem c_L_input {l : Launch} (hfl : l.stackTraces = false) {E : EE} {κ : K} {κ' : K} {a1 a2 : Int32} (h0 : PC 10 E 4 0 0) {rs : Int32 ⊕ Nat} (h : f_X10_input E κ a1 a2 = some (κ', rs)) (he : ∀ e, rs = .inr e → e ∈ ([1, 2, 3] : List Nat)) : ConW l yL_input cL_input 4 (some .int) [(0, 6, 7, 13), (0, 6, 11, 16), (0, 6, 15, 19)] 9 166 [.inr (some (4, 0, 0)), .inl (.int a1), .inl (.int a2)] (E, κ) (E, κ') (some (.inl (.int (lwR rs)))) := by
  refine ConW_of hfl (by decide) (Nat.le_of_ble_eq_true rfl) rfl ⟨.int, rfl, rfl⟩ ?_
  intro X B g O hKP hmL hxt hE
  change J X B (E, κ) 0 [(0, .inr (some (4, 0, 0))), (1, .inl (.int a1)), (2, .inl (.int a2))] []
  refine J_aload_n O.mo dL_input_0 0 rfl ?_
  refine J_iload_n O.mo dL_input_1 1 rfl ?_
  refine J_iload_n O.mo dL_input_2 2 rfl ?_
  refine J_callVXH O hKP (as := [.inl (.int a1), .inl (.int a2)]) (rest := []) (c_X10_input hfl h0 h) rfl (kd0 := 10) (k10_0 h0) (l10_0 h0) (T := TX10) (N := 4) rfl (by decide) mw668 mw669 mw670 mw320 mw671 pd_X10_input rfl (by decide) rfl (Nat.le_of_ble_eq_true rfl) (sl_p (s10_0 h0) (sl_v (sl_v sl_0))) st_0 dL_input_3 hxt (fun s hs => ?_) (fun v hv => ?_)
  · cases rs with
    | inl r => cases hs
    | inr e =>
      have hs' : exN e = s := by injection hs
      have he1 := he e rfl
      clear he
      simp only [List.mem_cons, List.not_mem_nil, or_false] at he1
      rcases he1 with rfl | rfl | rfl
      · subst hs'
        refine ⟨7, ⟨[], ⟨0, 6, 7, 13⟩, [⟨0, 6, 11, 16⟩, ⟨0, 6, 15, 19⟩], rfl, fun _ h => absurd h List.not_mem_nil, rfl, by decide, ⟨_, mw647, mw648⟩, rfl⟩, fun q => ?_⟩
        refine J_astore_nR O.mo dL_input_7 (by rw [hmL]; decide) rfl rfl ?_
        refine J_ldc O mw649 dL_input_8 ?_
        exact hE _ _ dL_input_10
      · subst hs'
        refine ⟨11, ⟨[⟨0, 6, 7, 13⟩], ⟨0, 6, 11, 16⟩, [⟨0, 6, 15, 19⟩], rfl, List.forall_mem_cons.mpr ⟨⟨by decide, _, mw647, List.mem_of_getElem? (i := 0) rfl⟩, fun _ h => absurd h List.not_mem_nil⟩, rfl, by decide, ⟨_, mw650, mw651⟩, rfl⟩, fun q => ?_⟩
        refine J_astore_nR O.mo dL_input_11 (by rw [hmL]; decide) rfl rfl ?_
        refine J_ldc O mw652 dL_input_12 ?_
        exact hE _ _ dL_input_14
      · subst hs'
        refine ⟨15, ⟨[⟨0, 6, 7, 13⟩, ⟨0, 6, 11, 16⟩], ⟨0, 6, 15, 19⟩, [], rfl, List.forall_mem_cons.mpr ⟨⟨by decide, _, mw647, List.mem_of_getElem? (i := 1) rfl⟩, List.forall_mem_cons.mpr ⟨⟨by decide, _, mw650, List.mem_of_getElem? (i := 2) rfl⟩, fun _ h => absurd h List.not_mem_nil⟩⟩, rfl, by decide, ⟨_, mw653, mw654⟩, rfl⟩, fun q => ?_⟩
        refine J_astore_nR O.mo dL_input_15 (by rw [hmL]; decide) rfl rfl ?_
        refine J_ldc O mw655 dL_input_16 ?_
        exact hE _ _ dL_input_18
  · cases rs with
    | inr e => cases hv
    | inl r =>
      have hv' : some (.inl (.int r)) = v := by injection hv
      subst hv'
      show J X B (E, κ') 6 [(0, .inr (some (4, 0, 0))), (1, .inl (.int a1)), (2, .inl (.int a2))] [.inl (.int r)]
      exact hE _ _ dL_input_6
set_option maxHeartbeats 4000000 in
set_option maxRecDepth 100000 in
theorem c_L_send {l : Launch} (hfl : l.stackTraces = false) {E : EE} {κ : K} {κ' : K} {a1 : Int32} (h0 : PC 10 E 4 0 0) {rs : Int32 ⊕ Nat} (h : f_X10_send E κ a1 = some (κ', rs)) (he : ∀ e, rs = .inr e → e ∈ ([1, 3] : List Nat)) : ConW l yL_send cL_send 3 (some .int) [(0, 13, 14, 13), (0, 13, 18, 19)] 9 147 [.inr (some (4, 0, 0)), .inl (.int a1)] (E, κ) (E, κ') (some (.inl (.int (lwRB rs)))) := by
  refine ConW_of hfl (by decide) (Nat.le_of_ble_eq_true rfl) rfl ⟨.int, rfl, rfl⟩ ?_
  intro X B g O hKP hmL hxt hE
  change J X B (E, κ) 0 [(0, .inr (some (4, 0, 0))), (1, .inl (.int a1))] []
  refine J_aload_n O.mo dL_send_0 0 rfl ?_
  refine J_iload_n O.mo dL_send_1 1 rfl ?_
  refine J_callVXH O hKP (as := [.inl (.int a1)]) (rest := []) (c_X10_send hfl h0 h) rfl (kd0 := 10) (k10_0 h0) (l10_0 h0) (T := TX10) (N := 4) rfl (by decide) mw672 mw673 mw674 mw320 mw675 pd_X10_send rfl (by decide) rfl (Nat.le_of_ble_eq_true rfl) (sl_p (s10_0 h0) (sl_v sl_0)) st_0 dL_send_2 hxt (fun s hs => ?_) (fun v hv => ?_)
  · cases rs with
    | inl r => cases hs
    | inr e =>
      have hs' : exN e = s := by injection hs
      have he1 := he e rfl
      clear he
      simp only [List.mem_cons, List.not_mem_nil, or_false] at he1
      rcases he1 with rfl | rfl
      · subst hs'
        refine ⟨14, ⟨[], ⟨0, 13, 14, 13⟩, [⟨0, 13, 18, 19⟩], rfl, fun _ h => absurd h List.not_mem_nil, rfl, by decide, ⟨_, mw647, mw648⟩, rfl⟩, fun q => ?_⟩
        refine J_astore_nR O.mo dL_send_14 (by rw [hmL]; decide) rfl rfl ?_
        refine J_ldc O mw649 dL_send_15 ?_
        exact hE _ _ dL_send_17
      · subst hs'
        refine ⟨18, ⟨[⟨0, 13, 14, 13⟩], ⟨0, 13, 18, 19⟩, [], rfl, List.forall_mem_cons.mpr ⟨⟨by decide, _, mw647, List.mem_of_getElem? (i := 1) rfl⟩, fun _ h => absurd h List.not_mem_nil⟩, rfl, by decide, ⟨_, mw653, mw654⟩, rfl⟩, fun q => ?_⟩
        refine J_astore_nR O.mo dL_send_18 (by rw [hmL]; decide) rfl rfl ?_
        refine J_ldc O mw655 dL_send_19 ?_
        exact hE _ _ dL_send_21
  · cases rs with
    | inr e => cases hv
    | inl r =>
      have hv' : some (.inl (.int r)) = v := by injection hv
      subst hv'
      show J X B (E, κ') 5 [(0, .inr (some (4, 0, 0))), (1, .inl (.int a1))] [.inl (.int r)]
      refine J_if_eq O.mo (tgt := 12) dL_send_5 (by decide) (fun hc => ?_) (fun hc => ?_)
      · refine J_iconst O.mo (v := bI r) dL_send_12 (by rw [show bI r = 0 from if_pos hc]; decide) ?_
        exact hE _ _ dL_send_13
      · refine J_iconst O.mo (v := bI r) dL_send_8 (by rw [show bI r = 1 from if_neg hc]; decide) ?_
        refine J_goto O.mo (tgt := 13) dL_send_9 (by decide) ?_
        exact hE _ _ dL_send_13
set_option maxHeartbeats 4000000 in
set_option maxRecDepth 100000 in
theorem c_L_tick {l : Launch} (hfl : l.stackTraces = false) {E : EE} {κ : K} {κ' : K} {a1 : Int32} (h0 : PC 10 E 4 0 0) {rs : Int32 ⊕ Nat} (h : f_X10_tick E κ a1 = some (κ', rs)) (he : ∀ e, rs = .inr e → e ∈ ([2, 3] : List Nat)) : ConW l yL_tick cL_tick 3 (some .int) [(0, 5, 6, 16), (0, 5, 10, 19)] 10 284 [.inr (some (4, 0, 0)), .inl (.int a1)] (E, κ) (E, κ') (some (.inl (.int (lwR rs)))) := by
  refine ConW_of hfl (by decide) (Nat.le_of_ble_eq_true rfl) rfl ⟨.int, rfl, rfl⟩ ?_
  intro X B g O hKP hmL hxt hE
  change J X B (E, κ) 0 [(0, .inr (some (4, 0, 0))), (1, .inl (.int a1))] []
  refine J_aload_n O.mo dL_tick_0 0 rfl ?_
  refine J_iload_n O.mo dL_tick_1 1 rfl ?_
  refine J_callVXH O hKP (as := [.inl (.int a1)]) (rest := []) (c_X10_tick hfl h0 h) rfl (kd0 := 10) (k10_0 h0) (l10_0 h0) (T := TX10) (N := 4) rfl (by decide) mw676 mw677 mw678 mw320 mw679 pd_X10_tick rfl (by decide) rfl (Nat.le_of_ble_eq_true rfl) (sl_p (s10_0 h0) (sl_v sl_0)) st_0 dL_tick_2 hxt (fun s hs => ?_) (fun v hv => ?_)
  · cases rs with
    | inl r => cases hs
    | inr e =>
      have hs' : exN e = s := by injection hs
      have he1 := he e rfl
      clear he
      simp only [List.mem_cons, List.not_mem_nil, or_false] at he1
      rcases he1 with rfl | rfl
      · subst hs'
        refine ⟨6, ⟨[], ⟨0, 5, 6, 16⟩, [⟨0, 5, 10, 19⟩], rfl, fun _ h => absurd h List.not_mem_nil, rfl, by decide, ⟨_, mw650, mw651⟩, rfl⟩, fun q => ?_⟩
        refine J_astore_nR O.mo dL_tick_6 (by rw [hmL]; decide) rfl rfl ?_
        refine J_ldc O mw652 dL_tick_7 ?_
        exact hE _ _ dL_tick_9
      · subst hs'
        refine ⟨10, ⟨[⟨0, 5, 6, 16⟩], ⟨0, 5, 10, 19⟩, [], rfl, List.forall_mem_cons.mpr ⟨⟨by decide, _, mw650, List.mem_of_getElem? (i := 2) rfl⟩, fun _ h => absurd h List.not_mem_nil⟩, rfl, by decide, ⟨_, mw653, mw654⟩, rfl⟩, fun q => ?_⟩
        refine J_astore_nR O.mo dL_tick_10 (by rw [hmL]; decide) rfl rfl ?_
        refine J_ldc O mw655 dL_tick_11 ?_
        exact hE _ _ dL_tick_13
  · cases rs with
    | inr e => cases hv
    | inl r =>
      have hv' : some (.inl (.int r)) = v := by injection hv
      subst hv'
      show J X B (E, κ') 5 [(0, .inr (some (4, 0, 0))), (1, .inl (.int a1))] [.inl (.int r)]
      exact hE _ _ dL_tick_5
set_option maxHeartbeats 4000000 in
set_option maxRecDepth 100000 in
theorem c_L_share {l : Launch} (hfl : l.stackTraces = false) {E : EE} {κ : K} {κ' : K} {a1 : Int32} (h0 : PC 10 E 4 0 0) {rs : Int32 ⊕ Nat} (h : f_X10_share E κ a1 = some (κ', rs)) (he : ∀ e, rs = .inr e → e ∈ ([1] : List Nat)) : ConW l yL_share cL_share 3 (some .int) [(0, 5, 6, 13)] 9 149 [.inr (some (4, 0, 0)), .inl (.int a1)] (E, κ) (E, κ') (some (.inl (.int (lwR rs)))) := by
  refine ConW_of hfl (by decide) (Nat.le_of_ble_eq_true rfl) rfl ⟨.int, rfl, rfl⟩ ?_
  intro X B g O hKP hmL hxt hE
  change J X B (E, κ) 0 [(0, .inr (some (4, 0, 0))), (1, .inl (.int a1))] []
  refine J_aload_n O.mo dL_share_0 0 rfl ?_
  refine J_iload_n O.mo dL_share_1 1 rfl ?_
  refine J_callVXH O hKP (as := [.inl (.int a1)]) (rest := []) (c_X10_share hfl h0 h) rfl (kd0 := 10) (k10_0 h0) (l10_0 h0) (T := TX10) (N := 4) rfl (by decide) mw680 mw681 mw682 mw320 mw683 pd_X10_share rfl (by decide) rfl (Nat.le_of_ble_eq_true rfl) (sl_p (s10_0 h0) (sl_v sl_0)) st_0 dL_share_2 hxt (fun s hs => ?_) (fun v hv => ?_)
  · cases rs with
    | inl r => cases hs
    | inr e =>
      have hs' : exN e = s := by injection hs
      have he1 := he e rfl
      clear he
      simp only [List.mem_cons, List.not_mem_nil, or_false] at he1
      subst he1
      subst hs'
      refine ⟨6, ⟨[], ⟨0, 5, 6, 13⟩, [], rfl, fun _ h => absurd h List.not_mem_nil, rfl, by decide, ⟨_, mw647, mw648⟩, rfl⟩, fun q => ?_⟩
      refine J_astore_nR O.mo dL_share_6 (by rw [hmL]; decide) rfl rfl ?_
      refine J_ldc O mw649 dL_share_7 ?_
      exact hE _ _ dL_share_9
  · cases rs with
    | inr e => cases hv
    | inl r =>
      have hv' : some (.inl (.int r)) = v := by injection hv
      subst hv'
      show J X B (E, κ') 5 [(0, .inr (some (4, 0, 0))), (1, .inl (.int a1))] [.inl (.int r)]
      exact hE _ _ dL_share_5
set_option maxHeartbeats 4000000 in
set_option maxRecDepth 100000 in
theorem c_L_move {l : Launch} (hfl : l.stackTraces = false) {E : EE} {κ : K} {κ' : K} {a1 : Int32} (h0 : PC 10 E 4 0 0) {rs : Int32 ⊕ Nat} (h : f_X10_move E κ a1 = some (κ', rs)) (he : ∀ e, rs = .inr e → e ∈ ([1, 3] : List Nat)) : ConW l yL_move cL_move 3 (some .int) [(0, 5, 6, 13), (0, 5, 10, 19)] 9 146 [.inr (some (4, 0, 0)), .inl (.int a1)] (E, κ) (E, κ') (some (.inl (.int (lwR rs)))) := by
  refine ConW_of hfl (by decide) (Nat.le_of_ble_eq_true rfl) rfl ⟨.int, rfl, rfl⟩ ?_
  intro X B g O hKP hmL hxt hE
  change J X B (E, κ) 0 [(0, .inr (some (4, 0, 0))), (1, .inl (.int a1))] []
  refine J_aload_n O.mo dL_move_0 0 rfl ?_
  refine J_iload_n O.mo dL_move_1 1 rfl ?_
  refine J_callVXH O hKP (as := [.inl (.int a1)]) (rest := []) (c_X10_move hfl h0 h) rfl (kd0 := 10) (k10_0 h0) (l10_0 h0) (T := TX10) (N := 4) rfl (by decide) mw684 mw685 mw686 mw320 mw687 pd_X10_move rfl (by decide) rfl (Nat.le_of_ble_eq_true rfl) (sl_p (s10_0 h0) (sl_v sl_0)) st_0 dL_move_2 hxt (fun s hs => ?_) (fun v hv => ?_)
  · cases rs with
    | inl r => cases hs
    | inr e =>
      have hs' : exN e = s := by injection hs
      have he1 := he e rfl
      clear he
      simp only [List.mem_cons, List.not_mem_nil, or_false] at he1
      rcases he1 with rfl | rfl
      · subst hs'
        refine ⟨6, ⟨[], ⟨0, 5, 6, 13⟩, [⟨0, 5, 10, 19⟩], rfl, fun _ h => absurd h List.not_mem_nil, rfl, by decide, ⟨_, mw647, mw648⟩, rfl⟩, fun q => ?_⟩
        refine J_astore_nR O.mo dL_move_6 (by rw [hmL]; decide) rfl rfl ?_
        refine J_ldc O mw649 dL_move_7 ?_
        exact hE _ _ dL_move_9
      · subst hs'
        refine ⟨10, ⟨[⟨0, 5, 6, 13⟩], ⟨0, 5, 10, 19⟩, [], rfl, List.forall_mem_cons.mpr ⟨⟨by decide, _, mw647, List.mem_of_getElem? (i := 1) rfl⟩, fun _ h => absurd h List.not_mem_nil⟩, rfl, by decide, ⟨_, mw653, mw654⟩, rfl⟩, fun q => ?_⟩
        refine J_astore_nR O.mo dL_move_10 (by rw [hmL]; decide) rfl rfl ?_
        refine J_ldc O mw655 dL_move_11 ?_
        exact hE _ _ dL_move_13
  · cases rs with
    | inr e => cases hv
    | inl r =>
      have hv' : some (.inl (.int r)) = v := by injection hv
      subst hv'
      show J X B (E, κ') 5 [(0, .inr (some (4, 0, 0))), (1, .inl (.int a1))] [.inl (.int r)]
      exact hE _ _ dL_move_5
set_option maxHeartbeats 4000000 in
set_option maxRecDepth 100000 in
theorem c_L_round {l : Launch} (hfl : l.stackTraces = false) {E : EE} {κ : K} {κ' : K} {a1 a2 : Int32} (h0 : PC 10 E 4 0 0) {rs : Int32 ⊕ Nat} (h : f_X10_round E κ a1 a2 = some (κ', rs)) (he : ∀ e, rs = .inr e → e ∈ ([1, 2, 3] : List Nat)) : ConW l yL_round cL_round 4 (some .int) [(0, 6, 7, 13), (0, 6, 11, 16), (0, 6, 15, 19)] 9 147 [.inr (some (4, 0, 0)), .inl (.int a1), .inl (.int a2)] (E, κ) (E, κ') (some (.inl (.int (lwR rs)))) := by
  refine ConW_of hfl (by decide) (Nat.le_of_ble_eq_true rfl) rfl ⟨.int, rfl, rfl⟩ ?_
  intro X B g O hKP hmL hxt hE
  change J X B (E, κ) 0 [(0, .inr (some (4, 0, 0))), (1, .inl (.int a1)), (2, .inl (.int a2))] []
  refine J_aload_n O.mo dL_round_0 0 rfl ?_
  refine J_iload_n O.mo dL_round_1 1 rfl ?_
  refine J_iload_n O.mo dL_round_2 2 rfl ?_
  refine J_callVXH O hKP (as := [.inl (.int a1), .inl (.int a2)]) (rest := []) (c_X10_round hfl h0 h) rfl (kd0 := 10) (k10_0 h0) (l10_0 h0) (T := TX10) (N := 4) rfl (by decide) mw688 mw689 mw690 mw320 mw691 pd_X10_round rfl (by decide) rfl (Nat.le_of_ble_eq_true rfl) (sl_p (s10_0 h0) (sl_v (sl_v sl_0))) st_0 dL_round_3 hxt (fun s hs => ?_) (fun v hv => ?_)
  · cases rs with
    | inl r => cases hs
    | inr e =>
      have hs' : exN e = s := by injection hs
      have he1 := he e rfl
      clear he
      simp only [List.mem_cons, List.not_mem_nil, or_false] at he1
      rcases he1 with rfl | rfl | rfl
      · subst hs'
        refine ⟨7, ⟨[], ⟨0, 6, 7, 13⟩, [⟨0, 6, 11, 16⟩, ⟨0, 6, 15, 19⟩], rfl, fun _ h => absurd h List.not_mem_nil, rfl, by decide, ⟨_, mw647, mw648⟩, rfl⟩, fun q => ?_⟩
        refine J_astore_nR O.mo dL_round_7 (by rw [hmL]; decide) rfl rfl ?_
        refine J_ldc O mw649 dL_round_8 ?_
        exact hE _ _ dL_round_10
      · subst hs'
        refine ⟨11, ⟨[⟨0, 6, 7, 13⟩], ⟨0, 6, 11, 16⟩, [⟨0, 6, 15, 19⟩], rfl, List.forall_mem_cons.mpr ⟨⟨by decide, _, mw647, List.mem_of_getElem? (i := 0) rfl⟩, fun _ h => absurd h List.not_mem_nil⟩, rfl, by decide, ⟨_, mw650, mw651⟩, rfl⟩, fun q => ?_⟩
        refine J_astore_nR O.mo dL_round_11 (by rw [hmL]; decide) rfl rfl ?_
        refine J_ldc O mw652 dL_round_12 ?_
        exact hE _ _ dL_round_14
      · subst hs'
        refine ⟨15, ⟨[⟨0, 6, 7, 13⟩, ⟨0, 6, 11, 16⟩], ⟨0, 6, 15, 19⟩, [], rfl, List.forall_mem_cons.mpr ⟨⟨by decide, _, mw647, List.mem_of_getElem? (i := 1) rfl⟩, List.forall_mem_cons.mpr ⟨⟨by decide, _, mw650, List.mem_of_getElem? (i := 2) rfl⟩, fun _ h => absurd h List.not_mem_nil⟩⟩, rfl, by decide, ⟨_, mw653, mw654⟩, rfl⟩, fun q => ?_⟩
        refine J_astore_nR O.mo dL_round_15 (by rw [hmL]; decide) rfl rfl ?_
        refine J_ldc O mw655 dL_round_16 ?_
        exact hE _ _ dL_round_18
  · cases rs with
    | inr e => cases hv
    | inl r =>
      have hv' : some (.inl (.int r)) = v := by injection hv
      subst hv'
      show J X B (E, κ') 6 [(0, .inr (some (4, 0, 0))), (1, .inl (.int a1)), (2, .inl (.int a2))] [.inl (.int r)]
      exact hE _ _ dL_round_6
set_option maxHeartbeats 4000000 in
set_option maxRecDepth 100000 in
theorem c_L_land {l : Launch} (hfl : l.stackTraces = false) {E : EE} {κ : K} {κ' : K} {a1 a2 : Int32} (h0 : PC 10 E 4 0 0) {rs : Int32 ⊕ Nat} (h : f_X10_land E κ a1 a2 = some (κ', rs)) (he : ∀ e, rs = .inr e → e ∈ ([1, 3] : List Nat)) : ConW l yL_land cL_land 4 (some .int) [(0, 6, 7, 13), (0, 6, 11, 19)] 9 148 [.inr (some (4, 0, 0)), .inl (.int a1), .inl (.int a2)] (E, κ) (E, κ') (some (.inl (.int (lwR rs)))) := by
  refine ConW_of hfl (by decide) (Nat.le_of_ble_eq_true rfl) rfl ⟨.int, rfl, rfl⟩ ?_
  intro X B g O hKP hmL hxt hE
  change J X B (E, κ) 0 [(0, .inr (some (4, 0, 0))), (1, .inl (.int a1)), (2, .inl (.int a2))] []
  refine J_aload_n O.mo dL_land_0 0 rfl ?_
  refine J_iload_n O.mo dL_land_1 1 rfl ?_
  refine J_iload_n O.mo dL_land_2 2 rfl ?_
  refine J_callVXH O hKP (as := [.inl (.int a1), .inl (.int a2)]) (rest := []) (c_X10_land hfl h0 h) rfl (kd0 := 10) (k10_0 h0) (l10_0 h0) (T := TX10) (N := 4) rfl (by decide) mw692 mw693 mw694 mw320 mw695 pd_X10_land rfl (by decide) rfl (Nat.le_of_ble_eq_true rfl) (sl_p (s10_0 h0) (sl_v (sl_v sl_0))) st_0 dL_land_3 hxt (fun s hs => ?_) (fun v hv => ?_)
  · cases rs with
    | inl r => cases hs
    | inr e =>
      have hs' : exN e = s := by injection hs
      have he1 := he e rfl
      clear he
      simp only [List.mem_cons, List.not_mem_nil, or_false] at he1
      rcases he1 with rfl | rfl
      · subst hs'
        refine ⟨7, ⟨[], ⟨0, 6, 7, 13⟩, [⟨0, 6, 11, 19⟩], rfl, fun _ h => absurd h List.not_mem_nil, rfl, by decide, ⟨_, mw647, mw648⟩, rfl⟩, fun q => ?_⟩
        refine J_astore_nR O.mo dL_land_7 (by rw [hmL]; decide) rfl rfl ?_
        refine J_ldc O mw649 dL_land_8 ?_
        exact hE _ _ dL_land_10
      · subst hs'
        refine ⟨11, ⟨[⟨0, 6, 7, 13⟩], ⟨0, 6, 11, 19⟩, [], rfl, List.forall_mem_cons.mpr ⟨⟨by decide, _, mw647, List.mem_of_getElem? (i := 1) rfl⟩, fun _ h => absurd h List.not_mem_nil⟩, rfl, by decide, ⟨_, mw653, mw654⟩, rfl⟩, fun q => ?_⟩
        refine J_astore_nR O.mo dL_land_11 (by rw [hmL]; decide) rfl rfl ?_
        refine J_ldc O mw655 dL_land_12 ?_
        exact hE _ _ dL_land_14
  · cases rs with
    | inr e => cases hv
    | inl r =>
      have hv' : some (.inl (.int r)) = v := by injection hv
      subst hv'
      show J X B (E, κ') 6 [(0, .inr (some (4, 0, 0))), (1, .inl (.int a1)), (2, .inl (.int a2))] [.inl (.int r)]
      exact hE _ _ dL_land_6
set_option maxHeartbeats 4000000 in
set_option maxRecDepth 100000 in
theorem c_L_snapshot {l : Launch} (hfl : l.stackTraces = false) {E : EE} {κ : K} {x' : EE × K} {a1 : Int32} (h0 : PC 10 E 4 0 0) (hH : E.2.2.2.1 = 1) (hRN : rawN E) {rs : Int32 ⊕ Nat} (h : f_X10_snapshot E κ a1 = some (x', rs)) (he : ∀ e, rs = .inr e → e ∈ ([1, 3] : List Nat)) : ConW l yL_snapshot cL_snapshot 3 (some .int) [(0, 5, 6, 13), (0, 5, 10, 19)] 9 188 [.inr (some (4, 0, 0)), .inl (.int a1)] (E, κ) x' (some (.inl (.int (lwR rs)))) := by
  refine ConW_of hfl (by decide) (Nat.le_of_ble_eq_true rfl) rfl ⟨.int, rfl, rfl⟩ ?_
  intro X B g O hKP hmL hxt hE
  change J X B (E, κ) 0 [(0, .inr (some (4, 0, 0))), (1, .inl (.int a1))] []
  refine J_aload_n O.mo dL_snapshot_0 0 rfl ?_
  refine J_iload_n O.mo dL_snapshot_1 1 rfl ?_
  refine J_callVXH O hKP (as := [.inl (.int a1)]) (rest := []) (c_X10_snapshot hfl h0 hH hRN h) rfl (kd0 := 10) (k10_0 h0) (l10_0 h0) (T := TX10) (N := 4) rfl (by decide) mw696 mw697 mw698 mw320 mw699 pd_X10_snapshot rfl (by decide) rfl (Nat.le_of_ble_eq_true rfl) (sl_p (s10_0 h0) (sl_v sl_0)) st_0 dL_snapshot_2 hxt (fun s hs => ?_) (fun v hv => ?_)
  · cases rs with
    | inl r => cases hs
    | inr e =>
      have hs' : exN e = s := by injection hs
      have he1 := he e rfl
      clear he
      simp only [List.mem_cons, List.not_mem_nil, or_false] at he1
      rcases he1 with rfl | rfl
      · subst hs'
        refine ⟨6, ⟨[], ⟨0, 5, 6, 13⟩, [⟨0, 5, 10, 19⟩], rfl, fun _ h => absurd h List.not_mem_nil, rfl, by decide, ⟨_, mw647, mw648⟩, rfl⟩, fun q => ?_⟩
        refine J_astore_nR O.mo dL_snapshot_6 (by rw [hmL]; decide) rfl rfl ?_
        refine J_ldc O mw649 dL_snapshot_7 ?_
        exact hE _ _ dL_snapshot_9
      · subst hs'
        refine ⟨10, ⟨[⟨0, 5, 6, 13⟩], ⟨0, 5, 10, 19⟩, [], rfl, List.forall_mem_cons.mpr ⟨⟨by decide, _, mw647, List.mem_of_getElem? (i := 1) rfl⟩, fun _ h => absurd h List.not_mem_nil⟩, rfl, by decide, ⟨_, mw653, mw654⟩, rfl⟩, fun q => ?_⟩
        refine J_astore_nR O.mo dL_snapshot_10 (by rw [hmL]; decide) rfl rfl ?_
        refine J_ldc O mw655 dL_snapshot_11 ?_
        exact hE _ _ dL_snapshot_13
  · cases rs with
    | inr e => cases hv
    | inl r =>
      have hv' : some (.inl (.int r)) = v := by injection hv
      subst hv'
      show J X B x' 5 [(0, .inr (some (4, 0, 0))), (1, .inl (.int a1))] [.inl (.int r)]
      exact hE _ _ dL_snapshot_5
set_option maxHeartbeats 4000000 in
set_option maxRecDepth 100000 in
theorem c_L_restore {l : Launch} (hfl : l.stackTraces = false) {E : EE} {κ : K} {κ' : K} {a1 a2 : Int32} (h0 : PC 10 E 4 0 0) {rs : Int32 ⊕ Nat} (h : f_X10_restore E κ a1 a2 = some (κ', rs)) (he : ∀ e, rs = .inr e → e ∈ ([1, 3] : List Nat)) : ConW l yL_restore cL_restore 4 (some .int) [(0, 6, 7, 13), (0, 6, 11, 19)] 9 188 [.inr (some (4, 0, 0)), .inl (.int a1), .inl (.int a2)] (E, κ) (E, κ') (some (.inl (.int (lwR rs)))) := by
  refine ConW_of hfl (by decide) (Nat.le_of_ble_eq_true rfl) rfl ⟨.int, rfl, rfl⟩ ?_
  intro X B g O hKP hmL hxt hE
  change J X B (E, κ) 0 [(0, .inr (some (4, 0, 0))), (1, .inl (.int a1)), (2, .inl (.int a2))] []
  refine J_aload_n O.mo dL_restore_0 0 rfl ?_
  refine J_iload_n O.mo dL_restore_1 1 rfl ?_
  refine J_iload_n O.mo dL_restore_2 2 rfl ?_
  refine J_callVXH O hKP (as := [.inl (.int a1), .inl (.int a2)]) (rest := []) (c_X10_restore hfl h0 h) rfl (kd0 := 10) (k10_0 h0) (l10_0 h0) (T := TX10) (N := 4) rfl (by decide) mw700 mw701 mw702 mw320 mw703 pd_X10_restore rfl (by decide) rfl (Nat.le_of_ble_eq_true rfl) (sl_p (s10_0 h0) (sl_v (sl_v sl_0))) st_0 dL_restore_3 hxt (fun s hs => ?_) (fun v hv => ?_)
  · cases rs with
    | inl r => cases hs
    | inr e =>
      have hs' : exN e = s := by injection hs
      have he1 := he e rfl
      clear he
      simp only [List.mem_cons, List.not_mem_nil, or_false] at he1
      rcases he1 with rfl | rfl
      · subst hs'
        refine ⟨7, ⟨[], ⟨0, 6, 7, 13⟩, [⟨0, 6, 11, 19⟩], rfl, fun _ h => absurd h List.not_mem_nil, rfl, by decide, ⟨_, mw647, mw648⟩, rfl⟩, fun q => ?_⟩
        refine J_astore_nR O.mo dL_restore_7 (by rw [hmL]; decide) rfl rfl ?_
        refine J_ldc O mw649 dL_restore_8 ?_
        exact hE _ _ dL_restore_10
      · subst hs'
        refine ⟨11, ⟨[⟨0, 6, 7, 13⟩], ⟨0, 6, 11, 19⟩, [], rfl, List.forall_mem_cons.mpr ⟨⟨by decide, _, mw647, List.mem_of_getElem? (i := 1) rfl⟩, fun _ h => absurd h List.not_mem_nil⟩, rfl, by decide, ⟨_, mw653, mw654⟩, rfl⟩, fun q => ?_⟩
        refine J_astore_nR O.mo dL_restore_11 (by rw [hmL]; decide) rfl rfl ?_
        refine J_ldc O mw655 dL_restore_12 ?_
        exact hE _ _ dL_restore_14
  · cases rs with
    | inr e => cases hv
    | inl r =>
      have hv' : some (.inl (.int r)) = v := by injection hv
      subst hv'
      show J X B (E, κ') 6 [(0, .inr (some (4, 0, 0))), (1, .inl (.int a1)), (2, .inl (.int a2))] [.inl (.int r)]
      exact hE _ _ dL_restore_6
set_option maxHeartbeats 4000000 in
set_option maxRecDepth 100000 in
theorem c_L_follow {l : Launch} (hfl : l.stackTraces = false) {E : EE} {κ : K} {κ' : K} {a1 a2 : Int32} (h0 : PC 10 E 4 0 0) {rs : Int32 ⊕ Nat} (h : f_X10_follow E κ a1 a2 = some (κ', rs)) (he : ∀ e, rs = .inr e → e ∈ ([1, 3] : List Nat)) : ConW l yL_follow cL_follow 4 (some .int) [(0, 14, 15, 13), (0, 14, 19, 19)] 9 230 [.inr (some (4, 0, 0)), .inl (.int a1), .inl (.int a2)] (E, κ) (E, κ') (some (.inl (.int (lwRB rs)))) := by
  refine ConW_of hfl (by decide) (Nat.le_of_ble_eq_true rfl) rfl ⟨.int, rfl, rfl⟩ ?_
  intro X B g O hKP hmL hxt hE
  change J X B (E, κ) 0 [(0, .inr (some (4, 0, 0))), (1, .inl (.int a1)), (2, .inl (.int a2))] []
  refine J_aload_n O.mo dL_follow_0 0 rfl ?_
  refine J_iload_n O.mo dL_follow_1 1 rfl ?_
  refine J_iload_n O.mo dL_follow_2 2 rfl ?_
  refine J_callVXH O hKP (as := [.inl (.int a1), .inl (.int a2)]) (rest := []) (c_X10_follow hfl h0 h) rfl (kd0 := 10) (k10_0 h0) (l10_0 h0) (T := TX10) (N := 4) rfl (by decide) mw704 mw705 mw706 mw320 mw707 pd_X10_follow rfl (by decide) rfl (Nat.le_of_ble_eq_true rfl) (sl_p (s10_0 h0) (sl_v (sl_v sl_0))) st_0 dL_follow_3 hxt (fun s hs => ?_) (fun v hv => ?_)
  · cases rs with
    | inl r => cases hs
    | inr e =>
      have hs' : exN e = s := by injection hs
      have he1 := he e rfl
      clear he
      simp only [List.mem_cons, List.not_mem_nil, or_false] at he1
      rcases he1 with rfl | rfl
      · subst hs'
        refine ⟨15, ⟨[], ⟨0, 14, 15, 13⟩, [⟨0, 14, 19, 19⟩], rfl, fun _ h => absurd h List.not_mem_nil, rfl, by decide, ⟨_, mw647, mw648⟩, rfl⟩, fun q => ?_⟩
        refine J_astore_nR O.mo dL_follow_15 (by rw [hmL]; decide) rfl rfl ?_
        refine J_ldc O mw649 dL_follow_16 ?_
        exact hE _ _ dL_follow_18
      · subst hs'
        refine ⟨19, ⟨[⟨0, 14, 15, 13⟩], ⟨0, 14, 19, 19⟩, [], rfl, List.forall_mem_cons.mpr ⟨⟨by decide, _, mw647, List.mem_of_getElem? (i := 1) rfl⟩, fun _ h => absurd h List.not_mem_nil⟩, rfl, by decide, ⟨_, mw653, mw654⟩, rfl⟩, fun q => ?_⟩
        refine J_astore_nR O.mo dL_follow_19 (by rw [hmL]; decide) rfl rfl ?_
        refine J_ldc O mw655 dL_follow_20 ?_
        exact hE _ _ dL_follow_22
  · cases rs with
    | inr e => cases hv
    | inl r =>
      have hv' : some (.inl (.int r)) = v := by injection hv
      subst hv'
      show J X B (E, κ') 6 [(0, .inr (some (4, 0, 0))), (1, .inl (.int a1)), (2, .inl (.int a2))] [.inl (.int r)]
      refine J_if_eq O.mo (tgt := 13) dL_follow_6 (by decide) (fun hc => ?_) (fun hc => ?_)
      · refine J_iconst O.mo (v := bI r) dL_follow_13 (by rw [show bI r = 0 from if_pos hc]; decide) ?_
        exact hE _ _ dL_follow_14
      · refine J_iconst O.mo (v := bI r) dL_follow_9 (by rw [show bI r = 1 from if_neg hc]; decide) ?_
        refine J_goto O.mo (tgt := 14) dL_follow_10 (by decide) ?_
        exact hE _ _ dL_follow_14
set_option maxHeartbeats 4000000 in
set_option maxRecDepth 100000 in
theorem c_L_step {l : Launch} (hfl : l.stackTraces = false) {E : EE} {κ : K} {κ' : K} {a1 : Int32} (h0 : PC 10 E 4 0 0) {rs : Int32 ⊕ Nat} (h : f_X10_step E κ a1 = some (κ', rs)) (he : ∀ e, rs = .inr e → e ∈ ([1, 3] : List Nat)) : ConW l yL_step cL_step 3 (some .int) [(0, 5, 6, 13), (0, 5, 10, 19)] 9 228 [.inr (some (4, 0, 0)), .inl (.int a1)] (E, κ) (E, κ') (some (.inl (.int (lwR rs)))) := by
  refine ConW_of hfl (by decide) (Nat.le_of_ble_eq_true rfl) rfl ⟨.int, rfl, rfl⟩ ?_
  intro X B g O hKP hmL hxt hE
  change J X B (E, κ) 0 [(0, .inr (some (4, 0, 0))), (1, .inl (.int a1))] []
  refine J_aload_n O.mo dL_step_0 0 rfl ?_
  refine J_iload_n O.mo dL_step_1 1 rfl ?_
  refine J_callVXH O hKP (as := [.inl (.int a1)]) (rest := []) (c_X10_step hfl h0 h) rfl (kd0 := 10) (k10_0 h0) (l10_0 h0) (T := TX10) (N := 4) rfl (by decide) mw708 mw709 mw710 mw320 mw711 pd_X10_step rfl (by decide) rfl (Nat.le_of_ble_eq_true rfl) (sl_p (s10_0 h0) (sl_v sl_0)) st_0 dL_step_2 hxt (fun s hs => ?_) (fun v hv => ?_)
  · cases rs with
    | inl r => cases hs
    | inr e =>
      have hs' : exN e = s := by injection hs
      have he1 := he e rfl
      clear he
      simp only [List.mem_cons, List.not_mem_nil, or_false] at he1
      rcases he1 with rfl | rfl
      · subst hs'
        refine ⟨6, ⟨[], ⟨0, 5, 6, 13⟩, [⟨0, 5, 10, 19⟩], rfl, fun _ h => absurd h List.not_mem_nil, rfl, by decide, ⟨_, mw647, mw648⟩, rfl⟩, fun q => ?_⟩
        refine J_astore_nR O.mo dL_step_6 (by rw [hmL]; decide) rfl rfl ?_
        refine J_ldc O mw649 dL_step_7 ?_
        exact hE _ _ dL_step_9
      · subst hs'
        refine ⟨10, ⟨[⟨0, 5, 6, 13⟩], ⟨0, 5, 10, 19⟩, [], rfl, List.forall_mem_cons.mpr ⟨⟨by decide, _, mw647, List.mem_of_getElem? (i := 1) rfl⟩, fun _ h => absurd h List.not_mem_nil⟩, rfl, by decide, ⟨_, mw653, mw654⟩, rfl⟩, fun q => ?_⟩
        refine J_astore_nR O.mo dL_step_10 (by rw [hmL]; decide) rfl rfl ?_
        refine J_ldc O mw655 dL_step_11 ?_
        exact hE _ _ dL_step_13
  · cases rs with
    | inr e => cases hv
    | inl r =>
      have hv' : some (.inl (.int r)) = v := by injection hv
      subst hv'
      show J X B (E, κ') 5 [(0, .inr (some (4, 0, 0))), (1, .inl (.int a1))] [.inl (.int r)]
      exact hE _ _ dL_step_5
set_option maxHeartbeats 4000000 in
set_option maxRecDepth 100000 in
theorem c_L_fail {l : Launch} (hfl : l.stackTraces = false) {E : EE} {κ : K} {κ' : K} {a1 : Int32} (h0 : PC 10 E 4 0 0) {rs : Int32 ⊕ Nat} (h : f_X10_fail E κ a1 = some (κ', rs)) (he : ∀ e, rs = .inr e → e ∈ ([1, 3] : List Nat)) : ConW l yL_fail cL_fail 3 (some .int) [(0, 5, 6, 13), (0, 5, 10, 19)] 9 212 [.inr (some (4, 0, 0)), .inl (.int a1)] (E, κ) (E, κ') (some (.inl (.int (lwR rs)))) := by
  refine ConW_of hfl (by decide) (Nat.le_of_ble_eq_true rfl) rfl ⟨.int, rfl, rfl⟩ ?_
  intro X B g O hKP hmL hxt hE
  change J X B (E, κ) 0 [(0, .inr (some (4, 0, 0))), (1, .inl (.int a1))] []
  refine J_aload_n O.mo dL_fail_0 0 rfl ?_
  refine J_iload_n O.mo dL_fail_1 1 rfl ?_
  refine J_callVXH O hKP (as := [.inl (.int a1)]) (rest := []) (c_X10_fail hfl h0 h) rfl (kd0 := 10) (k10_0 h0) (l10_0 h0) (T := TX10) (N := 4) rfl (by decide) mw712 mw713 mw714 mw320 mw715 pd_X10_fail rfl (by decide) rfl (Nat.le_of_ble_eq_true rfl) (sl_p (s10_0 h0) (sl_v sl_0)) st_0 dL_fail_2 hxt (fun s hs => ?_) (fun v hv => ?_)
  · cases rs with
    | inl r => cases hs
    | inr e =>
      have hs' : exN e = s := by injection hs
      have he1 := he e rfl
      clear he
      simp only [List.mem_cons, List.not_mem_nil, or_false] at he1
      rcases he1 with rfl | rfl
      · subst hs'
        refine ⟨6, ⟨[], ⟨0, 5, 6, 13⟩, [⟨0, 5, 10, 19⟩], rfl, fun _ h => absurd h List.not_mem_nil, rfl, by decide, ⟨_, mw647, mw648⟩, rfl⟩, fun q => ?_⟩
        refine J_astore_nR O.mo dL_fail_6 (by rw [hmL]; decide) rfl rfl ?_
        refine J_ldc O mw649 dL_fail_7 ?_
        exact hE _ _ dL_fail_9
      · subst hs'
        refine ⟨10, ⟨[⟨0, 5, 6, 13⟩], ⟨0, 5, 10, 19⟩, [], rfl, List.forall_mem_cons.mpr ⟨⟨by decide, _, mw647, List.mem_of_getElem? (i := 1) rfl⟩, fun _ h => absurd h List.not_mem_nil⟩, rfl, by decide, ⟨_, mw653, mw654⟩, rfl⟩, fun q => ?_⟩
        refine J_astore_nR O.mo dL_fail_10 (by rw [hmL]; decide) rfl rfl ?_
        refine J_ldc O mw655 dL_fail_11 ?_
        exact hE _ _ dL_fail_13
  · cases rs with
    | inr e => cases hv
    | inl r =>
      have hv' : some (.inl (.int r)) = v := by injection hv
      subst hv'
      show J X B (E, κ') 5 [(0, .inr (some (4, 0, 0))), (1, .inl (.int a1))] [.inl (.int r)]
      exact hE _ _ dL_fail_5
set_option maxHeartbeats 4000000 in
set_option maxRecDepth 100000 in
theorem c_L_mend {l : Launch} (hfl : l.stackTraces = false) {E : EE} {κ : K} {κ' : K} {a1 : Int32} (h0 : PC 10 E 4 0 0) {rs : Unit ⊕ Nat} (h : f_X10_mend E κ a1 = some (κ', rs)) (he : ∀ e, rs = .inr e → e ∈ ([1, 3] : List Nat)) : ConW l yL_mend cL_mend 3 (some .int) [(0, 6, 7, 13), (0, 6, 11, 19)] 9 146 [.inr (some (4, 0, 0)), .inl (.int a1)] (E, κ) (E, κ') (some (.inl (.int (lwRV rs)))) := by
  refine ConW_of hfl (by decide) (Nat.le_of_ble_eq_true rfl) rfl ⟨.int, rfl, rfl⟩ ?_
  intro X B g O hKP hmL hxt hE
  change J X B (E, κ) 0 [(0, .inr (some (4, 0, 0))), (1, .inl (.int a1))] []
  refine J_aload_n O.mo dL_mend_0 0 rfl ?_
  refine J_iload_n O.mo dL_mend_1 1 rfl ?_
  refine J_callVXH O hKP (as := [.inl (.int a1)]) (rest := []) (c_X10_mend hfl h0 h) rfl (kd0 := 10) (k10_0 h0) (l10_0 h0) (T := TX10) (N := 4) rfl (by decide) mw716 mw717 mw718 mw320 mw719 pd_X10_mend rfl (by decide) rfl (Nat.le_of_ble_eq_true rfl) (sl_p (s10_0 h0) (sl_v sl_0)) st_0 dL_mend_2 hxt (fun s hs => ?_) (fun v hv => ?_)
  · cases rs with
    | inl r => cases hs
    | inr e =>
      have hs' : exN e = s := by injection hs
      have he1 := he e rfl
      clear he
      simp only [List.mem_cons, List.not_mem_nil, or_false] at he1
      rcases he1 with rfl | rfl
      · subst hs'
        refine ⟨7, ⟨[], ⟨0, 6, 7, 13⟩, [⟨0, 6, 11, 19⟩], rfl, fun _ h => absurd h List.not_mem_nil, rfl, by decide, ⟨_, mw647, mw648⟩, rfl⟩, fun q => ?_⟩
        refine J_astore_nR O.mo dL_mend_7 (by rw [hmL]; decide) rfl rfl ?_
        refine J_ldc O mw649 dL_mend_8 ?_
        exact hE _ _ dL_mend_10
      · subst hs'
        refine ⟨11, ⟨[⟨0, 6, 7, 13⟩], ⟨0, 6, 11, 19⟩, [], rfl, List.forall_mem_cons.mpr ⟨⟨by decide, _, mw647, List.mem_of_getElem? (i := 1) rfl⟩, fun _ h => absurd h List.not_mem_nil⟩, rfl, by decide, ⟨_, mw653, mw654⟩, rfl⟩, fun q => ?_⟩
        refine J_astore_nR O.mo dL_mend_11 (by rw [hmL]; decide) rfl rfl ?_
        refine J_ldc O mw655 dL_mend_12 ?_
        exact hE _ _ dL_mend_14
  · cases rs with
    | inr e => cases hv
    | inl r =>
      have hv' : none = v := by injection hv
      subst hv'
      show J X B (E, κ') 5 [(0, .inr (some (4, 0, 0))), (1, .inl (.int a1))] []
      refine J_iconst O.mo (v := 0) dL_mend_5 (by decide) ?_
      exact hE _ _ dL_mend_6
set_option maxHeartbeats 4000000 in
set_option maxRecDepth 100000 in
theorem c_L_of {l : Launch} (hfl : l.stackTraces = false) {E : EE} {κ : K} {κ' : K} {a1 a2 : Int32} (h0 : PC 10 E 4 0 0) {rs : Int32 ⊕ Nat} (h : f_X10_of E κ a1 a2 = some (κ', rs)) (he : ∀ e, rs = .inr e → e ∈ ([1, 2] : List Nat)) : ConW l yL_of cL_of 4 (some .int) [(0, 6, 7, 13), (0, 6, 11, 16)] 9 148 [.inr (some (4, 0, 0)), .inl (.int a1), .inl (.int a2)] (E, κ) (E, κ') (some (.inl (.int (lwR rs)))) := by
  refine ConW_of hfl (by decide) (Nat.le_of_ble_eq_true rfl) rfl ⟨.int, rfl, rfl⟩ ?_
  intro X B g O hKP hmL hxt hE
  change J X B (E, κ) 0 [(0, .inr (some (4, 0, 0))), (1, .inl (.int a1)), (2, .inl (.int a2))] []
  refine J_aload_n O.mo dL_of_0 0 rfl ?_
  refine J_iload_n O.mo dL_of_1 1 rfl ?_
  refine J_iload_n O.mo dL_of_2 2 rfl ?_
  refine J_callVXH O hKP (as := [.inl (.int a1), .inl (.int a2)]) (rest := []) (c_X10_of hfl h0 h) rfl (kd0 := 10) (k10_0 h0) (l10_0 h0) (T := TX10) (N := 4) rfl (by decide) mw720 mw721 mw722 mw320 mw723 pd_X10_of rfl (by decide) rfl (Nat.le_of_ble_eq_true rfl) (sl_p (s10_0 h0) (sl_v (sl_v sl_0))) st_0 dL_of_3 hxt (fun s hs => ?_) (fun v hv => ?_)
  · cases rs with
    | inl r => cases hs
    | inr e =>
      have hs' : exN e = s := by injection hs
      have he1 := he e rfl
      clear he
      simp only [List.mem_cons, List.not_mem_nil, or_false] at he1
      rcases he1 with rfl | rfl
      · subst hs'
        refine ⟨7, ⟨[], ⟨0, 6, 7, 13⟩, [⟨0, 6, 11, 16⟩], rfl, fun _ h => absurd h List.not_mem_nil, rfl, by decide, ⟨_, mw647, mw648⟩, rfl⟩, fun q => ?_⟩
        refine J_astore_nR O.mo dL_of_7 (by rw [hmL]; decide) rfl rfl ?_
        refine J_ldc O mw649 dL_of_8 ?_
        exact hE _ _ dL_of_10
      · subst hs'
        refine ⟨11, ⟨[⟨0, 6, 7, 13⟩], ⟨0, 6, 11, 16⟩, [], rfl, List.forall_mem_cons.mpr ⟨⟨by decide, _, mw647, List.mem_of_getElem? (i := 0) rfl⟩, fun _ h => absurd h List.not_mem_nil⟩, rfl, by decide, ⟨_, mw650, mw651⟩, rfl⟩, fun q => ?_⟩
        refine J_astore_nR O.mo dL_of_11 (by rw [hmL]; decide) rfl rfl ?_
        refine J_ldc O mw652 dL_of_12 ?_
        exact hE _ _ dL_of_14
  · cases rs with
    | inr e => cases hv
    | inl r =>
      have hv' : some (.inl (.int r)) = v := by injection hv
      subst hv'
      show J X B (E, κ') 6 [(0, .inr (some (4, 0, 0))), (1, .inl (.int a1)), (2, .inl (.int a2))] [.inl (.int r)]
      exact hE _ _ dL_of_6
set_option maxHeartbeats 4000000 in
set_option maxRecDepth 100000 in
theorem c_L_register {l : Launch} (hfl : l.stackTraces = false) {E : EE} {κ : K} {κ' : K} {a1 a2 : Int32} (h0 : PC 10 E 4 0 0) {rs : Int32 ⊕ Nat} (h : f_X10_register E κ a1 a2 = some (κ', rs)) (he : ∀ e, rs = .inr e → e ∈ ([1] : List Nat)) : ConW l yL_register cL_register 4 (some .int) [(0, 6, 7, 13)] 9 147 [.inr (some (4, 0, 0)), .inl (.int a1), .inl (.int a2)] (E, κ) (E, κ') (some (.inl (.int (lwR rs)))) := by
  refine ConW_of hfl (by decide) (Nat.le_of_ble_eq_true rfl) rfl ⟨.int, rfl, rfl⟩ ?_
  intro X B g O hKP hmL hxt hE
  change J X B (E, κ) 0 [(0, .inr (some (4, 0, 0))), (1, .inl (.int a1)), (2, .inl (.int a2))] []
  refine J_aload_n O.mo dL_register_0 0 rfl ?_
  refine J_iload_n O.mo dL_register_1 1 rfl ?_
  refine J_iload_n O.mo dL_register_2 2 rfl ?_
  refine J_callVXH O hKP (as := [.inl (.int a1), .inl (.int a2)]) (rest := []) (c_X10_register hfl h0 h) rfl (kd0 := 10) (k10_0 h0) (l10_0 h0) (T := TX10) (N := 4) rfl (by decide) mw724 mw725 mw726 mw320 mw727 pd_X10_register rfl (by decide) rfl (Nat.le_of_ble_eq_true rfl) (sl_p (s10_0 h0) (sl_v (sl_v sl_0))) st_0 dL_register_3 hxt (fun s hs => ?_) (fun v hv => ?_)
  · cases rs with
    | inl r => cases hs
    | inr e =>
      have hs' : exN e = s := by injection hs
      have he1 := he e rfl
      clear he
      simp only [List.mem_cons, List.not_mem_nil, or_false] at he1
      subst he1
      subst hs'
      refine ⟨7, ⟨[], ⟨0, 6, 7, 13⟩, [], rfl, fun _ h => absurd h List.not_mem_nil, rfl, by decide, ⟨_, mw647, mw648⟩, rfl⟩, fun q => ?_⟩
      refine J_astore_nR O.mo dL_register_7 (by rw [hmL]; decide) rfl rfl ?_
      refine J_ldc O mw649 dL_register_8 ?_
      exact hE _ _ dL_register_10
  · cases rs with
    | inr e => cases hv
    | inl r =>
      have hv' : some (.inl (.int r)) = v := by injection hv
      subst hv'
      show J X B (E, κ') 6 [(0, .inr (some (4, 0, 0))), (1, .inl (.int a1)), (2, .inl (.int a2))] [.inl (.int r)]
      exact hE _ _ dL_register_6
set_option maxHeartbeats 4000000 in
set_option maxRecDepth 100000 in
theorem c_L_word {l : Launch} (hfl : l.stackTraces = false) {E : EE} {κ : K} {κ' : K} {a1 a2 a3 : Int32} (h0 : PC 10 E 4 0 0) {rs : Int32 ⊕ Nat} (h : f_X10_word E κ a1 a2 a3 = some (κ', rs)) (he : ∀ e, rs = .inr e → e ∈ ([1] : List Nat)) : ConW l yL_word cL_word 5 (some .int) [(0, 7, 8, 13)] 9 148 [.inr (some (4, 0, 0)), .inl (.int a1), .inl (.int a2), .inl (.int a3)] (E, κ) (E, κ') (some (.inl (.int (lwR rs)))) := by
  refine ConW_of hfl (by decide) (Nat.le_of_ble_eq_true rfl) rfl ⟨.int, rfl, rfl⟩ ?_
  intro X B g O hKP hmL hxt hE
  change J X B (E, κ) 0 [(0, .inr (some (4, 0, 0))), (1, .inl (.int a1)), (2, .inl (.int a2)), (3, .inl (.int a3))] []
  refine J_aload_n O.mo dL_word_0 0 rfl ?_
  refine J_iload_n O.mo dL_word_1 1 rfl ?_
  refine J_iload_n O.mo dL_word_2 2 rfl ?_
  refine J_iload_n O.mo dL_word_3 3 rfl ?_
  refine J_callVXH O hKP (as := [.inl (.int a1), .inl (.int a2), .inl (.int a3)]) (rest := []) (c_X10_word hfl h0 h) rfl (kd0 := 10) (k10_0 h0) (l10_0 h0) (T := TX10) (N := 4) rfl (by decide) mw728 mw729 mw730 mw320 mw731 pd_X10_word rfl (by decide) rfl (Nat.le_of_ble_eq_true rfl) (sl_p (s10_0 h0) (sl_v (sl_v (sl_v sl_0)))) st_0 dL_word_4 hxt (fun s hs => ?_) (fun v hv => ?_)
  · cases rs with
    | inl r => cases hs
    | inr e =>
      have hs' : exN e = s := by injection hs
      have he1 := he e rfl
      clear he
      simp only [List.mem_cons, List.not_mem_nil, or_false] at he1
      subst he1
      subst hs'
      refine ⟨8, ⟨[], ⟨0, 7, 8, 13⟩, [], rfl, fun _ h => absurd h List.not_mem_nil, rfl, by decide, ⟨_, mw647, mw648⟩, rfl⟩, fun q => ?_⟩
      refine J_astoreR O.mo dL_word_8 (by rw [hmL]; decide) rfl rfl ?_
      refine J_ldc O mw649 dL_word_10 ?_
      exact hE _ _ dL_word_12
  · cases rs with
    | inr e => cases hv
    | inl r =>
      have hv' : some (.inl (.int r)) = v := by injection hv
      subst hv'
      show J X B (E, κ') 7 [(0, .inr (some (4, 0, 0))), (1, .inl (.int a1)), (2, .inl (.int a2)), (3, .inl (.int a3))] [.inl (.int r)]
      exact hE _ _ dL_word_7
set_option maxHeartbeats 4000000 in
set_option maxRecDepth 100000 in
theorem c_L_pageOf {l : Launch} (hfl : l.stackTraces = false) {E : EE} {κ : K} {κ' : K} {a1 a2 : Int32} (h0 : PC 10 E 4 0 0) {rs : Int32 ⊕ Nat} (h : f_X10_pageOf E κ a1 a2 = some (κ', rs)) (he : ∀ e, rs = .inr e → e ∈ ([1] : List Nat)) : ConW l yL_pageOf cL_pageOf 4 (some .int) [(0, 6, 7, 13)] 9 147 [.inr (some (4, 0, 0)), .inl (.int a1), .inl (.int a2)] (E, κ) (E, κ') (some (.inl (.int (lwR rs)))) := by
  refine ConW_of hfl (by decide) (Nat.le_of_ble_eq_true rfl) rfl ⟨.int, rfl, rfl⟩ ?_
  intro X B g O hKP hmL hxt hE
  change J X B (E, κ) 0 [(0, .inr (some (4, 0, 0))), (1, .inl (.int a1)), (2, .inl (.int a2))] []
  refine J_aload_n O.mo dL_pageOf_0 0 rfl ?_
  refine J_iload_n O.mo dL_pageOf_1 1 rfl ?_
  refine J_iload_n O.mo dL_pageOf_2 2 rfl ?_
  refine J_callVXH O hKP (as := [.inl (.int a1), .inl (.int a2)]) (rest := []) (c_X10_pageOf hfl h0 h) rfl (kd0 := 10) (k10_0 h0) (l10_0 h0) (T := TX10) (N := 4) rfl (by decide) mw732 mw733 mw734 mw320 mw735 pd_X10_pageOf rfl (by decide) rfl (Nat.le_of_ble_eq_true rfl) (sl_p (s10_0 h0) (sl_v (sl_v sl_0))) st_0 dL_pageOf_3 hxt (fun s hs => ?_) (fun v hv => ?_)
  · cases rs with
    | inl r => cases hs
    | inr e =>
      have hs' : exN e = s := by injection hs
      have he1 := he e rfl
      clear he
      simp only [List.mem_cons, List.not_mem_nil, or_false] at he1
      subst he1
      subst hs'
      refine ⟨7, ⟨[], ⟨0, 6, 7, 13⟩, [], rfl, fun _ h => absurd h List.not_mem_nil, rfl, by decide, ⟨_, mw647, mw648⟩, rfl⟩, fun q => ?_⟩
      refine J_astore_nR O.mo dL_pageOf_7 (by rw [hmL]; decide) rfl rfl ?_
      refine J_ldc O mw649 dL_pageOf_8 ?_
      exact hE _ _ dL_pageOf_10
  · cases rs with
    | inr e => cases hv
    | inl r =>
      have hv' : some (.inl (.int r)) = v := by injection hv
      subst hv'
      show J X B (E, κ') 6 [(0, .inr (some (4, 0, 0))), (1, .inl (.int a1)), (2, .inl (.int a2))] [.inl (.int r)]
      exact hE _ _ dL_pageOf_6
set_option maxHeartbeats 4000000 in
set_option maxRecDepth 100000 in
theorem c_L_frameOf {l : Launch} (hfl : l.stackTraces = false) {E : EE} {κ : K} {κ' : K} {a1 a2 : Int32} (h0 : PC 10 E 4 0 0) {rs : Int32 ⊕ Nat} (h : f_X10_frameOf E κ a1 a2 = some (κ', rs)) (he : ∀ e, rs = .inr e → e ∈ ([1] : List Nat)) : ConW l yL_frameOf cL_frameOf 4 (some .int) [(0, 6, 7, 13)] 9 147 [.inr (some (4, 0, 0)), .inl (.int a1), .inl (.int a2)] (E, κ) (E, κ') (some (.inl (.int (lwR rs)))) := by
  refine ConW_of hfl (by decide) (Nat.le_of_ble_eq_true rfl) rfl ⟨.int, rfl, rfl⟩ ?_
  intro X B g O hKP hmL hxt hE
  change J X B (E, κ) 0 [(0, .inr (some (4, 0, 0))), (1, .inl (.int a1)), (2, .inl (.int a2))] []
  refine J_aload_n O.mo dL_frameOf_0 0 rfl ?_
  refine J_iload_n O.mo dL_frameOf_1 1 rfl ?_
  refine J_iload_n O.mo dL_frameOf_2 2 rfl ?_
  refine J_callVXH O hKP (as := [.inl (.int a1), .inl (.int a2)]) (rest := []) (c_X10_frameOf hfl h0 h) rfl (kd0 := 10) (k10_0 h0) (l10_0 h0) (T := TX10) (N := 4) rfl (by decide) mw736 mw737 mw738 mw320 mw739 pd_X10_frameOf rfl (by decide) rfl (Nat.le_of_ble_eq_true rfl) (sl_p (s10_0 h0) (sl_v (sl_v sl_0))) st_0 dL_frameOf_3 hxt (fun s hs => ?_) (fun v hv => ?_)
  · cases rs with
    | inl r => cases hs
    | inr e =>
      have hs' : exN e = s := by injection hs
      have he1 := he e rfl
      clear he
      simp only [List.mem_cons, List.not_mem_nil, or_false] at he1
      subst he1
      subst hs'
      refine ⟨7, ⟨[], ⟨0, 6, 7, 13⟩, [], rfl, fun _ h => absurd h List.not_mem_nil, rfl, by decide, ⟨_, mw647, mw648⟩, rfl⟩, fun q => ?_⟩
      refine J_astore_nR O.mo dL_frameOf_7 (by rw [hmL]; decide) rfl rfl ?_
      refine J_ldc O mw649 dL_frameOf_8 ?_
      exact hE _ _ dL_frameOf_10
  · cases rs with
    | inr e => cases hv
    | inl r =>
      have hv' : some (.inl (.int r)) = v := by injection hv
      subst hv'
      show J X B (E, κ') 6 [(0, .inr (some (4, 0, 0))), (1, .inl (.int a1)), (2, .inl (.int a2))] [.inl (.int r)]
      exact hE _ _ dL_frameOf_6
set_option maxHeartbeats 4000000 in
set_option maxRecDepth 100000 in
theorem c_L_used {l : Launch} (hfl : l.stackTraces = false) {E : EE} {κ : K} {κ' : K} {a1 : Int32} (h0 : PC 10 E 4 0 0) {rs : Int32 ⊕ Nat} (h : f_X10_used E κ a1 = some (κ', rs)) (he : ∀ e, rs = .inr e → e ∈ ([1] : List Nat)) : ConW l yL_used cL_used 3 (some .int) [(0, 5, 6, 13)] 9 145 [.inr (some (4, 0, 0)), .inl (.int a1)] (E, κ) (E, κ') (some (.inl (.int (lwR rs)))) := by
  refine ConW_of hfl (by decide) (Nat.le_of_ble_eq_true rfl) rfl ⟨.int, rfl, rfl⟩ ?_
  intro X B g O hKP hmL hxt hE
  change J X B (E, κ) 0 [(0, .inr (some (4, 0, 0))), (1, .inl (.int a1))] []
  refine J_aload_n O.mo dL_used_0 0 rfl ?_
  refine J_iload_n O.mo dL_used_1 1 rfl ?_
  refine J_callVXH O hKP (as := [.inl (.int a1)]) (rest := []) (c_X10_used hfl h0 h) rfl (kd0 := 10) (k10_0 h0) (l10_0 h0) (T := TX10) (N := 4) rfl (by decide) mw740 mw741 mw742 mw320 mw743 pd_X10_used rfl (by decide) rfl (Nat.le_of_ble_eq_true rfl) (sl_p (s10_0 h0) (sl_v sl_0)) st_0 dL_used_2 hxt (fun s hs => ?_) (fun v hv => ?_)
  · cases rs with
    | inl r => cases hs
    | inr e =>
      have hs' : exN e = s := by injection hs
      have he1 := he e rfl
      clear he
      simp only [List.mem_cons, List.not_mem_nil, or_false] at he1
      subst he1
      subst hs'
      refine ⟨6, ⟨[], ⟨0, 5, 6, 13⟩, [], rfl, fun _ h => absurd h List.not_mem_nil, rfl, by decide, ⟨_, mw647, mw648⟩, rfl⟩, fun q => ?_⟩
      refine J_astore_nR O.mo dL_used_6 (by rw [hmL]; decide) rfl rfl ?_
      refine J_ldc O mw649 dL_used_7 ?_
      exact hE _ _ dL_used_9
  · cases rs with
    | inr e => cases hv
    | inl r =>
      have hv' : some (.inl (.int r)) = v := by injection hv
      subst hv'
      show J X B (E, κ') 5 [(0, .inr (some (4, 0, 0))), (1, .inl (.int a1))] [.inl (.int r)]
      exact hE _ _ dL_used_5
set_option maxHeartbeats 4000000 in
set_option maxRecDepth 100000 in
theorem c_L_exits {l : Launch} (hfl : l.stackTraces = false) {E : EE} {κ : K} {κ' : K} {a1 a2 : Int32} (h0 : PC 10 E 4 0 0) {rs : Int32 ⊕ Nat} (h : f_X10_exits E κ a1 a2 = some (κ', rs)) (he : ∀ e, rs = .inr e → e ∈ ([1, 2] : List Nat)) : ConW l yL_exits cL_exits 4 (some .int) [(0, 6, 7, 13), (0, 6, 11, 16)] 9 147 [.inr (some (4, 0, 0)), .inl (.int a1), .inl (.int a2)] (E, κ) (E, κ') (some (.inl (.int (lwR rs)))) := by
  refine ConW_of hfl (by decide) (Nat.le_of_ble_eq_true rfl) rfl ⟨.int, rfl, rfl⟩ ?_
  intro X B g O hKP hmL hxt hE
  change J X B (E, κ) 0 [(0, .inr (some (4, 0, 0))), (1, .inl (.int a1)), (2, .inl (.int a2))] []
  refine J_aload_n O.mo dL_exits_0 0 rfl ?_
  refine J_iload_n O.mo dL_exits_1 1 rfl ?_
  refine J_iload_n O.mo dL_exits_2 2 rfl ?_
  refine J_callVXH O hKP (as := [.inl (.int a1), .inl (.int a2)]) (rest := []) (c_X10_exits hfl h0 h) rfl (kd0 := 10) (k10_0 h0) (l10_0 h0) (T := TX10) (N := 4) rfl (by decide) mw744 mw745 mw746 mw320 mw747 pd_X10_exits rfl (by decide) rfl (Nat.le_of_ble_eq_true rfl) (sl_p (s10_0 h0) (sl_v (sl_v sl_0))) st_0 dL_exits_3 hxt (fun s hs => ?_) (fun v hv => ?_)
  · cases rs with
    | inl r => cases hs
    | inr e =>
      have hs' : exN e = s := by injection hs
      have he1 := he e rfl
      clear he
      simp only [List.mem_cons, List.not_mem_nil, or_false] at he1
      rcases he1 with rfl | rfl
      · subst hs'
        refine ⟨7, ⟨[], ⟨0, 6, 7, 13⟩, [⟨0, 6, 11, 16⟩], rfl, fun _ h => absurd h List.not_mem_nil, rfl, by decide, ⟨_, mw647, mw648⟩, rfl⟩, fun q => ?_⟩
        refine J_astore_nR O.mo dL_exits_7 (by rw [hmL]; decide) rfl rfl ?_
        refine J_ldc O mw649 dL_exits_8 ?_
        exact hE _ _ dL_exits_10
      · subst hs'
        refine ⟨11, ⟨[⟨0, 6, 7, 13⟩], ⟨0, 6, 11, 16⟩, [], rfl, List.forall_mem_cons.mpr ⟨⟨by decide, _, mw647, List.mem_of_getElem? (i := 0) rfl⟩, fun _ h => absurd h List.not_mem_nil⟩, rfl, by decide, ⟨_, mw650, mw651⟩, rfl⟩, fun q => ?_⟩
        refine J_astore_nR O.mo dL_exits_11 (by rw [hmL]; decide) rfl rfl ?_
        refine J_ldc O mw652 dL_exits_12 ?_
        exact hE _ _ dL_exits_14
  · cases rs with
    | inr e => cases hv
    | inl r =>
      have hv' : some (.inl (.int r)) = v := by injection hv
      subst hv'
      show J X B (E, κ') 6 [(0, .inr (some (4, 0, 0))), (1, .inl (.int a1)), (2, .inl (.int a2))] [.inl (.int r)]
      exact hE _ _ dL_exits_6
set_option maxHeartbeats 4000000 in
set_option maxRecDepth 100000 in
theorem c_L_out {l : Launch} (hfl : l.stackTraces = false) {E : EE} {κ : K} {κ' : K} {a1 : Int32} (h0 : PC 10 E 4 0 0) {rs : Int32 ⊕ Nat} (h : f_X10_out E κ a1 = some (κ', rs)) (he : ∀ e, rs = .inr e → e ∈ ([1] : List Nat)) : ConW l yL_out cL_out 3 (some .int) [(0, 5, 6, 13)] 9 145 [.inr (some (4, 0, 0)), .inl (.int a1)] (E, κ) (E, κ') (some (.inl (.int (lwR rs)))) := by
  refine ConW_of hfl (by decide) (Nat.le_of_ble_eq_true rfl) rfl ⟨.int, rfl, rfl⟩ ?_
  intro X B g O hKP hmL hxt hE
  change J X B (E, κ) 0 [(0, .inr (some (4, 0, 0))), (1, .inl (.int a1))] []
  refine J_aload_n O.mo dL_out_0 0 rfl ?_
  refine J_iload_n O.mo dL_out_1 1 rfl ?_
  refine J_callVXH O hKP (as := [.inl (.int a1)]) (rest := []) (c_X10_out hfl h0 h) rfl (kd0 := 10) (k10_0 h0) (l10_0 h0) (T := TX10) (N := 4) rfl (by decide) mw748 mw749 mw750 mw320 mw751 pd_X10_out rfl (by decide) rfl (Nat.le_of_ble_eq_true rfl) (sl_p (s10_0 h0) (sl_v sl_0)) st_0 dL_out_2 hxt (fun s hs => ?_) (fun v hv => ?_)
  · cases rs with
    | inl r => cases hs
    | inr e =>
      have hs' : exN e = s := by injection hs
      have he1 := he e rfl
      clear he
      simp only [List.mem_cons, List.not_mem_nil, or_false] at he1
      subst he1
      subst hs'
      refine ⟨6, ⟨[], ⟨0, 5, 6, 13⟩, [], rfl, fun _ h => absurd h List.not_mem_nil, rfl, by decide, ⟨_, mw647, mw648⟩, rfl⟩, fun q => ?_⟩
      refine J_astore_nR O.mo dL_out_6 (by rw [hmL]; decide) rfl rfl ?_
      refine J_ldc O mw649 dL_out_7 ?_
      exact hE _ _ dL_out_9
  · cases rs with
    | inr e => cases hv
    | inl r =>
      have hv' : some (.inl (.int r)) = v := by injection hv
      subst hv'
      show J X B (E, κ') 5 [(0, .inr (some (4, 0, 0))), (1, .inl (.int a1))] [.inl (.int r)]
      exact hE _ _ dL_out_5
set_option maxHeartbeats 4000000 in
set_option maxRecDepth 100000 in
theorem c_L_outAt {l : Launch} (hfl : l.stackTraces = false) {E : EE} {κ : K} {κ' : K} {a1 a2 : Int32} (h0 : PC 10 E 4 0 0) {rs : Int32 ⊕ Nat} (h : f_X10_outAt E κ a1 a2 = some (κ', rs)) (he : ∀ e, rs = .inr e → e ∈ ([1] : List Nat)) : ConW l yL_outAt cL_outAt 4 (some .int) [(0, 6, 7, 13)] 9 147 [.inr (some (4, 0, 0)), .inl (.int a1), .inl (.int a2)] (E, κ) (E, κ') (some (.inl (.int (lwR rs)))) := by
  refine ConW_of hfl (by decide) (Nat.le_of_ble_eq_true rfl) rfl ⟨.int, rfl, rfl⟩ ?_
  intro X B g O hKP hmL hxt hE
  change J X B (E, κ) 0 [(0, .inr (some (4, 0, 0))), (1, .inl (.int a1)), (2, .inl (.int a2))] []
  refine J_aload_n O.mo dL_outAt_0 0 rfl ?_
  refine J_iload_n O.mo dL_outAt_1 1 rfl ?_
  refine J_iload_n O.mo dL_outAt_2 2 rfl ?_
  refine J_callVXH O hKP (as := [.inl (.int a1), .inl (.int a2)]) (rest := []) (c_X10_outAt hfl h0 h) rfl (kd0 := 10) (k10_0 h0) (l10_0 h0) (T := TX10) (N := 4) rfl (by decide) mw752 mw753 mw754 mw320 mw755 pd_X10_outAt rfl (by decide) rfl (Nat.le_of_ble_eq_true rfl) (sl_p (s10_0 h0) (sl_v (sl_v sl_0))) st_0 dL_outAt_3 hxt (fun s hs => ?_) (fun v hv => ?_)
  · cases rs with
    | inl r => cases hs
    | inr e =>
      have hs' : exN e = s := by injection hs
      have he1 := he e rfl
      clear he
      simp only [List.mem_cons, List.not_mem_nil, or_false] at he1
      subst he1
      subst hs'
      refine ⟨7, ⟨[], ⟨0, 6, 7, 13⟩, [], rfl, fun _ h => absurd h List.not_mem_nil, rfl, by decide, ⟨_, mw647, mw648⟩, rfl⟩, fun q => ?_⟩
      refine J_astore_nR O.mo dL_outAt_7 (by rw [hmL]; decide) rfl rfl ?_
      refine J_ldc O mw649 dL_outAt_8 ?_
      exact hE _ _ dL_outAt_10
  · cases rs with
    | inr e => cases hv
    | inl r =>
      have hv' : some (.inl (.int r)) = v := by injection hv
      subst hv'
      show J X B (E, κ') 6 [(0, .inr (some (4, 0, 0))), (1, .inl (.int a1)), (2, .inl (.int a2))] [.inl (.int r)]
      exact hE _ _ dL_outAt_6
set_option maxHeartbeats 4000000 in
set_option maxRecDepth 100000 in
theorem c_L_held {l : Launch} (hfl : l.stackTraces = false) {E : EE} {κ : K} {κ' : K} {a1 : Int32} (h0 : PC 10 E 4 0 0) {rs : Int32 ⊕ Nat} (h : f_X10_held E κ a1 = some (κ', rs)) (he : ∀ e, rs = .inr e → e ∈ ([1] : List Nat)) : ConW l yL_held cL_held 3 (some .int) [(0, 5, 6, 13)] 9 145 [.inr (some (4, 0, 0)), .inl (.int a1)] (E, κ) (E, κ') (some (.inl (.int (lwR rs)))) := by
  refine ConW_of hfl (by decide) (Nat.le_of_ble_eq_true rfl) rfl ⟨.int, rfl, rfl⟩ ?_
  intro X B g O hKP hmL hxt hE
  change J X B (E, κ) 0 [(0, .inr (some (4, 0, 0))), (1, .inl (.int a1))] []
  refine J_aload_n O.mo dL_held_0 0 rfl ?_
  refine J_iload_n O.mo dL_held_1 1 rfl ?_
  refine J_callVXH O hKP (as := [.inl (.int a1)]) (rest := []) (c_X10_held hfl h0 h) rfl (kd0 := 10) (k10_0 h0) (l10_0 h0) (T := TX10) (N := 4) rfl (by decide) mw756 mw757 mw758 mw320 mw759 pd_X10_held rfl (by decide) rfl (Nat.le_of_ble_eq_true rfl) (sl_p (s10_0 h0) (sl_v sl_0)) st_0 dL_held_2 hxt (fun s hs => ?_) (fun v hv => ?_)
  · cases rs with
    | inl r => cases hs
    | inr e =>
      have hs' : exN e = s := by injection hs
      have he1 := he e rfl
      clear he
      simp only [List.mem_cons, List.not_mem_nil, or_false] at he1
      subst he1
      subst hs'
      refine ⟨6, ⟨[], ⟨0, 5, 6, 13⟩, [], rfl, fun _ h => absurd h List.not_mem_nil, rfl, by decide, ⟨_, mw647, mw648⟩, rfl⟩, fun q => ?_⟩
      refine J_astore_nR O.mo dL_held_6 (by rw [hmL]; decide) rfl rfl ?_
      refine J_ldc O mw649 dL_held_7 ?_
      exact hE _ _ dL_held_9
  · cases rs with
    | inr e => cases hv
    | inl r =>
      have hv' : some (.inl (.int r)) = v := by injection hv
      subst hv'
      show J X B (E, κ') 5 [(0, .inr (some (4, 0, 0))), (1, .inl (.int a1))] [.inl (.int r)]
      exact hE _ _ dL_held_5
set_option maxHeartbeats 4000000 in
set_option maxRecDepth 100000 in
theorem c_L_stored {l : Launch} (hfl : l.stackTraces = false) {E : EE} {κ : K} {κ' : K} {a1 : Int32} (h0 : PC 10 E 4 0 0) {rs : Int32 ⊕ Nat} (h : f_X10_stored E κ a1 = some (κ', rs)) (he : ∀ e, rs = .inr e → e ∈ ([1] : List Nat)) : ConW l yL_stored cL_stored 3 (some .int) [(0, 5, 6, 13)] 9 145 [.inr (some (4, 0, 0)), .inl (.int a1)] (E, κ) (E, κ') (some (.inl (.int (lwR rs)))) := by
  refine ConW_of hfl (by decide) (Nat.le_of_ble_eq_true rfl) rfl ⟨.int, rfl, rfl⟩ ?_
  intro X B g O hKP hmL hxt hE
  change J X B (E, κ) 0 [(0, .inr (some (4, 0, 0))), (1, .inl (.int a1))] []
  refine J_aload_n O.mo dL_stored_0 0 rfl ?_
  refine J_iload_n O.mo dL_stored_1 1 rfl ?_
  refine J_callVXH O hKP (as := [.inl (.int a1)]) (rest := []) (c_X10_stored hfl h0 h) rfl (kd0 := 10) (k10_0 h0) (l10_0 h0) (T := TX10) (N := 4) rfl (by decide) mw760 mw761 mw762 mw320 mw763 pd_X10_stored rfl (by decide) rfl (Nat.le_of_ble_eq_true rfl) (sl_p (s10_0 h0) (sl_v sl_0)) st_0 dL_stored_2 hxt (fun s hs => ?_) (fun v hv => ?_)
  · cases rs with
    | inl r => cases hs
    | inr e =>
      have hs' : exN e = s := by injection hs
      have he1 := he e rfl
      clear he
      simp only [List.mem_cons, List.not_mem_nil, or_false] at he1
      subst he1
      subst hs'
      refine ⟨6, ⟨[], ⟨0, 5, 6, 13⟩, [], rfl, fun _ h => absurd h List.not_mem_nil, rfl, by decide, ⟨_, mw647, mw648⟩, rfl⟩, fun q => ?_⟩
      refine J_astore_nR O.mo dL_stored_6 (by rw [hmL]; decide) rfl rfl ?_
      refine J_ldc O mw649 dL_stored_7 ?_
      exact hE _ _ dL_stored_9
  · cases rs with
    | inr e => cases hv
    | inl r =>
      have hv' : some (.inl (.int r)) = v := by injection hv
      subst hv'
      show J X B (E, κ') 5 [(0, .inr (some (4, 0, 0))), (1, .inl (.int a1))] [.inl (.int r)]
      exact hE _ _ dL_stored_5
set_option maxHeartbeats 4000000 in
set_option maxRecDepth 100000 in
theorem c_L_plain {l : Launch} (hfl : l.stackTraces = false) {E : EE} {κ : K} {x' : EE × K} {a1 : Int32} (h0 : PC 10 E 4 0 0) (hH : E.2.2.2.1 = 1) (hRN : rawN E) {rs : Int32 ⊕ Nat} (h : f_X10_isAsPlain E κ a1 = some (x', rs)) (he : ∀ e, rs = .inr e → e ∈ ([1] : List Nat)) : ConW l yL_plain cL_plain 3 (some .int) [(0, 13, 14, 13)] 9 146 [.inr (some (4, 0, 0)), .inl (.int a1)] (E, κ) x' (some (.inl (.int (lwRB rs)))) := by
  refine ConW_of hfl (by decide) (Nat.le_of_ble_eq_true rfl) rfl ⟨.int, rfl, rfl⟩ ?_
  intro X B g O hKP hmL hxt hE
  change J X B (E, κ) 0 [(0, .inr (some (4, 0, 0))), (1, .inl (.int a1))] []
  refine J_aload_n O.mo dL_plain_0 0 rfl ?_
  refine J_iload_n O.mo dL_plain_1 1 rfl ?_
  refine J_callVXH O hKP (as := [.inl (.int a1)]) (rest := []) (c_X10_isAsPlain hfl h0 hH hRN h) rfl (kd0 := 10) (k10_0 h0) (l10_0 h0) (T := TX10) (N := 4) rfl (by decide) mw764 mw765 mw766 mw320 mw767 pd_X10_isAsPlain rfl (by decide) rfl (Nat.le_of_ble_eq_true rfl) (sl_p (s10_0 h0) (sl_v sl_0)) st_0 dL_plain_2 hxt (fun s hs => ?_) (fun v hv => ?_)
  · cases rs with
    | inl r => cases hs
    | inr e =>
      have hs' : exN e = s := by injection hs
      have he1 := he e rfl
      clear he
      simp only [List.mem_cons, List.not_mem_nil, or_false] at he1
      subst he1
      subst hs'
      refine ⟨14, ⟨[], ⟨0, 13, 14, 13⟩, [], rfl, fun _ h => absurd h List.not_mem_nil, rfl, by decide, ⟨_, mw647, mw648⟩, rfl⟩, fun q => ?_⟩
      refine J_astore_nR O.mo dL_plain_14 (by rw [hmL]; decide) rfl rfl ?_
      refine J_ldc O mw649 dL_plain_15 ?_
      exact hE _ _ dL_plain_17
  · cases rs with
    | inr e => cases hv
    | inl r =>
      have hv' : some (.inl (.int r)) = v := by injection hv
      subst hv'
      show J X B x' 5 [(0, .inr (some (4, 0, 0))), (1, .inl (.int a1))] [.inl (.int r)]
      refine J_if_eq O.mo (tgt := 12) dL_plain_5 (by decide) (fun hc => ?_) (fun hc => ?_)
      · refine J_iconst O.mo (v := bI r) dL_plain_12 (by rw [show bI r = 0 from if_pos hc]; decide) ?_
        exact hE _ _ dL_plain_13
      · refine J_iconst O.mo (v := bI r) dL_plain_8 (by rw [show bI r = 1 from if_neg hc]; decide) ?_
        refine J_goto O.mo (tgt := 13) dL_plain_9 (by decide) ?_
        exact hE _ _ dL_plain_13
