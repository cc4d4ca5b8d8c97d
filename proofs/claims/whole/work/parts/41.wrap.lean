def gYsW (y : MethodName) (b : ByteArray) (n : Nat) (ret : Option FieldType) (hh : List (Nat × Nat × Nat × Nat)) (np : Nat) : Prop := (Cond.initialized y.cls ∈ lw_all ∧ Cond.codeWith y b n ret hh ∈ lw_all ∧ (y.cls ≠ "java/lang/invoke/MethodHandle" ∧ y.cls ≠ "java/lang/invoke/VarHandle" ∧ (parseMethodDescriptor y.desc).map (fun d => d.parameters.length) = some np)) ∧ Cond.static y ∈ lw_all
set_option maxRecDepth 100000 in
theorem gY_X4_addSock : gYv yX4_addSock cX4_addSock 3 (some .int) 2 := ⟨⟨lw_inT 1 (by decide +kernel) rfl, lw_b2 (List.mem_of_getElem? (i := 179) rfl) rfl, by decide +kernel, by decide +kernel, by decide +kernel⟩, lw_inT 417 (by decide +kernel) rfl, lw_inT 418 (by decide +kernel) rfl⟩
theorem ml_L_7 : Cond.methodLink RL 7 yX4_addSock ∈ lw_all := lw_inT 416 (by decide +kernel) rfl
set_option maxRecDepth 100000 in
theorem gY_X4_colourOf : gYv yX4_colourOf cX4_colourOf 2 (some .char) 1 := ⟨⟨lw_inT 1 (by decide +kernel) rfl, lw_b3 (List.mem_of_getElem? (i := 180) rfl) rfl, by decide +kernel, by decide +kernel, by decide +kernel⟩, lw_inT 658 (by decide +kernel) rfl, lw_inT 659 (by decide +kernel) rfl⟩
theorem ml_L_17 : Cond.methodLink RL 17 yX4_colourOf ∈ lw_all := lw_inT 657 (by decide +kernel) rfl
set_option maxRecDepth 100000 in
theorem gY_X4_sizeOf : gYv yX4_sizeOf cX4_sizeOf 2 (some .int) 1 := ⟨⟨lw_inT 1 (by decide +kernel) rfl, lw_b3 (List.mem_of_getElem? (i := 196) rfl) rfl, by decide +kernel, by decide +kernel, by decide +kernel⟩, lw_inT 674 (by decide +kernel) rfl, lw_inT 675 (by decide +kernel) rfl⟩
theorem ml_L_23 : Cond.methodLink RL 23 yX4_sizeOf ∈ lw_all := lw_inT 673 (by decide +kernel) rfl
set_option maxRecDepth 100000 in
theorem gY_X4_isAway : gYv yX4_isAway cX4_isAway 2 (some .boolean) 1 := ⟨⟨lw_inT 1 (by decide +kernel) rfl, lw_b3 (List.mem_of_getElem? (i := 203) rfl) rfl, by decide +kernel, by decide +kernel, by decide +kernel⟩, lw_inT 681 (by decide +kernel) rfl, lw_inT 682 (by decide +kernel) rfl⟩
theorem ml_L_27 : Cond.methodLink RL 27 yX4_isAway ∈ lw_all := lw_inT 680 (by decide +kernel) rfl
set_option maxRecDepth 100000 in
theorem gY_X4_isPending : gYv yX4_isPending cX4_isPending 2 (some .boolean) 1 := ⟨⟨lw_inT 1 (by decide +kernel) rfl, lw_b3 (List.mem_of_getElem? (i := 210) rfl) rfl, by decide +kernel, by decide +kernel, by decide +kernel⟩, lw_inT 688 (by decide +kernel) rfl, lw_inT 689 (by decide +kernel) rfl⟩
theorem ml_L_31 : Cond.methodLink RL 31 yX4_isPending ∈ lw_all := lw_inT 687 (by decide +kernel) rfl
set_option maxRecDepth 100000 in
theorem gY_X4_isRefused : gYv yX4_isRefused cX4_isRefused 2 (some .boolean) 1 := ⟨⟨lw_inT 1 (by decide +kernel) rfl, lw_b3 (List.mem_of_getElem? (i := 217) rfl) rfl, by decide +kernel, by decide +kernel, by decide +kernel⟩, lw_inT 695 (by decide +kernel) rfl, lw_inT 696 (by decide +kernel) rfl⟩
theorem ml_L_34 : Cond.methodLink RL 34 yX4_isRefused ∈ lw_all := lw_inT 694 (by decide +kernel) rfl
set_option maxRecDepth 100000 in
theorem gY_X4_isResident : gYv yX4_isResident cX4_isResident 2 (some .boolean) 1 := ⟨⟨lw_inT 1 (by decide +kernel) rfl, lw_b3 (List.mem_of_getElem? (i := 224) rfl) rfl, by decide +kernel, by decide +kernel, by decide +kernel⟩, lw_inT 702 (by decide +kernel) rfl, lw_inT 703 (by decide +kernel) rfl⟩
theorem ml_L_37 : Cond.methodLink RL 37 yX4_isResident ∈ lw_all := lw_inT 701 (by decide +kernel) rfl
set_option maxRecDepth 100000 in
theorem gY_X4_drawerOf : gYv yX4_drawerOf cX4_drawerOf 2 (some .int) 1 := ⟨⟨lw_inT 1 (by decide +kernel) rfl, lw_b3 (List.mem_of_getElem? (i := 232) rfl) rfl, by decide +kernel, by decide +kernel, by decide +kernel⟩, lw_inT 710 (by decide +kernel) rfl, lw_inT 711 (by decide +kernel) rfl⟩
theorem ml_L_40 : Cond.methodLink RL 40 yX4_drawerOf ∈ lw_all := lw_inT 709 (by decide +kernel) rfl
set_option maxRecDepth 100000 in
theorem gY_X4_levelOf : gYv yX4_levelOf cX4_levelOf 2 (some .int) 1 := ⟨⟨lw_inT 1 (by decide +kernel) rfl, lw_b3 (List.mem_of_getElem? (i := 239) rfl) rfl, by decide +kernel, by decide +kernel, by decide +kernel⟩, lw_inT 717 (by decide +kernel) rfl, lw_inT 718 (by decide +kernel) rfl⟩
theorem ml_L_45 : Cond.methodLink RL 45 yX4_levelOf ∈ lw_all := lw_inT 716 (by decide +kernel) rfl
set_option maxRecDepth 100000 in
theorem gY_X4_visaDay : gYv yX4_visaDay cX4_visaDay 2 (some .int) 1 := ⟨⟨lw_inT 1 (by decide +kernel) rfl, lw_b4 (List.mem_of_getElem? (i := 10) rfl) rfl, by decide +kernel, by decide +kernel, by decide +kernel⟩, lw_inT 728 (by decide +kernel) rfl, lw_inT 729 (by decide +kernel) rfl⟩
theorem ml_L_48 : Cond.methodLink RL 48 yX4_visaDay ∈ lw_all := lw_inT 727 (by decide +kernel) rfl
set_option maxRecDepth 100000 in
theorem gY_X4_partnerOf : gYv yX4_partnerOf cX4_partnerOf 2 (some .int) 1 := ⟨⟨lw_inT 1 (by decide +kernel) rfl, lw_b4 (List.mem_of_getElem? (i := 17) rfl) rfl, by decide +kernel, by decide +kernel, by decide +kernel⟩, lw_inT 735 (by decide +kernel) rfl, lw_inT 736 (by decide +kernel) rfl⟩
theorem ml_L_51 : Cond.methodLink RL 51 yX4_partnerOf ∈ lw_all := lw_inT 734 (by decide +kernel) rfl
set_option maxRecDepth 100000 in
theorem gY_X4_matches : gYv yX4_matches cX4_matches 3 (some .boolean) 2 := ⟨⟨lw_inT 1 (by decide +kernel) rfl, lw_b4 (List.mem_of_getElem? (i := 24) rfl) rfl, by decide +kernel, by decide +kernel, by decide +kernel⟩, lw_inT 742 (by decide +kernel) rfl, lw_inT 743 (by decide +kernel) rfl⟩
theorem ml_L_54 : Cond.methodLink RL 54 yX4_matches ∈ lw_all := lw_inT 741 (by decide +kernel) rfl
set_option maxRecDepth 100000 in
theorem gY_X4_apply : gYv yX4_apply cX4_apply 3 (some .int) 2 := ⟨⟨lw_inT 1 (by decide +kernel) rfl, lw_b4 (List.mem_of_getElem? (i := 32) rfl) rfl, by decide +kernel, by decide +kernel, by decide +kernel⟩, lw_inT 750 (by decide +kernel) rfl, lw_inT 751 (by decide +kernel) rfl⟩
theorem ml_L_58 : Cond.methodLink RL 58 yX4_apply ∈ lw_all := lw_inT 749 (by decide +kernel) rfl
set_option maxRecDepth 100000 in
theorem gY_X4_withdraw : gYv yX4_withdraw cX4_withdraw 2 (some .int) 1 := ⟨⟨lw_inT 1 (by decide +kernel) rfl, lw_b4 (List.mem_of_getElem? (i := 55) rfl) rfl, by decide +kernel, by decide +kernel, by decide +kernel⟩, lw_inT 773 (by decide +kernel) rfl, lw_inT 774 (by decide +kernel) rfl⟩
theorem ml_L_62 : Cond.methodLink RL 62 yX4_withdraw ∈ lw_all := lw_inT 772 (by decide +kernel) rfl
set_option maxRecDepth 100000 in
theorem gY_X4_appeal : gYv yX4_appeal cX4_appeal 2 (some .int) 1 := ⟨⟨lw_inT 1 (by decide +kernel) rfl, lw_b4 (List.mem_of_getElem? (i := 71) rfl) rfl, by decide +kernel, by decide +kernel, by decide +kernel⟩, lw_inT 789 (by decide +kernel) rfl, lw_inT 790 (by decide +kernel) rfl⟩
theorem ml_L_65 : Cond.methodLink RL 65 yX4_appeal ∈ lw_all := lw_inT 788 (by decide +kernel) rfl
set_option maxRecDepth 100000 in
theorem gY_X4_decide : gYv yX4_decide cX4_decide 2 (some .int) 1 := ⟨⟨lw_inT 1 (by decide +kernel) rfl, lw_b4 (List.mem_of_getElem? (i := 86) rfl) rfl, by decide +kernel, by decide +kernel, by decide +kernel⟩, lw_inT 804 (by decide +kernel) rfl, lw_inT 805 (by decide +kernel) rfl⟩
theorem ml_L_68 : Cond.methodLink RL 68 yX4_decide ∈ lw_all := lw_inT 803 (by decide +kernel) rfl
set_option maxRecDepth 100000 in
theorem gY_X4_wouldAdmit : gYv yX4_wouldAdmit cX4_wouldAdmit 2 (some .int) 1 := ⟨⟨lw_inT 1 (by decide +kernel) rfl, lw_b4 (List.mem_of_getElem? (i := 127) rfl) rfl, by decide +kernel, by decide +kernel, by decide +kernel⟩, lw_inT 845 (by decide +kernel) rfl, lw_inT 846 (by decide +kernel) rfl⟩
theorem ml_L_71 : Cond.methodLink RL 71 yX4_wouldAdmit ∈ lw_all := lw_inT 844 (by decide +kernel) rfl
set_option maxRecDepth 100000 in
theorem gY_X4_queueAt : gYv yX4_queueAt cX4_queueAt 4 (some .int) 2 := ⟨⟨lw_inT 1 (by decide +kernel) rfl, lw_b4 (List.mem_of_getElem? (i := 143) rfl) rfl, by decide +kernel, by decide +kernel, by decide +kernel⟩, lw_inT 861 (by decide +kernel) rfl, lw_inT 862 (by decide +kernel) rfl⟩
theorem ml_L_74 : Cond.methodLink RL 74 yX4_queueAt ∈ lw_all := lw_inT 860 (by decide +kernel) rfl
set_option maxRecDepth 100000 in
theorem gY_X4_pendingCount : gYv yX4_pendingCount cX4_pendingCount 2 (some .int) 1 := ⟨⟨lw_inT 1 (by decide +kernel) rfl, lw_b4 (List.mem_of_getElem? (i := 151) rfl) rfl, by decide +kernel, by decide +kernel, by decide +kernel⟩, lw_inT 869 (by decide +kernel) rfl, lw_inT 870 (by decide +kernel) rfl⟩
theorem ml_L_77 : Cond.methodLink RL 77 yX4_pendingCount ∈ lw_all := lw_inT 868 (by decide +kernel) rfl
set_option maxRecDepth 100000 in
theorem gY_X4_renew : gYv yX4_renew cX4_renew 3 (some .int) 2 := ⟨⟨lw_inT 1 (by decide +kernel) rfl, lw_b4 (List.mem_of_getElem? (i := 159) rfl) rfl, by decide +kernel, by decide +kernel, by decide +kernel⟩, lw_inT 877 (by decide +kernel) rfl, lw_inT 878 (by decide +kernel) rfl⟩
theorem ml_L_80 : Cond.methodLink RL 80 yX4_renew ∈ lw_all := lw_inT 876 (by decide +kernel) rfl
set_option maxRecDepth 100000 in
theorem gY_X4_leave : gYv yX4_leave cX4_leave 2 (some .int) 1 := ⟨⟨lw_inT 1 (by decide +kernel) rfl, lw_b4 (List.mem_of_getElem? (i := 174) rfl) rfl, by decide +kernel, by decide +kernel, by decide +kernel⟩, lw_inT 892 (by decide +kernel) rfl, lw_inT 893 (by decide +kernel) rfl⟩
theorem ml_L_83 : Cond.methodLink RL 83 yX4_leave ∈ lw_all := lw_inT 891 (by decide +kernel) rfl
set_option maxRecDepth 100000 in
theorem gY_X4_move : gYv yX4_move cX4_move 3 (some .int) 2 := ⟨⟨lw_inT 1 (by decide +kernel) rfl, lw_b4 (List.mem_of_getElem? (i := 189) rfl) rfl, by decide +kernel, by decide +kernel, by decide +kernel⟩, lw_inT 907 (by decide +kernel) rfl, lw_inT 908 (by decide +kernel) rfl⟩
theorem ml_L_86 : Cond.methodLink RL 86 yX4_move ∈ lw_all := lw_inT 906 (by decide +kernel) rfl
set_option maxRecDepth 100000 in
theorem gY_X4_pair : gYv yX4_pair cX4_pair 3 (some .int) 2 := ⟨⟨lw_inT 1 (by decide +kernel) rfl, lw_b4 (List.mem_of_getElem? (i := 218) rfl) rfl, by decide +kernel, by decide +kernel, by decide +kernel⟩, lw_inT 936 (by decide +kernel) rfl, lw_inT 937 (by decide +kernel) rfl⟩
theorem ml_L_89 : Cond.methodLink RL 89 yX4_pair ∈ lw_all := lw_inT 935 (by decide +kernel) rfl
set_option maxRecDepth 100000 in
theorem gY_X4_separate : gYv yX4_separate cX4_separate 2 (some .int) 1 := ⟨⟨lw_inT 1 (by decide +kernel) rfl, lw_b5 (List.mem_of_getElem? (i := 2) rfl) rfl, by decide +kernel, by decide +kernel, by decide +kernel⟩, lw_inT 960 (by decide +kernel) rfl, lw_inT 961 (by decide +kernel) rfl⟩
theorem ml_L_92 : Cond.methodLink RL 92 yX4_separate ∈ lw_all := lw_inT 959 (by decide +kernel) rfl
set_option maxRecDepth 100000 in
theorem gY_X4_pairCount : gYv yX4_pairCount cX4_pairCount 2 (some .int) 1 := ⟨⟨lw_inT 1 (by decide +kernel) rfl, lw_b5 (List.mem_of_getElem? (i := 17) rfl) rfl, by decide +kernel, by decide +kernel, by decide +kernel⟩, lw_inT 975 (by decide +kernel) rfl, lw_inT 976 (by decide +kernel) rfl⟩
theorem ml_L_95 : Cond.methodLink RL 95 yX4_pairCount ∈ lw_all := lw_inT 974 (by decide +kernel) rfl
set_option maxRecDepth 100000 in
theorem gY_X4_possiblePairs : gYv yX4_possiblePairs cX4_possiblePairs 2 (some .int) 1 := ⟨⟨lw_inT 1 (by decide +kernel) rfl, lw_b5 (List.mem_of_getElem? (i := 25) rfl) rfl, by decide +kernel, by decide +kernel, by decide +kernel⟩, lw_inT 983 (by decide +kernel) rfl, lw_inT 984 (by decide +kernel) rfl⟩
theorem ml_L_98 : Cond.methodLink RL 98 yX4_possiblePairs ∈ lw_all := lw_inT 982 (by decide +kernel) rfl
set_option maxRecDepth 100000 in
theorem gY_X4_possiblePairsByColours : gYv yX4_possiblePairsByColours cX4_possiblePairsByColours 2 (some .int) 1 := ⟨⟨lw_inT 1 (by decide +kernel) rfl, lw_b5 (List.mem_of_getElem? (i := 33) rfl) rfl, by decide +kernel, by decide +kernel, by decide +kernel⟩, lw_inT 991 (by decide +kernel) rfl, lw_inT 992 (by decide +kernel) rfl⟩
theorem ml_L_101 : Cond.methodLink RL 101 yX4_possiblePairsByColours ∈ lw_all := lw_inT 990 (by decide +kernel) rfl
set_option maxRecDepth 100000 in
theorem gY_X4_setQuota : gYv yX4_setQuota cX4_setQuota 3 (some .int) 2 := ⟨⟨lw_inT 1 (by decide +kernel) rfl, lw_b5 (List.mem_of_getElem? (i := 41) rfl) rfl, by decide +kernel, by decide +kernel, by decide +kernel⟩, lw_inT 999 (by decide +kernel) rfl, lw_inT 1000 (by decide +kernel) rfl⟩
theorem ml_L_104 : Cond.methodLink RL 104 yX4_setQuota ∈ lw_all := lw_inT 998 (by decide +kernel) rfl
set_option maxRecDepth 100000 in
theorem gY_X4_ban : gYv yX4_ban cX4_ban 3 (some .boolean) 2 := ⟨⟨lw_inT 1 (by decide +kernel) rfl, lw_b5 (List.mem_of_getElem? (i := 56) rfl) rfl, by decide +kernel, by decide +kernel, by decide +kernel⟩, lw_inT 1014 (by decide +kernel) rfl, lw_inT 1015 (by decide +kernel) rfl⟩
theorem ml_L_107 : Cond.methodLink RL 107 yX4_ban ∈ lw_all := lw_inT 1013 (by decide +kernel) rfl
set_option maxRecDepth 100000 in
theorem gY_X4_unban : gYv yX4_unban cX4_unban 3 (some .boolean) 2 := ⟨⟨lw_inT 1 (by decide +kernel) rfl, lw_b5 (List.mem_of_getElem? (i := 71) rfl) rfl, by decide +kernel, by decide +kernel, by decide +kernel⟩, lw_inT 1029 (by decide +kernel) rfl, lw_inT 1030 (by decide +kernel) rfl⟩
theorem ml_L_111 : Cond.methodLink RL 111 yX4_unban ∈ lw_all := lw_inT 1028 (by decide +kernel) rfl
set_option maxRecDepth 100000 in
theorem gY_X4_signTreaty : gYv yX4_signTreaty cX4_signTreaty 4 (some .int) 3 := ⟨⟨lw_inT 1 (by decide +kernel) rfl, lw_b5 (List.mem_of_getElem? (i := 82) rfl) rfl, by decide +kernel, by decide +kernel, by decide +kernel⟩, lw_inT 1040 (by decide +kernel) rfl, lw_inT 1041 (by decide +kernel) rfl⟩
theorem ml_L_114 : Cond.methodLink RL 114 yX4_signTreaty ∈ lw_all := lw_inT 1039 (by decide +kernel) rfl
set_option maxRecDepth 100000 in
theorem gY_X4_endTreaty : gYv yX4_endTreaty cX4_endTreaty 3 (some .int) 2 := ⟨⟨lw_inT 1 (by decide +kernel) rfl, lw_b5 (List.mem_of_getElem? (i := 107) rfl) rfl, by decide +kernel, by decide +kernel, by decide +kernel⟩, lw_inT 1065 (by decide +kernel) rfl, lw_inT 1066 (by decide +kernel) rfl⟩
theorem ml_L_118 : Cond.methodLink RL 118 yX4_endTreaty ∈ lw_all := lw_inT 1064 (by decide +kernel) rfl
set_option maxRecDepth 100000 in
theorem gY_X4_clauseOf : gYv yX4_clauseOf cX4_clauseOf 3 (some .char) 2 := ⟨⟨lw_inT 1 (by decide +kernel) rfl, lw_b5 (List.mem_of_getElem? (i := 122) rfl) rfl, by decide +kernel, by decide +kernel, by decide +kernel⟩, lw_inT 1080 (by decide +kernel) rfl, lw_inT 1081 (by decide +kernel) rfl⟩
theorem ml_L_121 : Cond.methodLink RL 121 yX4_clauseOf ∈ lw_all := lw_inT 1079 (by decide +kernel) rfl
set_option maxRecDepth 100000 in
theorem gY_X4_quotaOf : gYv yX4_quotaOf cX4_quotaOf 2 (some .int) 1 := ⟨⟨lw_inT 1 (by decide +kernel) rfl, lw_b5 (List.mem_of_getElem? (i := 131) rfl) rfl, by decide +kernel, by decide +kernel, by decide +kernel⟩, lw_inT 1089 (by decide +kernel) rfl, lw_inT 1090 (by decide +kernel) rfl⟩
theorem ml_L_125 : Cond.methodLink RL 125 yX4_quotaOf ∈ lw_all := lw_inT 1088 (by decide +kernel) rfl
set_option maxRecDepth 100000 in
theorem gY_X4_residents : gYv yX4_residents cX4_residents 2 (some .int) 1 := ⟨⟨lw_inT 1 (by decide +kernel) rfl, lw_b5 (List.mem_of_getElem? (i := 138) rfl) rfl, by decide +kernel, by decide +kernel, by decide +kernel⟩, lw_inT 1096 (by decide +kernel) rfl, lw_inT 1097 (by decide +kernel) rfl⟩
theorem ml_L_128 : Cond.methodLink RL 128 yX4_residents ∈ lw_all := lw_inT 1095 (by decide +kernel) rfl
set_option maxRecDepth 100000 in
theorem gY_X4_residentAt : gYv yX4_residentAt cX4_residentAt 4 (some .int) 2 := ⟨⟨lw_inT 1 (by decide +kernel) rfl, lw_b5 (List.mem_of_getElem? (i := 145) rfl) rfl, by decide +kernel, by decide +kernel, by decide +kernel⟩, lw_inT 1103 (by decide +kernel) rfl, lw_inT 1104 (by decide +kernel) rfl⟩
theorem ml_L_131 : Cond.methodLink RL 131 yX4_residentAt ∈ lw_all := lw_inT 1102 (by decide +kernel) rfl
set_option maxRecDepth 100000 in
theorem gY_X4_isBanned : gYv yX4_isBanned cX4_isBanned 3 (some .boolean) 2 := ⟨⟨lw_inT 1 (by decide +kernel) rfl, lw_b5 (List.mem_of_getElem? (i := 156) rfl) rfl, by decide +kernel, by decide +kernel, by decide +kernel⟩, lw_inT 1114 (by decide +kernel) rfl, lw_inT 1115 (by decide +kernel) rfl⟩
theorem ml_L_134 : Cond.methodLink RL 134 yX4_isBanned ∈ lw_all := lw_inT 1113 (by decide +kernel) rfl
set_option maxRecDepth 100000 in
theorem gY_X4_canMove : gYv yX4_canMove cX4_canMove 3 (some .boolean) 2 := ⟨⟨lw_inT 1 (by decide +kernel) rfl, lw_b5 (List.mem_of_getElem? (i := 164) rfl) rfl, by decide +kernel, by decide +kernel, by decide +kernel⟩, lw_inT 1122 (by decide +kernel) rfl, lw_inT 1123 (by decide +kernel) rfl⟩
theorem ml_L_137 : Cond.methodLink RL 137 yX4_canMove ∈ lw_all := lw_inT 1121 (by decide +kernel) rfl
set_option maxRecDepth 100000 in
theorem gY_X4_passDays : gYv yX4_passDays cX4_passDays 2 (some .int) 1 := ⟨⟨lw_inT 1 (by decide +kernel) rfl, lw_b5 (List.mem_of_getElem? (i := 171) rfl) rfl, by decide +kernel, by decide +kernel, by decide +kernel⟩, lw_inT 1129 (by decide +kernel) rfl, lw_inT 1130 (by decide +kernel) rfl⟩
theorem ml_L_140 : Cond.methodLink RL 140 yX4_passDays ∈ lw_all := lw_inT 1128 (by decide +kernel) rfl
set_option maxRecDepth 100000 in
theorem gY_X4_wouldExpel : gYv yX4_wouldExpel cX4_wouldExpel 2 (some .int) 1 := ⟨⟨lw_inT 1 (by decide +kernel) rfl, lw_b5 (List.mem_of_getElem? (i := 194) rfl) rfl, by decide +kernel, by decide +kernel, by decide +kernel⟩, lw_inT 1152 (by decide +kernel) rfl, lw_inT 1153 (by decide +kernel) rfl⟩
theorem ml_L_143 : Cond.methodLink RL 143 yX4_wouldExpel ∈ lw_all := lw_inT 1151 (by decide +kernel) rfl
set_option maxRecDepth 100000 in
theorem gY_X4_drawerByResidents : gYv yX4_drawerByResidents cX4_drawerByResidents 3 (some .int) 1 := ⟨⟨lw_inT 1 (by decide +kernel) rfl, lw_b5 (List.mem_of_getElem? (i := 205) rfl) rfl, by decide +kernel, by decide +kernel, by decide +kernel⟩, lw_inT 1163 (by decide +kernel) rfl, lw_inT 1164 (by decide +kernel) rfl⟩
theorem ml_L_146 : Cond.methodLink RL 146 yX4_drawerByResidents ∈ lw_all := lw_inT 1162 (by decide +kernel) rfl
set_option maxRecDepth 100000 in
theorem gY_X4_meanSize : gYv yX4_meanSize cX4_meanSize 1 (some .double) 0 := ⟨⟨lw_inT 1 (by decide +kernel) rfl, lw_b5 (List.mem_of_getElem? (i := 238) rfl) rfl, by decide +kernel, by decide +kernel, by decide +kernel⟩, lw_inT 1196 (by decide +kernel) rfl, lw_inT 1197 (by decide +kernel) rfl⟩
theorem ml_L_149 : Cond.methodLink RL 149 yX4_meanSize ∈ lw_all := lw_inT 1195 (by decide +kernel) rfl
set_option maxRecDepth 100000 in
theorem gY_X4_residentShare : gYv yX4_residentShare cX4_residentShare 1 (some .float) 0 := ⟨⟨lw_inT 1 (by decide +kernel) rfl, lw_b6 (List.mem_of_getElem? (i := 16) rfl) rfl, by decide +kernel, by decide +kernel, by decide +kernel⟩, lw_inT 1214 (by decide +kernel) rfl, lw_inT 1215 (by decide +kernel) rfl⟩
theorem ml_L_155 : Cond.methodLink RL 155 yX4_residentShare ∈ lw_all := lw_inT 1213 (by decide +kernel) rfl
set_option maxRecDepth 100000 in
theorem gY_X4_writeSock : gYv yX4_writeSock cX4_writeSock 2 (some .int) 1 := ⟨⟨lw_inT 1 (by decide +kernel) rfl, lw_b6 (List.mem_of_getElem? (i := 27) rfl) rfl, by decide +kernel, by decide +kernel, by decide +kernel⟩, lw_inT 1225 (by decide +kernel) rfl, lw_inT 1226 (by decide +kernel) rfl⟩
theorem ml_L_159 : Cond.methodLink RL 159 yX4_writeSock ∈ lw_all := lw_inT 1224 (by decide +kernel) rfl
set_option maxRecDepth 100000 in
theorem gY_X4_outputAt : gYv yX4_outputAt cX4_outputAt 2 (some .char) 1 := ⟨⟨lw_inT 1 (by decide +kernel) rfl, lw_b7 (List.mem_of_getElem? (i := 37) rfl) rfl, by decide +kernel, by decide +kernel, by decide +kernel⟩, lw_inT 1475 (by decide +kernel) rfl, lw_inT 1476 (by decide +kernel) rfl⟩
theorem ml_L_162 : Cond.methodLink RL 162 yX4_outputAt ∈ lw_all := lw_inT 1474 (by decide +kernel) rfl
set_option maxRecDepth 100000 in
theorem gY_X4_appendInput : gYv yX4_appendInput cX4_appendInput 2 (some .int) 1 := ⟨⟨lw_inT 1 (by decide +kernel) rfl, lw_b7 (List.mem_of_getElem? (i := 55) rfl) rfl, by decide +kernel, by decide +kernel, by decide +kernel⟩, lw_inT 1493 (by decide +kernel) rfl, lw_inT 1494 (by decide +kernel) rfl⟩
theorem ml_L_165 : Cond.methodLink RL 165 yX4_appendInput ∈ lw_all := lw_inT 1492 (by decide +kernel) rfl
set_option maxRecDepth 100000 in
theorem gY_X4_execute : gYv yX4_execute cX4_execute 4 (some .int) 0 := ⟨⟨lw_inT 1 (by decide +kernel) rfl, lw_b7 (List.mem_of_getElem? (i := 86) rfl) rfl, by decide +kernel, by decide +kernel, by decide +kernel⟩, lw_inT 1524 (by decide +kernel) rfl, lw_inT 1525 (by decide +kernel) rfl⟩
theorem ml_L_171 : Cond.methodLink RL 171 yX4_execute ∈ lw_all := lw_inT 1523 (by decide +kernel) rfl
set_option maxRecDepth 100000 in
theorem gY_X4_syntaxErrorOffset : gYv yX4_syntaxErrorOffset cX4_syntaxErrorOffset 1 (some .int) 0 := ⟨⟨lw_inT 1 (by decide +kernel) rfl, lw_b7 (List.mem_of_getElem? (i := 180) rfl) rfl, by decide +kernel, by decide +kernel, by decide +kernel⟩, lw_inT 1618 (by decide +kernel) rfl, lw_inT 1619 (by decide +kernel) rfl⟩
theorem ml_L_175 : Cond.methodLink RL 175 yX4_syntaxErrorOffset ∈ lw_all := lw_inT 1617 (by decide +kernel) rfl
set_option maxRecDepth 100000 in
theorem gY_X4_rejectionReason : gYv yX4_rejectionReason cX4_rejectionReason 1 (some .int) 0 := ⟨⟨lw_inT 1 (by decide +kernel) rfl, lw_b7 (List.mem_of_getElem? (i := 187) rfl) rfl, by decide +kernel, by decide +kernel, by decide +kernel⟩, lw_inT 1625 (by decide +kernel) rfl, lw_inT 1626 (by decide +kernel) rfl⟩
theorem ml_L_178 : Cond.methodLink RL 178 yX4_rejectionReason ∈ lw_all := lw_inT 1624 (by decide +kernel) rfl
set_option maxRecDepth 100000 in
theorem gY_X4_rejectionDetail : gYv yX4_rejectionDetail cX4_rejectionDetail 1 (some .int) 0 := ⟨⟨lw_inT 1 (by decide +kernel) rfl, lw_b7 (List.mem_of_getElem? (i := 194) rfl) rfl, by decide +kernel, by decide +kernel, by decide +kernel⟩, lw_inT 1632 (by decide +kernel) rfl, lw_inT 1633 (by decide +kernel) rfl⟩
theorem ml_L_181 : Cond.methodLink RL 181 yX4_rejectionDetail ∈ lw_all := lw_inT 1631 (by decide +kernel) rfl
set_option maxRecDepth 100000 in
theorem gY_X4_causeReason : gYv yX4_causeReason cX4_causeReason 1 (some .int) 0 := ⟨⟨lw_inT 1 (by decide +kernel) rfl, lw_b7 (List.mem_of_getElem? (i := 201) rfl) rfl, by decide +kernel, by decide +kernel, by decide +kernel⟩, lw_inT 1639 (by decide +kernel) rfl, lw_inT 1640 (by decide +kernel) rfl⟩
theorem ml_L_184 : Cond.methodLink RL 184 yX4_causeReason ∈ lw_all := lw_inT 1638 (by decide +kernel) rfl
set_option maxRecDepth 100000 in
theorem gY_X4_undo : gYv yX4_undo cX4_undo 1 (some .int) 0 := ⟨⟨lw_inT 1 (by decide +kernel) rfl, lw_b7 (List.mem_of_getElem? (i := 208) rfl) rfl, by decide +kernel, by decide +kernel, by decide +kernel⟩, lw_inT 1646 (by decide +kernel) rfl, lw_inT 1647 (by decide +kernel) rfl⟩
theorem ml_L_187 : Cond.methodLink RL 187 yX4_undo ∈ lw_all := lw_inT 1645 (by decide +kernel) rfl
set_option maxRecDepth 100000 in
theorem gY_X4_restoreSnapshot : gYv yX4_restoreSnapshot cX4_restoreSnapshot 1 (some .int) 0 := ⟨⟨lw_inT 1 (by decide +kernel) rfl, lw_b7 (List.mem_of_getElem? (i := 219) rfl) rfl, by decide +kernel, by decide +kernel, by decide +kernel⟩, lw_inT 1657 (by decide +kernel) rfl, lw_inT 1658 (by decide +kernel) rfl⟩
theorem ml_L_190 : Cond.methodLink RL 190 yX4_restoreSnapshot ∈ lw_all := lw_inT 1656 (by decide +kernel) rfl
set_option maxRecDepth 100000 in
theorem gY_X4_init : gYi yX4_init cX4_init 1 0 := ⟨⟨lw_inT 1 (by decide +kernel) rfl, lw_b1 (List.mem_of_getElem? (i := 35) rfl) rfl, by decide +kernel, by decide +kernel, by decide +kernel⟩, lw_inT 34 (by decide +kernel) rfl, rfl⟩
theorem ml_L_193 : Cond.methodLink RL 193 yX4_init ∈ lw_all := lw_inT 33 (by decide +kernel) rfl
set_option maxRecDepth 100000 in
theorem gY_X5_init : gYi yX5_init cX5_init 2 0 := ⟨⟨lw_inT 10 (by decide +kernel) rfl, lw_b7 (List.mem_of_getElem? (i := 228) rfl) rfl, by decide +kernel, by decide +kernel, by decide +kernel⟩, lw_inT 1667 (by decide +kernel) rfl, rfl⟩
theorem ml_L_196 : Cond.methodLink RL 196 yX5_init ∈ lw_all := lw_inT 1666 (by decide +kernel) rfl
set_option maxRecDepth 100000 in
theorem gY_L_addSock : gYsW yL_addSock cL_addSock 5 (some .int) [(0, 10, 13, 13), (0, 10, 17, 15)] 4 := ⟨⟨lw_inT 0 (by decide +kernel) rfl, lw_b2 (List.mem_of_getElem? (i := 173) rfl) rfl, by decide +kernel, by decide +kernel, by decide +kernel⟩, lw_inT 412 (by decide +kernel) rfl⟩
theorem ml_L_197 : Cond.methodLink RL 197 yL_addSock ∈ lw_all := lw_inT 411 (by decide +kernel) rfl
set_option maxRecDepth 100000 in
theorem gY_X5_addSock : gYv yX5_addSock cX5_addSock 3 (some .int) 2 := ⟨⟨lw_inT 10 (by decide +kernel) rfl, lw_b8 (List.mem_of_getElem? (i := 70) rfl) rfl, by decide +kernel, by decide +kernel, by decide +kernel⟩, lw_inT 1748 (by decide +kernel) rfl, lw_inT 1749 (by decide +kernel) rfl⟩
theorem ml_L_202 : Cond.methodLink RL 202 yX5_addSock ∈ lw_all := lw_inT 1747 (by decide +kernel) rfl
set_option maxRecDepth 100000 in
theorem gY_X5_thrown : gYv yX5_thrown cX5_thrown 1 (some .int) 0 := ⟨⟨lw_inT 10 (by decide +kernel) rfl, lw_b8 (List.mem_of_getElem? (i := 66) rfl) rfl, by decide +kernel, by decide +kernel, by decide +kernel⟩, lw_inT 1744 (by decide +kernel) rfl, lw_inT 1745 (by decide +kernel) rfl⟩
theorem ml_L_203 : Cond.methodLink RL 203 yX5_thrown ∈ lw_all := lw_inT 1743 (by decide +kernel) rfl
set_option maxRecDepth 100000 in
theorem gY_X4_sockCount : gYv yX4_sockCount cX4_sockCount 1 (some .int) 0 := ⟨⟨lw_inT 1 (by decide +kernel) rfl, lw_b2 (List.mem_of_getElem? (i := 18) rfl) rfl, by decide +kernel, by decide +kernel, by decide +kernel⟩, lw_inT 256 (by decide +kernel) rfl, lw_inT 257 (by decide +kernel) rfl⟩
theorem ml_L_206 : Cond.methodLink RL 206 yX4_sockCount ∈ lw_all := lw_inT 255 (by decide +kernel) rfl
set_option maxRecDepth 100000 in
theorem gY_X5_sockCount : gYv yX5_sockCount cX5_sockCount 1 (some .int) 0 := ⟨⟨lw_inT 10 (by decide +kernel) rfl, lw_b8 (List.mem_of_getElem? (i := 122) rfl) rfl, by decide +kernel, by decide +kernel, by decide +kernel⟩, lw_inT 1800 (by decide +kernel) rfl, lw_inT 1801 (by decide +kernel) rfl⟩
theorem ml_L_209 : Cond.methodLink RL 209 yX5_sockCount ∈ lw_all := lw_inT 1799 (by decide +kernel) rfl
set_option maxRecDepth 100000 in
theorem gY_L_colourOf : gYsW yL_colourOf cL_colourOf 4 (some .int) [(0, 9, 12, 21)] 3 := ⟨⟨lw_inT 0 (by decide +kernel) rfl, lw_b3 (List.mem_of_getElem? (i := 155) rfl) rfl, by decide +kernel, by decide +kernel, by decide +kernel⟩, lw_inT 634 (by decide +kernel) rfl⟩
theorem ml_L_210 : Cond.methodLink RL 210 yL_colourOf ∈ lw_all := lw_inT 633 (by decide +kernel) rfl
set_option maxRecDepth 100000 in
theorem gY_X5_colourOf : gYv yX5_colourOf cX5_colourOf 2 (some .char) 1 := ⟨⟨lw_inT 10 (by decide +kernel) rfl, lw_b8 (List.mem_of_getElem? (i := 130) rfl) rfl, by decide +kernel, by decide +kernel, by decide +kernel⟩, lw_inT 1808 (by decide +kernel) rfl, lw_inT 1809 (by decide +kernel) rfl⟩
theorem ml_L_213 : Cond.methodLink RL 213 yX5_colourOf ∈ lw_all := lw_inT 1807 (by decide +kernel) rfl
set_option maxRecDepth 100000 in
theorem gY_L_sizeOf : gYsW yL_sizeOf cL_sizeOf 4 (some .int) [(0, 9, 12, 21)] 3 := ⟨⟨lw_inT 0 (by decide +kernel) rfl, lw_b3 (List.mem_of_getElem? (i := 192) rfl) rfl, by decide +kernel, by decide +kernel, by decide +kernel⟩, lw_inT 671 (by decide +kernel) rfl⟩
theorem ml_L_214 : Cond.methodLink RL 214 yL_sizeOf ∈ lw_all := lw_inT 670 (by decide +kernel) rfl
set_option maxRecDepth 100000 in
theorem gY_X5_sizeOf : gYv yX5_sizeOf cX5_sizeOf 2 (some .int) 1 := ⟨⟨lw_inT 10 (by decide +kernel) rfl, lw_b8 (List.mem_of_getElem? (i := 146) rfl) rfl, by decide +kernel, by decide +kernel, by decide +kernel⟩, lw_inT 1824 (by decide +kernel) rfl, lw_inT 1825 (by decide +kernel) rfl⟩
theorem ml_L_216 : Cond.methodLink RL 216 yX5_sizeOf ∈ lw_all := lw_inT 1823 (by decide +kernel) rfl
set_option maxRecDepth 100000 in
theorem gY_L_isAway : gYsW yL_isAway cL_isAway 4 (some .int) [(0, 16, 19, 21)] 3 := ⟨⟨lw_inT 0 (by decide +kernel) rfl, lw_b3 (List.mem_of_getElem? (i := 199) rfl) rfl, by decide +kernel, by decide +kernel, by decide +kernel⟩, lw_inT 678 (by decide +kernel) rfl⟩
theorem ml_L_217 : Cond.methodLink RL 217 yL_isAway ∈ lw_all := lw_inT 677 (by decide +kernel) rfl
set_option maxRecDepth 100000 in
theorem gY_X5_isAway : gYv yX5_isAway cX5_isAway 2 (some .boolean) 1 := ⟨⟨lw_inT 10 (by decide +kernel) rfl, lw_b8 (List.mem_of_getElem? (i := 150) rfl) rfl, by decide +kernel, by decide +kernel, by decide +kernel⟩, lw_inT 1828 (by decide +kernel) rfl, lw_inT 1829 (by decide +kernel) rfl⟩
theorem ml_L_219 : Cond.methodLink RL 219 yX5_isAway ∈ lw_all := lw_inT 1827 (by decide +kernel) rfl
set_option maxRecDepth 100000 in
theorem gY_L_isPending : gYsW yL_isPending cL_isPending 4 (some .int) [(0, 16, 19, 21)] 3 := ⟨⟨lw_inT 0 (by decide +kernel) rfl, lw_b3 (List.mem_of_getElem? (i := 206) rfl) rfl, by decide +kernel, by decide +kernel, by decide +kernel⟩, lw_inT 685 (by decide +kernel) rfl⟩
theorem ml_L_220 : Cond.methodLink RL 220 yL_isPending ∈ lw_all := lw_inT 684 (by decide +kernel) rfl
set_option maxRecDepth 100000 in
theorem gY_X5_isPending : gYv yX5_isPending cX5_isPending 2 (some .boolean) 1 := ⟨⟨lw_inT 10 (by decide +kernel) rfl, lw_b8 (List.mem_of_getElem? (i := 158) rfl) rfl, by decide +kernel, by decide +kernel, by decide +kernel⟩, lw_inT 1836 (by decide +kernel) rfl, lw_inT 1837 (by decide +kernel) rfl⟩
theorem ml_L_222 : Cond.methodLink RL 222 yX5_isPending ∈ lw_all := lw_inT 1835 (by decide +kernel) rfl
set_option maxRecDepth 100000 in
theorem gY_L_isRefused : gYsW yL_isRefused cL_isRefused 4 (some .int) [(0, 16, 19, 21)] 3 := ⟨⟨lw_inT 0 (by decide +kernel) rfl, lw_b3 (List.mem_of_getElem? (i := 213) rfl) rfl, by decide +kernel, by decide +kernel, by decide +kernel⟩, lw_inT 692 (by decide +kernel) rfl⟩
theorem ml_L_223 : Cond.methodLink RL 223 yL_isRefused ∈ lw_all := lw_inT 691 (by decide +kernel) rfl
set_option maxRecDepth 100000 in
theorem gY_X5_isRefused : gYv yX5_isRefused cX5_isRefused 2 (some .boolean) 1 := ⟨⟨lw_inT 10 (by decide +kernel) rfl, lw_b8 (List.mem_of_getElem? (i := 162) rfl) rfl, by decide +kernel, by decide +kernel, by decide +kernel⟩, lw_inT 1840 (by decide +kernel) rfl, lw_inT 1841 (by decide +kernel) rfl⟩
theorem ml_L_225 : Cond.methodLink RL 225 yX5_isRefused ∈ lw_all := lw_inT 1839 (by decide +kernel) rfl
set_option maxRecDepth 100000 in
theorem gY_L_isResident : gYsW yL_isResident cL_isResident 4 (some .int) [(0, 16, 19, 21)] 3 := ⟨⟨lw_inT 0 (by decide +kernel) rfl, lw_b3 (List.mem_of_getElem? (i := 220) rfl) rfl, by decide +kernel, by decide +kernel, by decide +kernel⟩, lw_inT 699 (by decide +kernel) rfl⟩
theorem ml_L_226 : Cond.methodLink RL 226 yL_isResident ∈ lw_all := lw_inT 698 (by decide +kernel) rfl
set_option maxRecDepth 100000 in
theorem gY_X5_isResident : gYv yX5_isResident cX5_isResident 2 (some .boolean) 1 := ⟨⟨lw_inT 10 (by decide +kernel) rfl, lw_b8 (List.mem_of_getElem? (i := 166) rfl) rfl, by decide +kernel, by decide +kernel, by decide +kernel⟩, lw_inT 1844 (by decide +kernel) rfl, lw_inT 1845 (by decide +kernel) rfl⟩
theorem ml_L_228 : Cond.methodLink RL 228 yX5_isResident ∈ lw_all := lw_inT 1843 (by decide +kernel) rfl
set_option maxRecDepth 100000 in
theorem gY_L_drawerOf : gYsW yL_drawerOf cL_drawerOf 4 (some .int) [(0, 9, 12, 21), (0, 9, 15, 43)] 3 := ⟨⟨lw_inT 0 (by decide +kernel) rfl, lw_b3 (List.mem_of_getElem? (i := 227) rfl) rfl, by decide +kernel, by decide +kernel, by decide +kernel⟩, lw_inT 706 (by decide +kernel) rfl⟩
theorem ml_L_229 : Cond.methodLink RL 229 yL_drawerOf ∈ lw_all := lw_inT 705 (by decide +kernel) rfl
set_option maxRecDepth 100000 in
theorem gY_X5_drawerOf : gYv yX5_drawerOf cX5_drawerOf 2 (some .int) 1 := ⟨⟨lw_inT 10 (by decide +kernel) rfl, lw_b8 (List.mem_of_getElem? (i := 170) rfl) rfl, by decide +kernel, by decide +kernel, by decide +kernel⟩, lw_inT 1848 (by decide +kernel) rfl, lw_inT 1849 (by decide +kernel) rfl⟩
theorem ml_L_231 : Cond.methodLink RL 231 yX5_drawerOf ∈ lw_all := lw_inT 1847 (by decide +kernel) rfl
set_option maxRecDepth 100000 in
theorem gY_L_levelOf : gYsW yL_levelOf cL_levelOf 4 (some .int) [(0, 9, 12, 21), (0, 9, 15, 43)] 3 := ⟨⟨lw_inT 0 (by decide +kernel) rfl, lw_b3 (List.mem_of_getElem? (i := 235) rfl) rfl, by decide +kernel, by decide +kernel, by decide +kernel⟩, lw_inT 714 (by decide +kernel) rfl⟩
theorem ml_L_232 : Cond.methodLink RL 232 yL_levelOf ∈ lw_all := lw_inT 713 (by decide +kernel) rfl
set_option maxRecDepth 100000 in
theorem gY_X5_levelOf : gYv yX5_levelOf cX5_levelOf 2 (some .int) 1 := ⟨⟨lw_inT 10 (by decide +kernel) rfl, lw_b8 (List.mem_of_getElem? (i := 178) rfl) rfl, by decide +kernel, by decide +kernel, by decide +kernel⟩, lw_inT 1856 (by decide +kernel) rfl, lw_inT 1857 (by decide +kernel) rfl⟩
theorem ml_L_234 : Cond.methodLink RL 234 yX5_levelOf ∈ lw_all := lw_inT 1855 (by decide +kernel) rfl
set_option maxRecDepth 100000 in
theorem gY_L_visaDay : gYsW yL_visaDay cL_visaDay 4 (some .int) [(0, 9, 12, 21), (0, 9, 15, 43)] 3 := ⟨⟨lw_inT 0 (by decide +kernel) rfl, lw_b4 (List.mem_of_getElem? (i := 6) rfl) rfl, by decide +kernel, by decide +kernel, by decide +kernel⟩, lw_inT 725 (by decide +kernel) rfl⟩
theorem ml_L_235 : Cond.methodLink RL 235 yL_visaDay ∈ lw_all := lw_inT 724 (by decide +kernel) rfl
set_option maxRecDepth 100000 in
theorem gY_X5_visaDay : gYv yX5_visaDay cX5_visaDay 2 (some .int) 1 := ⟨⟨lw_inT 10 (by decide +kernel) rfl, lw_b8 (List.mem_of_getElem? (i := 182) rfl) rfl, by decide +kernel, by decide +kernel, by decide +kernel⟩, lw_inT 1860 (by decide +kernel) rfl, lw_inT 1861 (by decide +kernel) rfl⟩
theorem ml_L_237 : Cond.methodLink RL 237 yX5_visaDay ∈ lw_all := lw_inT 1859 (by decide +kernel) rfl
set_option maxRecDepth 100000 in
theorem gY_L_partnerOf : gYsW yL_partnerOf cL_partnerOf 4 (some .int) [(0, 9, 12, 21), (0, 9, 15, 43)] 3 := ⟨⟨lw_inT 0 (by decide +kernel) rfl, lw_b4 (List.mem_of_getElem? (i := 13) rfl) rfl, by decide +kernel, by decide +kernel, by decide +kernel⟩, lw_inT 732 (by decide +kernel) rfl⟩
theorem ml_L_238 : Cond.methodLink RL 238 yL_partnerOf ∈ lw_all := lw_inT 731 (by decide +kernel) rfl
set_option maxRecDepth 100000 in
theorem gY_X5_partnerOf : gYv yX5_partnerOf cX5_partnerOf 2 (some .int) 1 := ⟨⟨lw_inT 10 (by decide +kernel) rfl, lw_b8 (List.mem_of_getElem? (i := 186) rfl) rfl, by decide +kernel, by decide +kernel, by decide +kernel⟩, lw_inT 1864 (by decide +kernel) rfl, lw_inT 1865 (by decide +kernel) rfl⟩
theorem ml_L_240 : Cond.methodLink RL 240 yX5_partnerOf ∈ lw_all := lw_inT 1863 (by decide +kernel) rfl
set_option maxRecDepth 100000 in
theorem gY_L_matches : gYsW yL_matches cL_matches 5 (some .int) [(0, 17, 20, 21)] 4 := ⟨⟨lw_inT 0 (by decide +kernel) rfl, lw_b4 (List.mem_of_getElem? (i := 20) rfl) rfl, by decide +kernel, by decide +kernel, by decide +kernel⟩, lw_inT 739 (by decide +kernel) rfl⟩
theorem ml_L_241 : Cond.methodLink RL 241 yL_matches ∈ lw_all := lw_inT 738 (by decide +kernel) rfl
set_option maxRecDepth 100000 in
theorem gY_X5_matches : gYv yX5_matches cX5_matches 3 (some .boolean) 2 := ⟨⟨lw_inT 10 (by decide +kernel) rfl, lw_b8 (List.mem_of_getElem? (i := 194) rfl) rfl, by decide +kernel, by decide +kernel, by decide +kernel⟩, lw_inT 1872 (by decide +kernel) rfl, lw_inT 1873 (by decide +kernel) rfl⟩
theorem ml_L_244 : Cond.methodLink RL 244 yX5_matches ∈ lw_all := lw_inT 1871 (by decide +kernel) rfl
set_option maxRecDepth 100000 in
theorem gY_L_apply : gYsW yL_apply cL_apply 5 (some .int) [(0, 10, 13, 21), (0, 10, 17, 15)] 4 := ⟨⟨lw_inT 0 (by decide +kernel) rfl, lw_b4 (List.mem_of_getElem? (i := 28) rfl) rfl, by decide +kernel, by decide +kernel, by decide +kernel⟩, lw_inT 747 (by decide +kernel) rfl⟩
theorem ml_L_245 : Cond.methodLink RL 245 yL_apply ∈ lw_all := lw_inT 746 (by decide +kernel) rfl
set_option maxRecDepth 100000 in
theorem gY_X5_apply : gYv yX5_apply cX5_apply 3 (some .int) 2 := ⟨⟨lw_inT 10 (by decide +kernel) rfl, lw_b8 (List.mem_of_getElem? (i := 202) rfl) rfl, by decide +kernel, by decide +kernel, by decide +kernel⟩, lw_inT 1880 (by decide +kernel) rfl, lw_inT 1881 (by decide +kernel) rfl⟩
theorem ml_L_247 : Cond.methodLink RL 247 yX5_apply ∈ lw_all := lw_inT 1879 (by decide +kernel) rfl
set_option maxRecDepth 100000 in
theorem gY_L_withdraw : gYsW yL_withdraw cL_withdraw 4 (some .int) [(0, 9, 12, 21), (0, 9, 15, 15)] 3 := ⟨⟨lw_inT 0 (by decide +kernel) rfl, lw_b4 (List.mem_of_getElem? (i := 51) rfl) rfl, by decide +kernel, by decide +kernel, by decide +kernel⟩, lw_inT 770 (by decide +kernel) rfl⟩
theorem ml_L_248 : Cond.methodLink RL 248 yL_withdraw ∈ lw_all := lw_inT 769 (by decide +kernel) rfl
set_option maxRecDepth 100000 in
theorem gY_X5_withdraw : gYv yX5_withdraw cX5_withdraw 2 (some .int) 1 := ⟨⟨lw_inT 10 (by decide +kernel) rfl, lw_b8 (List.mem_of_getElem? (i := 225) rfl) rfl, by decide +kernel, by decide +kernel, by decide +kernel⟩, lw_inT 1903 (by decide +kernel) rfl, lw_inT 1904 (by decide +kernel) rfl⟩
theorem ml_L_250 : Cond.methodLink RL 250 yX5_withdraw ∈ lw_all := lw_inT 1902 (by decide +kernel) rfl
set_option maxRecDepth 100000 in
theorem gY_L_appeal : gYsW yL_appeal cL_appeal 4 (some .int) [(0, 9, 12, 21), (0, 9, 15, 15)] 3 := ⟨⟨lw_inT 0 (by decide +kernel) rfl, lw_b4 (List.mem_of_getElem? (i := 67) rfl) rfl, by decide +kernel, by decide +kernel, by decide +kernel⟩, lw_inT 786 (by decide +kernel) rfl⟩
theorem ml_L_251 : Cond.methodLink RL 251 yL_appeal ∈ lw_all := lw_inT 785 (by decide +kernel) rfl
set_option maxRecDepth 100000 in
theorem gY_X5_appeal : gYv yX5_appeal cX5_appeal 2 (some .int) 1 := ⟨⟨lw_inT 10 (by decide +kernel) rfl, lw_b8 (List.mem_of_getElem? (i := 237) rfl) rfl, by decide +kernel, by decide +kernel, by decide +kernel⟩, lw_inT 1915 (by decide +kernel) rfl, lw_inT 1916 (by decide +kernel) rfl⟩
theorem ml_L_253 : Cond.methodLink RL 253 yX5_appeal ∈ lw_all := lw_inT 1914 (by decide +kernel) rfl
set_option maxRecDepth 100000 in
theorem gY_L_decide : gYsW yL_decide cL_decide 4 (some .int) [(0, 9, 12, 21)] 3 := ⟨⟨lw_inT 0 (by decide +kernel) rfl, lw_b4 (List.mem_of_getElem? (i := 82) rfl) rfl, by decide +kernel, by decide +kernel, by decide +kernel⟩, lw_inT 801 (by decide +kernel) rfl⟩
theorem ml_L_254 : Cond.methodLink RL 254 yL_decide ∈ lw_all := lw_inT 800 (by decide +kernel) rfl
set_option maxRecDepth 100000 in
theorem gY_X5_decide : gYv yX5_decide cX5_decide 2 (some .int) 1 := ⟨⟨lw_inT 10 (by decide +kernel) rfl, lw_b9 (List.mem_of_getElem? (i := 9) rfl) rfl, by decide +kernel, by decide +kernel, by decide +kernel⟩, lw_inT 1927 (by decide +kernel) rfl, lw_inT 1928 (by decide +kernel) rfl⟩
theorem ml_L_256 : Cond.methodLink RL 256 yX5_decide ∈ lw_all := lw_inT 1926 (by decide +kernel) rfl
set_option maxRecDepth 100000 in
theorem gY_L_wouldAdmit : gYsW yL_wouldAdmit cL_wouldAdmit 4 (some .int) [(0, 9, 12, 21)] 3 := ⟨⟨lw_inT 0 (by decide +kernel) rfl, lw_b4 (List.mem_of_getElem? (i := 123) rfl) rfl, by decide +kernel, by decide +kernel, by decide +kernel⟩, lw_inT 842 (by decide +kernel) rfl⟩
theorem ml_L_257 : Cond.methodLink RL 257 yL_wouldAdmit ∈ lw_all := lw_inT 841 (by decide +kernel) rfl
set_option maxRecDepth 100000 in
theorem gY_X5_wouldAdmit : gYv yX5_wouldAdmit cX5_wouldAdmit 3 (some .int) 1 := ⟨⟨lw_inT 10 (by decide +kernel) rfl, lw_b9 (List.mem_of_getElem? (i := 37) rfl) rfl, by decide +kernel, by decide +kernel, by decide +kernel⟩, lw_inT 1955 (by decide +kernel) rfl, lw_inT 1956 (by decide +kernel) rfl⟩
theorem ml_L_259 : Cond.methodLink RL 259 yX5_wouldAdmit ∈ lw_all := lw_inT 1954 (by decide +kernel) rfl
set_option maxRecDepth 100000 in
theorem gY_L_queueAt : gYsW yL_queueAt cL_queueAt 5 (some .int) [(0, 10, 13, 21), (0, 10, 17, 43)] 4 := ⟨⟨lw_inT 0 (by decide +kernel) rfl, lw_b4 (List.mem_of_getElem? (i := 139) rfl) rfl, by decide +kernel, by decide +kernel, by decide +kernel⟩, lw_inT 858 (by decide +kernel) rfl⟩
theorem ml_L_260 : Cond.methodLink RL 260 yL_queueAt ∈ lw_all := lw_inT 857 (by decide +kernel) rfl
set_option maxRecDepth 100000 in
theorem gY_X5_queueAt : gYv yX5_queueAt cX5_queueAt 4 (some .int) 2 := ⟨⟨lw_inT 10 (by decide +kernel) rfl, lw_b9 (List.mem_of_getElem? (i := 41) rfl) rfl, by decide +kernel, by decide +kernel, by decide +kernel⟩, lw_inT 1959 (by decide +kernel) rfl, lw_inT 1960 (by decide +kernel) rfl⟩
theorem ml_L_262 : Cond.methodLink RL 262 yX5_queueAt ∈ lw_all := lw_inT 1958 (by decide +kernel) rfl
set_option maxRecDepth 100000 in
theorem gY_L_pendingCount : gYsW yL_pendingCount cL_pendingCount 4 (some .int) [(0, 9, 12, 21)] 3 := ⟨⟨lw_inT 0 (by decide +kernel) rfl, lw_b4 (List.mem_of_getElem? (i := 147) rfl) rfl, by decide +kernel, by decide +kernel, by decide +kernel⟩, lw_inT 866 (by decide +kernel) rfl⟩
theorem ml_L_263 : Cond.methodLink RL 263 yL_pendingCount ∈ lw_all := lw_inT 865 (by decide +kernel) rfl
set_option maxRecDepth 100000 in
theorem gY_X5_pendingCount : gYv yX5_pendingCount cX5_pendingCount 2 (some .int) 1 := ⟨⟨lw_inT 10 (by decide +kernel) rfl, lw_b9 (List.mem_of_getElem? (i := 45) rfl) rfl, by decide +kernel, by decide +kernel, by decide +kernel⟩, lw_inT 1963 (by decide +kernel) rfl, lw_inT 1964 (by decide +kernel) rfl⟩
theorem ml_L_265 : Cond.methodLink RL 265 yX5_pendingCount ∈ lw_all := lw_inT 1962 (by decide +kernel) rfl
set_option maxRecDepth 100000 in
theorem gY_L_renew : gYsW yL_renew cL_renew 5 (some .int) [(0, 10, 13, 21), (0, 10, 17, 13), (0, 10, 21, 15)] 4 := ⟨⟨lw_inT 0 (by decide +kernel) rfl, lw_b4 (List.mem_of_getElem? (i := 155) rfl) rfl, by decide +kernel, by decide +kernel, by decide +kernel⟩, lw_inT 874 (by decide +kernel) rfl⟩
theorem ml_L_266 : Cond.methodLink RL 266 yL_renew ∈ lw_all := lw_inT 873 (by decide +kernel) rfl
set_option maxRecDepth 100000 in
theorem gY_X5_renew : gYv yX5_renew cX5_renew 3 (some .int) 2 := ⟨⟨lw_inT 10 (by decide +kernel) rfl, lw_b9 (List.mem_of_getElem? (i := 49) rfl) rfl, by decide +kernel, by decide +kernel, by decide +kernel⟩, lw_inT 1967 (by decide +kernel) rfl, lw_inT 1968 (by decide +kernel) rfl⟩
theorem ml_L_268 : Cond.methodLink RL 268 yX5_renew ∈ lw_all := lw_inT 1966 (by decide +kernel) rfl
set_option maxRecDepth 100000 in
theorem gY_L_leave : gYsW yL_leave cL_leave 4 (some .int) [(0, 9, 12, 21), (0, 9, 15, 15)] 3 := ⟨⟨lw_inT 0 (by decide +kernel) rfl, lw_b4 (List.mem_of_getElem? (i := 170) rfl) rfl, by decide +kernel, by decide +kernel, by decide +kernel⟩, lw_inT 889 (by decide +kernel) rfl⟩
theorem ml_L_269 : Cond.methodLink RL 269 yL_leave ∈ lw_all := lw_inT 888 (by decide +kernel) rfl
set_option maxRecDepth 100000 in
theorem gY_X5_leave : gYv yX5_leave cX5_leave 2 (some .int) 1 := ⟨⟨lw_inT 10 (by decide +kernel) rfl, lw_b9 (List.mem_of_getElem? (i := 65) rfl) rfl, by decide +kernel, by decide +kernel, by decide +kernel⟩, lw_inT 1983 (by decide +kernel) rfl, lw_inT 1984 (by decide +kernel) rfl⟩
theorem ml_L_271 : Cond.methodLink RL 271 yX5_leave ∈ lw_all := lw_inT 1982 (by decide +kernel) rfl
set_option maxRecDepth 100000 in
theorem gY_L_move : gYsW yL_move cL_move 5 (some .int) [(0, 10, 13, 21), (0, 10, 17, 15)] 4 := ⟨⟨lw_inT 0 (by decide +kernel) rfl, lw_b4 (List.mem_of_getElem? (i := 185) rfl) rfl, by decide +kernel, by decide +kernel, by decide +kernel⟩, lw_inT 904 (by decide +kernel) rfl⟩
theorem ml_L_272 : Cond.methodLink RL 272 yL_move ∈ lw_all := lw_inT 903 (by decide +kernel) rfl
set_option maxRecDepth 100000 in
theorem gY_X5_move : gYv yX5_move cX5_move 3 (some .int) 2 := ⟨⟨lw_inT 10 (by decide +kernel) rfl, lw_b9 (List.mem_of_getElem? (i := 81) rfl) rfl, by decide +kernel, by decide +kernel, by decide +kernel⟩, lw_inT 1999 (by decide +kernel) rfl, lw_inT 2000 (by decide +kernel) rfl⟩
theorem ml_L_274 : Cond.methodLink RL 274 yX5_move ∈ lw_all := lw_inT 1998 (by decide +kernel) rfl
set_option maxRecDepth 100000 in
theorem gY_L_pair : gYsW yL_pair cL_pair 5 (some .int) [(0, 10, 13, 21), (0, 10, 17, 13), (0, 10, 21, 15)] 4 := ⟨⟨lw_inT 0 (by decide +kernel) rfl, lw_b4 (List.mem_of_getElem? (i := 214) rfl) rfl, by decide +kernel, by decide +kernel, by decide +kernel⟩, lw_inT 933 (by decide +kernel) rfl⟩
theorem ml_L_275 : Cond.methodLink RL 275 yL_pair ∈ lw_all := lw_inT 932 (by decide +kernel) rfl
set_option maxRecDepth 100000 in
theorem gY_X5_pair : gYv yX5_pair cX5_pair 3 (some .int) 2 := ⟨⟨lw_inT 10 (by decide +kernel) rfl, lw_b9 (List.mem_of_getElem? (i := 96) rfl) rfl, by decide +kernel, by decide +kernel, by decide +kernel⟩, lw_inT 2014 (by decide +kernel) rfl, lw_inT 2015 (by decide +kernel) rfl⟩
theorem ml_L_277 : Cond.methodLink RL 277 yX5_pair ∈ lw_all := lw_inT 2013 (by decide +kernel) rfl
set_option maxRecDepth 100000 in
theorem gY_L_separate : gYsW yL_separate cL_separate 4 (some .int) [(0, 9, 12, 21), (0, 9, 15, 15)] 3 := ⟨⟨lw_inT 0 (by decide +kernel) rfl, lw_b4 (List.mem_of_getElem? (i := 238) rfl) rfl, by decide +kernel, by decide +kernel, by decide +kernel⟩, lw_inT 957 (by decide +kernel) rfl⟩
theorem ml_L_278 : Cond.methodLink RL 278 yL_separate ∈ lw_all := lw_inT 956 (by decide +kernel) rfl
set_option maxRecDepth 100000 in
theorem gY_X5_separate : gYv yX5_separate cX5_separate 2 (some .int) 1 := ⟨⟨lw_inT 10 (by decide +kernel) rfl, lw_b9 (List.mem_of_getElem? (i := 112) rfl) rfl, by decide +kernel, by decide +kernel, by decide +kernel⟩, lw_inT 2030 (by decide +kernel) rfl, lw_inT 2031 (by decide +kernel) rfl⟩
theorem ml_L_280 : Cond.methodLink RL 280 yX5_separate ∈ lw_all := lw_inT 2029 (by decide +kernel) rfl
set_option maxRecDepth 100000 in
theorem gY_L_pairCount : gYsW yL_pairCount cL_pairCount 4 (some .int) [(0, 9, 12, 21)] 3 := ⟨⟨lw_inT 0 (by decide +kernel) rfl, lw_b5 (List.mem_of_getElem? (i := 13) rfl) rfl, by decide +kernel, by decide +kernel, by decide +kernel⟩, lw_inT 972 (by decide +kernel) rfl⟩
theorem ml_L_281 : Cond.methodLink RL 281 yL_pairCount ∈ lw_all := lw_inT 971 (by decide +kernel) rfl
set_option maxRecDepth 100000 in
theorem gY_X5_pairCount : gYv yX5_pairCount cX5_pairCount 2 (some .int) 1 := ⟨⟨lw_inT 10 (by decide +kernel) rfl, lw_b9 (List.mem_of_getElem? (i := 124) rfl) rfl, by decide +kernel, by decide +kernel, by decide +kernel⟩, lw_inT 2042 (by decide +kernel) rfl, lw_inT 2043 (by decide +kernel) rfl⟩
theorem ml_L_283 : Cond.methodLink RL 283 yX5_pairCount ∈ lw_all := lw_inT 2041 (by decide +kernel) rfl
set_option maxRecDepth 100000 in
theorem gY_L_possiblePairs : gYsW yL_possiblePairs cL_possiblePairs 4 (some .int) [(0, 9, 12, 21)] 3 := ⟨⟨lw_inT 0 (by decide +kernel) rfl, lw_b5 (List.mem_of_getElem? (i := 21) rfl) rfl, by decide +kernel, by decide +kernel, by decide +kernel⟩, lw_inT 980 (by decide +kernel) rfl⟩
theorem ml_L_284 : Cond.methodLink RL 284 yL_possiblePairs ∈ lw_all := lw_inT 979 (by decide +kernel) rfl
set_option maxRecDepth 100000 in
theorem gY_X5_possiblePairs : gYv yX5_possiblePairs cX5_possiblePairs 2 (some .int) 1 := ⟨⟨lw_inT 10 (by decide +kernel) rfl, lw_b9 (List.mem_of_getElem? (i := 128) rfl) rfl, by decide +kernel, by decide +kernel, by decide +kernel⟩, lw_inT 2046 (by decide +kernel) rfl, lw_inT 2047 (by decide +kernel) rfl⟩
theorem ml_L_286 : Cond.methodLink RL 286 yX5_possiblePairs ∈ lw_all := lw_inT 2045 (by decide +kernel) rfl
set_option maxRecDepth 100000 in
theorem gY_L_possiblePairsByColours : gYsW yL_possiblePairsByColours cL_possiblePairsByColours 4 (some .int) [(0, 9, 12, 21)] 3 := ⟨⟨lw_inT 0 (by decide +kernel) rfl, lw_b5 (List.mem_of_getElem? (i := 29) rfl) rfl, by decide +kernel, by decide +kernel, by decide +kernel⟩, lw_inT 988 (by decide +kernel) rfl⟩
theorem ml_L_287 : Cond.methodLink RL 287 yL_possiblePairsByColours ∈ lw_all := lw_inT 987 (by decide +kernel) rfl
set_option maxRecDepth 100000 in
theorem gY_X5_possiblePairsByColours : gYv yX5_possiblePairsByColours cX5_possiblePairsByColours 2 (some .int) 1 := ⟨⟨lw_inT 10 (by decide +kernel) rfl, lw_b9 (List.mem_of_getElem? (i := 140) rfl) rfl, by decide +kernel, by decide +kernel, by decide +kernel⟩, lw_inT 2058 (by decide +kernel) rfl, lw_inT 2059 (by decide +kernel) rfl⟩
theorem ml_L_289 : Cond.methodLink RL 289 yX5_possiblePairsByColours ∈ lw_all := lw_inT 2057 (by decide +kernel) rfl
set_option maxRecDepth 100000 in
theorem gY_L_setQuota : gYsW yL_setQuota cL_setQuota 5 (some .int) [(0, 10, 13, 21), (0, 10, 17, 13)] 4 := ⟨⟨lw_inT 0 (by decide +kernel) rfl, lw_b5 (List.mem_of_getElem? (i := 37) rfl) rfl, by decide +kernel, by decide +kernel, by decide +kernel⟩, lw_inT 996 (by decide +kernel) rfl⟩
theorem ml_L_290 : Cond.methodLink RL 290 yL_setQuota ∈ lw_all := lw_inT 995 (by decide +kernel) rfl
set_option maxRecDepth 100000 in
theorem gY_X5_setQuota : gYv yX5_setQuota cX5_setQuota 3 (some .int) 2 := ⟨⟨lw_inT 10 (by decide +kernel) rfl, lw_b9 (List.mem_of_getElem? (i := 144) rfl) rfl, by decide +kernel, by decide +kernel, by decide +kernel⟩, lw_inT 2062 (by decide +kernel) rfl, lw_inT 2063 (by decide +kernel) rfl⟩
theorem ml_L_292 : Cond.methodLink RL 292 yX5_setQuota ∈ lw_all := lw_inT 2061 (by decide +kernel) rfl
set_option maxRecDepth 100000 in
theorem gY_L_ban : gYsW yL_ban cL_ban 5 (some .int) [(0, 17, 20, 21), (0, 17, 24, 13)] 4 := ⟨⟨lw_inT 0 (by decide +kernel) rfl, lw_b5 (List.mem_of_getElem? (i := 52) rfl) rfl, by decide +kernel, by decide +kernel, by decide +kernel⟩, lw_inT 1011 (by decide +kernel) rfl⟩
theorem ml_L_293 : Cond.methodLink RL 293 yL_ban ∈ lw_all := lw_inT 1010 (by decide +kernel) rfl
set_option maxRecDepth 100000 in
theorem gY_X5_ban : gYv yX5_ban cX5_ban 3 (some .boolean) 2 := ⟨⟨lw_inT 10 (by decide +kernel) rfl, lw_b9 (List.mem_of_getElem? (i := 152) rfl) rfl, by decide +kernel, by decide +kernel, by decide +kernel⟩, lw_inT 2070 (by decide +kernel) rfl, lw_inT 2071 (by decide +kernel) rfl⟩
theorem ml_L_296 : Cond.methodLink RL 296 yX5_ban ∈ lw_all := lw_inT 2069 (by decide +kernel) rfl
set_option maxRecDepth 100000 in
theorem gY_L_unban : gYsW yL_unban cL_unban 5 (some .int) [(0, 17, 20, 21), (0, 17, 24, 13)] 4 := ⟨⟨lw_inT 0 (by decide +kernel) rfl, lw_b5 (List.mem_of_getElem? (i := 67) rfl) rfl, by decide +kernel, by decide +kernel, by decide +kernel⟩, lw_inT 1026 (by decide +kernel) rfl⟩
theorem ml_L_297 : Cond.methodLink RL 297 yL_unban ∈ lw_all := lw_inT 1025 (by decide +kernel) rfl
set_option maxRecDepth 100000 in
theorem gY_X5_unban : gYv yX5_unban cX5_unban 3 (some .boolean) 2 := ⟨⟨lw_inT 10 (by decide +kernel) rfl, lw_b9 (List.mem_of_getElem? (i := 164) rfl) rfl, by decide +kernel, by decide +kernel, by decide +kernel⟩, lw_inT 2082 (by decide +kernel) rfl, lw_inT 2083 (by decide +kernel) rfl⟩
theorem ml_L_299 : Cond.methodLink RL 299 yX5_unban ∈ lw_all := lw_inT 2081 (by decide +kernel) rfl
set_option maxRecDepth 100000 in
theorem gY_L_signTreaty : gYsW yL_signTreaty cL_signTreaty 6 (some .int) [(0, 12, 15, 21), (0, 12, 19, 13), (0, 12, 23, 15)] 5 := ⟨⟨lw_inT 0 (by decide +kernel) rfl, lw_b5 (List.mem_of_getElem? (i := 78) rfl) rfl, by decide +kernel, by decide +kernel, by decide +kernel⟩, lw_inT 1037 (by decide +kernel) rfl⟩
theorem ml_L_300 : Cond.methodLink RL 300 yL_signTreaty ∈ lw_all := lw_inT 1036 (by decide +kernel) rfl
set_option maxRecDepth 100000 in
theorem gY_X5_signTreaty : gYv yX5_signTreaty cX5_signTreaty 4 (some .int) 3 := ⟨⟨lw_inT 10 (by decide +kernel) rfl, lw_b9 (List.mem_of_getElem? (i := 168) rfl) rfl, by decide +kernel, by decide +kernel, by decide +kernel⟩, lw_inT 2086 (by decide +kernel) rfl, lw_inT 2087 (by decide +kernel) rfl⟩
theorem ml_L_303 : Cond.methodLink RL 303 yX5_signTreaty ∈ lw_all := lw_inT 2085 (by decide +kernel) rfl
set_option maxRecDepth 100000 in
theorem gY_L_endTreaty : gYsW yL_endTreaty cL_endTreaty 5 (some .int) [(0, 10, 13, 21), (0, 10, 17, 43)] 4 := ⟨⟨lw_inT 0 (by decide +kernel) rfl, lw_b5 (List.mem_of_getElem? (i := 103) rfl) rfl, by decide +kernel, by decide +kernel, by decide +kernel⟩, lw_inT 1062 (by decide +kernel) rfl⟩
theorem ml_L_304 : Cond.methodLink RL 304 yL_endTreaty ∈ lw_all := lw_inT 1061 (by decide +kernel) rfl
set_option maxRecDepth 100000 in
theorem gY_X5_endTreaty : gYv yX5_endTreaty cX5_endTreaty 4 (some .int) 2 := ⟨⟨lw_inT 10 (by decide +kernel) rfl, lw_b9 (List.mem_of_getElem? (i := 187) rfl) rfl, by decide +kernel, by decide +kernel, by decide +kernel⟩, lw_inT 2105 (by decide +kernel) rfl, lw_inT 2106 (by decide +kernel) rfl⟩
theorem ml_L_306 : Cond.methodLink RL 306 yX5_endTreaty ∈ lw_all := lw_inT 2104 (by decide +kernel) rfl
set_option maxRecDepth 100000 in
theorem gY_L_clauseOf : gYsW yL_clauseOf cL_clauseOf 5 (some .int) [(0, 10, 13, 21), (0, 10, 17, 43)] 4 := ⟨⟨lw_inT 0 (by decide +kernel) rfl, lw_b5 (List.mem_of_getElem? (i := 118) rfl) rfl, by decide +kernel, by decide +kernel, by decide +kernel⟩, lw_inT 1077 (by decide +kernel) rfl⟩
theorem ml_L_307 : Cond.methodLink RL 307 yL_clauseOf ∈ lw_all := lw_inT 1076 (by decide +kernel) rfl
set_option maxRecDepth 100000 in
theorem gY_X5_clauseOf : gYv yX5_clauseOf cX5_clauseOf 3 (some .char) 2 := ⟨⟨lw_inT 10 (by decide +kernel) rfl, lw_b9 (List.mem_of_getElem? (i := 195) rfl) rfl, by decide +kernel, by decide +kernel, by decide +kernel⟩, lw_inT 2113 (by decide +kernel) rfl, lw_inT 2114 (by decide +kernel) rfl⟩
theorem ml_L_309 : Cond.methodLink RL 309 yX5_clauseOf ∈ lw_all := lw_inT 2112 (by decide +kernel) rfl
set_option maxRecDepth 100000 in
theorem gY_L_quotaOf : gYsW yL_quotaOf cL_quotaOf 4 (some .int) [(0, 9, 12, 21)] 3 := ⟨⟨lw_inT 0 (by decide +kernel) rfl, lw_b5 (List.mem_of_getElem? (i := 127) rfl) rfl, by decide +kernel, by decide +kernel, by decide +kernel⟩, lw_inT 1086 (by decide +kernel) rfl⟩
theorem ml_L_310 : Cond.methodLink RL 310 yL_quotaOf ∈ lw_all := lw_inT 1085 (by decide +kernel) rfl
set_option maxRecDepth 100000 in
theorem gY_X5_quotaOf : gYv yX5_quotaOf cX5_quotaOf 2 (some .int) 1 := ⟨⟨lw_inT 10 (by decide +kernel) rfl, lw_b9 (List.mem_of_getElem? (i := 199) rfl) rfl, by decide +kernel, by decide +kernel, by decide +kernel⟩, lw_inT 2117 (by decide +kernel) rfl, lw_inT 2118 (by decide +kernel) rfl⟩
theorem ml_L_312 : Cond.methodLink RL 312 yX5_quotaOf ∈ lw_all := lw_inT 2116 (by decide +kernel) rfl
set_option maxRecDepth 100000 in
theorem gY_L_residents : gYsW yL_residents cL_residents 4 (some .int) [(0, 9, 12, 21)] 3 := ⟨⟨lw_inT 0 (by decide +kernel) rfl, lw_b5 (List.mem_of_getElem? (i := 134) rfl) rfl, by decide +kernel, by decide +kernel, by decide +kernel⟩, lw_inT 1093 (by decide +kernel) rfl⟩
theorem ml_L_313 : Cond.methodLink RL 313 yL_residents ∈ lw_all := lw_inT 1092 (by decide +kernel) rfl
set_option maxRecDepth 100000 in
theorem gY_X5_residents : gYv yX5_residents cX5_residents 2 (some .int) 1 := ⟨⟨lw_inT 10 (by decide +kernel) rfl, lw_b9 (List.mem_of_getElem? (i := 203) rfl) rfl, by decide +kernel, by decide +kernel, by decide +kernel⟩, lw_inT 2121 (by decide +kernel) rfl, lw_inT 2122 (by decide +kernel) rfl⟩
theorem ml_L_315 : Cond.methodLink RL 315 yX5_residents ∈ lw_all := lw_inT 2120 (by decide +kernel) rfl
set_option maxRecDepth 100000 in
theorem gY_L_residentAt : gYsW yL_residentAt cL_residentAt 5 (some .int) [(0, 10, 13, 21), (0, 10, 17, 43)] 4 := ⟨⟨lw_inT 0 (by decide +kernel) rfl, lw_b5 (List.mem_of_getElem? (i := 141) rfl) rfl, by decide +kernel, by decide +kernel, by decide +kernel⟩, lw_inT 1100 (by decide +kernel) rfl⟩
theorem ml_L_316 : Cond.methodLink RL 316 yL_residentAt ∈ lw_all := lw_inT 1099 (by decide +kernel) rfl
set_option maxRecDepth 100000 in
theorem gY_X5_residentAt : gYv yX5_residentAt cX5_residentAt 5 (some .int) 2 := ⟨⟨lw_inT 10 (by decide +kernel) rfl, lw_b9 (List.mem_of_getElem? (i := 207) rfl) rfl, by decide +kernel, by decide +kernel, by decide +kernel⟩, lw_inT 2125 (by decide +kernel) rfl, lw_inT 2126 (by decide +kernel) rfl⟩
theorem ml_L_318 : Cond.methodLink RL 318 yX5_residentAt ∈ lw_all := lw_inT 2124 (by decide +kernel) rfl
set_option maxRecDepth 100000 in
theorem gY_L_isBanned : gYsW yL_isBanned cL_isBanned 5 (some .int) [(0, 17, 20, 21), (0, 17, 24, 13)] 4 := ⟨⟨lw_inT 0 (by decide +kernel) rfl, lw_b5 (List.mem_of_getElem? (i := 152) rfl) rfl, by decide +kernel, by decide +kernel, by decide +kernel⟩, lw_inT 1111 (by decide +kernel) rfl⟩
theorem ml_L_319 : Cond.methodLink RL 319 yL_isBanned ∈ lw_all := lw_inT 1110 (by decide +kernel) rfl
set_option maxRecDepth 100000 in
theorem gY_X5_isBanned : gYv yX5_isBanned cX5_isBanned 3 (some .boolean) 2 := ⟨⟨lw_inT 10 (by decide +kernel) rfl, lw_b9 (List.mem_of_getElem? (i := 211) rfl) rfl, by decide +kernel, by decide +kernel, by decide +kernel⟩, lw_inT 2129 (by decide +kernel) rfl, lw_inT 2130 (by decide +kernel) rfl⟩
theorem ml_L_321 : Cond.methodLink RL 321 yX5_isBanned ∈ lw_all := lw_inT 2128 (by decide +kernel) rfl
set_option maxRecDepth 100000 in
theorem gY_L_canMove : gYsW yL_canMove cL_canMove 5 (some .int) [(0, 17, 20, 21)] 4 := ⟨⟨lw_inT 0 (by decide +kernel) rfl, lw_b5 (List.mem_of_getElem? (i := 160) rfl) rfl, by decide +kernel, by decide +kernel, by decide +kernel⟩, lw_inT 1119 (by decide +kernel) rfl⟩
theorem ml_L_322 : Cond.methodLink RL 322 yL_canMove ∈ lw_all := lw_inT 1118 (by decide +kernel) rfl
set_option maxRecDepth 100000 in
theorem gY_X5_canMove : gYv yX5_canMove cX5_canMove 3 (some .boolean) 2 := ⟨⟨lw_inT 10 (by decide +kernel) rfl, lw_b9 (List.mem_of_getElem? (i := 215) rfl) rfl, by decide +kernel, by decide +kernel, by decide +kernel⟩, lw_inT 2133 (by decide +kernel) rfl, lw_inT 2134 (by decide +kernel) rfl⟩
theorem ml_L_324 : Cond.methodLink RL 324 yX5_canMove ∈ lw_all := lw_inT 2132 (by decide +kernel) rfl
set_option maxRecDepth 100000 in
theorem gY_L_passDays : gYsW yL_passDays cL_passDays 4 (some .int) [(0, 9, 12, 13)] 3 := ⟨⟨lw_inT 0 (by decide +kernel) rfl, lw_b5 (List.mem_of_getElem? (i := 167) rfl) rfl, by decide +kernel, by decide +kernel, by decide +kernel⟩, lw_inT 1126 (by decide +kernel) rfl⟩
theorem ml_L_325 : Cond.methodLink RL 325 yL_passDays ∈ lw_all := lw_inT 1125 (by decide +kernel) rfl
set_option maxRecDepth 100000 in
theorem gY_X5_passDays : gYv yX5_passDays cX5_passDays 2 (some .int) 1 := ⟨⟨lw_inT 10 (by decide +kernel) rfl, lw_b9 (List.mem_of_getElem? (i := 219) rfl) rfl, by decide +kernel, by decide +kernel, by decide +kernel⟩, lw_inT 2137 (by decide +kernel) rfl, lw_inT 2138 (by decide +kernel) rfl⟩
theorem ml_L_327 : Cond.methodLink RL 327 yX5_passDays ∈ lw_all := lw_inT 2136 (by decide +kernel) rfl
set_option maxRecDepth 100000 in
theorem gY_X4_day : gYv yX4_day cX4_day 1 (some .int) 0 := ⟨⟨lw_inT 1 (by decide +kernel) rfl, lw_b2 (List.mem_of_getElem? (i := 22) rfl) rfl, by decide +kernel, by decide +kernel, by decide +kernel⟩, lw_inT 260 (by decide +kernel) rfl, lw_inT 261 (by decide +kernel) rfl⟩
theorem ml_L_328 : Cond.methodLink RL 328 yX4_day ∈ lw_all := lw_inT 259 (by decide +kernel) rfl
set_option maxRecDepth 100000 in
theorem gY_X5_day : gYv yX5_day cX5_day 1 (some .int) 0 := ⟨⟨lw_inT 10 (by decide +kernel) rfl, lw_b9 (List.mem_of_getElem? (i := 227) rfl) rfl, by decide +kernel, by decide +kernel, by decide +kernel⟩, lw_inT 2145 (by decide +kernel) rfl, lw_inT 2146 (by decide +kernel) rfl⟩
theorem ml_L_331 : Cond.methodLink RL 331 yX5_day ∈ lw_all := lw_inT 2144 (by decide +kernel) rfl
set_option maxRecDepth 100000 in
theorem gY_L_wouldExpel : gYsW yL_wouldExpel cL_wouldExpel 4 (some .int) [(0, 9, 12, 13)] 3 := ⟨⟨lw_inT 0 (by decide +kernel) rfl, lw_b5 (List.mem_of_getElem? (i := 190) rfl) rfl, by decide +kernel, by decide +kernel, by decide +kernel⟩, lw_inT 1149 (by decide +kernel) rfl⟩
theorem ml_L_332 : Cond.methodLink RL 332 yL_wouldExpel ∈ lw_all := lw_inT 1148 (by decide +kernel) rfl
set_option maxRecDepth 100000 in
theorem gY_X5_wouldExpel : gYv yX5_wouldExpel cX5_wouldExpel 3 (some .int) 1 := ⟨⟨lw_inT 10 (by decide +kernel) rfl, lw_b9 (List.mem_of_getElem? (i := 231) rfl) rfl, by decide +kernel, by decide +kernel, by decide +kernel⟩, lw_inT 2149 (by decide +kernel) rfl, lw_inT 2150 (by decide +kernel) rfl⟩
theorem ml_L_334 : Cond.methodLink RL 334 yX5_wouldExpel ∈ lw_all := lw_inT 2148 (by decide +kernel) rfl
set_option maxRecDepth 100000 in
theorem gY_X4_admittedCount : gYv yX4_admittedCount cX4_admittedCount 1 (some .int) 0 := ⟨⟨lw_inT 1 (by decide +kernel) rfl, lw_b2 (List.mem_of_getElem? (i := 26) rfl) rfl, by decide +kernel, by decide +kernel, by decide +kernel⟩, lw_inT 264 (by decide +kernel) rfl, lw_inT 265 (by decide +kernel) rfl⟩
theorem ml_L_335 : Cond.methodLink RL 335 yX4_admittedCount ∈ lw_all := lw_inT 263 (by decide +kernel) rfl
set_option maxRecDepth 100000 in
theorem gY_X5_admittedCount : gYv yX5_admittedCount cX5_admittedCount 1 (some .int) 0 := ⟨⟨lw_inT 10 (by decide +kernel) rfl, lw_b9 (List.mem_of_getElem? (i := 235) rfl) rfl, by decide +kernel, by decide +kernel, by decide +kernel⟩, lw_inT 2153 (by decide +kernel) rfl, lw_inT 2154 (by decide +kernel) rfl⟩
theorem ml_L_338 : Cond.methodLink RL 338 yX5_admittedCount ∈ lw_all := lw_inT 2152 (by decide +kernel) rfl
set_option maxRecDepth 100000 in
theorem gY_X4_refusedCount : gYv yX4_refusedCount cX4_refusedCount 1 (some .int) 0 := ⟨⟨lw_inT 1 (by decide +kernel) rfl, lw_b2 (List.mem_of_getElem? (i := 30) rfl) rfl, by decide +kernel, by decide +kernel, by decide +kernel⟩, lw_inT 268 (by decide +kernel) rfl, lw_inT 269 (by decide +kernel) rfl⟩
theorem ml_L_339 : Cond.methodLink RL 339 yX4_refusedCount ∈ lw_all := lw_inT 267 (by decide +kernel) rfl
set_option maxRecDepth 100000 in
theorem gY_X5_refusedCount : gYv yX5_refusedCount cX5_refusedCount 1 (some .int) 0 := ⟨⟨lw_inT 10 (by decide +kernel) rfl, lw_b9 (List.mem_of_getElem? (i := 239) rfl) rfl, by decide +kernel, by decide +kernel, by decide +kernel⟩, lw_inT 2157 (by decide +kernel) rfl, lw_inT 2158 (by decide +kernel) rfl⟩
theorem ml_L_342 : Cond.methodLink RL 342 yX5_refusedCount ∈ lw_all := lw_inT 2156 (by decide +kernel) rfl
set_option maxRecDepth 100000 in
theorem gY_X4_expelledCount : gYv yX4_expelledCount cX4_expelledCount 1 (some .int) 0 := ⟨⟨lw_inT 1 (by decide +kernel) rfl, lw_b2 (List.mem_of_getElem? (i := 34) rfl) rfl, by decide +kernel, by decide +kernel, by decide +kernel⟩, lw_inT 272 (by decide +kernel) rfl, lw_inT 273 (by decide +kernel) rfl⟩
theorem ml_L_343 : Cond.methodLink RL 343 yX4_expelledCount ∈ lw_all := lw_inT 271 (by decide +kernel) rfl
set_option maxRecDepth 100000 in
theorem gY_X5_expelledCount : gYv yX5_expelledCount cX5_expelledCount 1 (some .int) 0 := ⟨⟨lw_inT 10 (by decide +kernel) rfl, lw_b10 (List.mem_of_getElem? (i := 3) rfl) rfl, by decide +kernel, by decide +kernel, by decide +kernel⟩, lw_inT 2161 (by decide +kernel) rfl, lw_inT 2162 (by decide +kernel) rfl⟩
theorem ml_L_346 : Cond.methodLink RL 346 yX5_expelledCount ∈ lw_all := lw_inT 2160 (by decide +kernel) rfl
set_option maxRecDepth 100000 in
theorem gY_X4_admissionBalance : gYv yX4_admissionBalance cX4_admissionBalance 1 (some .int) 0 := ⟨⟨lw_inT 1 (by decide +kernel) rfl, lw_b2 (List.mem_of_getElem? (i := 38) rfl) rfl, by decide +kernel, by decide +kernel, by decide +kernel⟩, lw_inT 276 (by decide +kernel) rfl, lw_inT 277 (by decide +kernel) rfl⟩
theorem ml_L_347 : Cond.methodLink RL 347 yX4_admissionBalance ∈ lw_all := lw_inT 275 (by decide +kernel) rfl
set_option maxRecDepth 100000 in
theorem gY_X5_admissionBalance : gYv yX5_admissionBalance cX5_admissionBalance 1 (some .int) 0 := ⟨⟨lw_inT 10 (by decide +kernel) rfl, lw_b10 (List.mem_of_getElem? (i := 7) rfl) rfl, by decide +kernel, by decide +kernel, by decide +kernel⟩, lw_inT 2165 (by decide +kernel) rfl, lw_inT 2166 (by decide +kernel) rfl⟩
theorem ml_L_350 : Cond.methodLink RL 350 yX5_admissionBalance ∈ lw_all := lw_inT 2164 (by decide +kernel) rfl
set_option maxRecDepth 100000 in
theorem gY_L_drawerByResidents : gYsW yL_drawerByResidents cL_drawerByResidents 4 (some .int) [(0, 9, 12, 43)] 3 := ⟨⟨lw_inT 0 (by decide +kernel) rfl, lw_b5 (List.mem_of_getElem? (i := 201) rfl) rfl, by decide +kernel, by decide +kernel, by decide +kernel⟩, lw_inT 1160 (by decide +kernel) rfl⟩
theorem ml_L_351 : Cond.methodLink RL 351 yL_drawerByResidents ∈ lw_all := lw_inT 1159 (by decide +kernel) rfl
set_option maxRecDepth 100000 in
theorem gY_X5_drawerByResidents : gYv yX5_drawerByResidents cX5_drawerByResidents 5 (some .int) 1 := ⟨⟨lw_inT 10 (by decide +kernel) rfl, lw_b10 (List.mem_of_getElem? (i := 11) rfl) rfl, by decide +kernel, by decide +kernel, by decide +kernel⟩, lw_inT 2169 (by decide +kernel) rfl, lw_inT 2170 (by decide +kernel) rfl⟩
theorem ml_L_353 : Cond.methodLink RL 353 yX5_drawerByResidents ∈ lw_all := lw_inT 2168 (by decide +kernel) rfl
set_option maxRecDepth 100000 in
theorem gY_L_meanSize : gYsW yL_meanSize cL_meanSize 3 (some .int) [(0, 7, 10, 153)] 2 := ⟨⟨lw_inT 0 (by decide +kernel) rfl, lw_b5 (List.mem_of_getElem? (i := 220) rfl) rfl, by decide +kernel, by decide +kernel, by decide +kernel⟩, lw_inT 1179 (by decide +kernel) rfl⟩
theorem ml_L_354 : Cond.methodLink RL 354 yL_meanSize ∈ lw_all := lw_inT 1178 (by decide +kernel) rfl
set_option maxRecDepth 100000 in
theorem gY_X5_meanSize : gYv yX5_meanSize cX5_meanSize 3 (some .double) 0 := ⟨⟨lw_inT 10 (by decide +kernel) rfl, lw_b10 (List.mem_of_getElem? (i := 19) rfl) rfl, by decide +kernel, by decide +kernel, by decide +kernel⟩, lw_inT 2177 (by decide +kernel) rfl, lw_inT 2178 (by decide +kernel) rfl⟩
theorem ml_L_357 : Cond.methodLink RL 357 yX5_meanSize ∈ lw_all := lw_inT 2176 (by decide +kernel) rfl
set_option maxRecDepth 100000 in
theorem gY_L_residentShare : gYsW yL_residentShare cL_residentShare 3 (some .int) [(0, 8, 11, 153)] 2 := ⟨⟨lw_inT 0 (by decide +kernel) rfl, lw_b6 (List.mem_of_getElem? (i := 12) rfl) rfl, by decide +kernel, by decide +kernel, by decide +kernel⟩, lw_inT 1211 (by decide +kernel) rfl⟩
theorem ml_L_358 : Cond.methodLink RL 358 yL_residentShare ∈ lw_all := lw_inT 1210 (by decide +kernel) rfl
set_option maxRecDepth 100000 in
theorem gY_X5_residentShare : gYv yX5_residentShare cX5_residentShare 3 (some .float) 0 := ⟨⟨lw_inT 10 (by decide +kernel) rfl, lw_b10 (List.mem_of_getElem? (i := 23) rfl) rfl, by decide +kernel, by decide +kernel, by decide +kernel⟩, lw_inT 2181 (by decide +kernel) rfl, lw_inT 2182 (by decide +kernel) rfl⟩
theorem ml_L_360 : Cond.methodLink RL 360 yX5_residentShare ∈ lw_all := lw_inT 2180 (by decide +kernel) rfl
set_option maxRecDepth 100000 in
theorem gY_X4_isConsistent : gYv yX4_isConsistent cX4_isConsistent 1 (some .boolean) 0 := ⟨⟨lw_inT 1 (by decide +kernel) rfl, lw_b2 (List.mem_of_getElem? (i := 42) rfl) rfl, by decide +kernel, by decide +kernel, by decide +kernel⟩, lw_inT 280 (by decide +kernel) rfl, lw_inT 281 (by decide +kernel) rfl⟩
theorem ml_L_361 : Cond.methodLink RL 361 yX4_isConsistent ∈ lw_all := lw_inT 279 (by decide +kernel) rfl
set_option maxRecDepth 100000 in
theorem gY_X5_isConsistent : gYv yX5_isConsistent cX5_isConsistent 1 (some .boolean) 0 := ⟨⟨lw_inT 10 (by decide +kernel) rfl, lw_b10 (List.mem_of_getElem? (i := 27) rfl) rfl, by decide +kernel, by decide +kernel, by decide +kernel⟩, lw_inT 2185 (by decide +kernel) rfl, lw_inT 2186 (by decide +kernel) rfl⟩
theorem ml_L_365 : Cond.methodLink RL 365 yX5_isConsistent ∈ lw_all := lw_inT 2184 (by decide +kernel) rfl
set_option maxRecDepth 100000 in
theorem gY_L_writeSock : gYsW yL_writeSock cL_writeSock 4 (some .int) [(0, 9, 12, 21)] 3 := ⟨⟨lw_inT 0 (by decide +kernel) rfl, lw_b6 (List.mem_of_getElem? (i := 23) rfl) rfl, by decide +kernel, by decide +kernel, by decide +kernel⟩, lw_inT 1222 (by decide +kernel) rfl⟩
theorem ml_L_366 : Cond.methodLink RL 366 yL_writeSock ∈ lw_all := lw_inT 1221 (by decide +kernel) rfl
set_option maxRecDepth 100000 in
theorem gY_X5_writeSock : gYv yX5_writeSock cX5_writeSock 2 (some .int) 1 := ⟨⟨lw_inT 10 (by decide +kernel) rfl, lw_b10 (List.mem_of_getElem? (i := 31) rfl) rfl, by decide +kernel, by decide +kernel, by decide +kernel⟩, lw_inT 2189 (by decide +kernel) rfl, lw_inT 2190 (by decide +kernel) rfl⟩
theorem ml_L_368 : Cond.methodLink RL 368 yX5_writeSock ∈ lw_all := lw_inT 2188 (by decide +kernel) rfl
set_option maxRecDepth 100000 in
theorem gY_L_outputAt : gYsW yL_outputAt cL_outputAt 4 (some .int) [(0, 9, 12, 21)] 3 := ⟨⟨lw_inT 0 (by decide +kernel) rfl, lw_b7 (List.mem_of_getElem? (i := 33) rfl) rfl, by decide +kernel, by decide +kernel, by decide +kernel⟩, lw_inT 1472 (by decide +kernel) rfl⟩
theorem ml_L_369 : Cond.methodLink RL 369 yL_outputAt ∈ lw_all := lw_inT 1471 (by decide +kernel) rfl
set_option maxRecDepth 100000 in
theorem gY_X5_outputAt : gYv yX5_outputAt cX5_outputAt 2 (some .char) 1 := ⟨⟨lw_inT 10 (by decide +kernel) rfl, lw_b10 (List.mem_of_getElem? (i := 43) rfl) rfl, by decide +kernel, by decide +kernel, by decide +kernel⟩, lw_inT 2201 (by decide +kernel) rfl, lw_inT 2202 (by decide +kernel) rfl⟩
theorem ml_L_371 : Cond.methodLink RL 371 yX5_outputAt ∈ lw_all := lw_inT 2200 (by decide +kernel) rfl
set_option maxRecDepth 100000 in
theorem gY_L_appendInput : gYsW yL_appendInput cL_appendInput 4 (some .int) [(0, 9, 12, 13), (0, 9, 15, 169)] 3 := ⟨⟨lw_inT 0 (by decide +kernel) rfl, lw_b7 (List.mem_of_getElem? (i := 50) rfl) rfl, by decide +kernel, by decide +kernel, by decide +kernel⟩, lw_inT 1489 (by decide +kernel) rfl⟩
theorem ml_L_372 : Cond.methodLink RL 372 yL_appendInput ∈ lw_all := lw_inT 1488 (by decide +kernel) rfl
set_option maxRecDepth 100000 in
theorem gY_X5_appendInput : gYv yX5_appendInput cX5_appendInput 2 (some .int) 1 := ⟨⟨lw_inT 10 (by decide +kernel) rfl, lw_b10 (List.mem_of_getElem? (i := 47) rfl) rfl, by decide +kernel, by decide +kernel, by decide +kernel⟩, lw_inT 2205 (by decide +kernel) rfl, lw_inT 2206 (by decide +kernel) rfl⟩
theorem ml_L_375 : Cond.methodLink RL 375 yX5_appendInput ∈ lw_all := lw_inT 2204 (by decide +kernel) rfl
set_option maxRecDepth 100000 in
theorem gY_L_execute : gYsW yL_execute cL_execute 3 (some .int) [(0, 8, 11, 13), (0, 8, 14, 169), (0, 8, 17, 15)] 2 := ⟨⟨lw_inT 0 (by decide +kernel) rfl, lw_b7 (List.mem_of_getElem? (i := 82) rfl) rfl, by decide +kernel, by decide +kernel, by decide +kernel⟩, lw_inT 1521 (by decide +kernel) rfl⟩
theorem ml_L_376 : Cond.methodLink RL 376 yL_execute ∈ lw_all := lw_inT 1520 (by decide +kernel) rfl
set_option maxRecDepth 100000 in
theorem gY_X5_execute : gYv yX5_execute cX5_execute 3 (some .int) 0 := ⟨⟨lw_inT 10 (by decide +kernel) rfl, lw_b10 (List.mem_of_getElem? (i := 51) rfl) rfl, by decide +kernel, by decide +kernel, by decide +kernel⟩, lw_inT 2209 (by decide +kernel) rfl, lw_inT 2210 (by decide +kernel) rfl⟩
theorem ml_L_379 : Cond.methodLink RL 379 yX5_execute ∈ lw_all := lw_inT 2208 (by decide +kernel) rfl
set_option maxRecDepth 100000 in
theorem gY_L_syntaxErrorOffset : gYsW yL_syntaxErrorOffset cL_syntaxErrorOffset 3 (some .int) [(0, 8, 11, 43)] 2 := ⟨⟨lw_inT 0 (by decide +kernel) rfl, lw_b7 (List.mem_of_getElem? (i := 176) rfl) rfl, by decide +kernel, by decide +kernel, by decide +kernel⟩, lw_inT 1615 (by decide +kernel) rfl⟩
theorem ml_L_380 : Cond.methodLink RL 380 yL_syntaxErrorOffset ∈ lw_all := lw_inT 1614 (by decide +kernel) rfl
set_option maxRecDepth 100000 in
theorem gY_X5_syntaxErrorOffset : gYv yX5_syntaxErrorOffset cX5_syntaxErrorOffset 1 (some .int) 0 := ⟨⟨lw_inT 10 (by decide +kernel) rfl, lw_b10 (List.mem_of_getElem? (i := 99) rfl) rfl, by decide +kernel, by decide +kernel, by decide +kernel⟩, lw_inT 2257 (by decide +kernel) rfl, lw_inT 2258 (by decide +kernel) rfl⟩
theorem ml_L_382 : Cond.methodLink RL 382 yX5_syntaxErrorOffset ∈ lw_all := lw_inT 2256 (by decide +kernel) rfl
set_option maxRecDepth 100000 in
theorem gY_L_rejectionReason : gYsW yL_rejectionReason cL_rejectionReason 3 (some .int) [(0, 8, 11, 43)] 2 := ⟨⟨lw_inT 0 (by decide +kernel) rfl, lw_b7 (List.mem_of_getElem? (i := 183) rfl) rfl, by decide +kernel, by decide +kernel, by decide +kernel⟩, lw_inT 1622 (by decide +kernel) rfl⟩
theorem ml_L_383 : Cond.methodLink RL 383 yL_rejectionReason ∈ lw_all := lw_inT 1621 (by decide +kernel) rfl
set_option maxRecDepth 100000 in
theorem gY_X5_rejectionReason : gYv yX5_rejectionReason cX5_rejectionReason 1 (some .int) 0 := ⟨⟨lw_inT 10 (by decide +kernel) rfl, lw_b10 (List.mem_of_getElem? (i := 107) rfl) rfl, by decide +kernel, by decide +kernel, by decide +kernel⟩, lw_inT 2265 (by decide +kernel) rfl, lw_inT 2266 (by decide +kernel) rfl⟩
theorem ml_L_385 : Cond.methodLink RL 385 yX5_rejectionReason ∈ lw_all := lw_inT 2264 (by decide +kernel) rfl
set_option maxRecDepth 100000 in
theorem gY_L_rejectionDetail : gYsW yL_rejectionDetail cL_rejectionDetail 3 (some .int) [(0, 8, 11, 43)] 2 := ⟨⟨lw_inT 0 (by decide +kernel) rfl, lw_b7 (List.mem_of_getElem? (i := 190) rfl) rfl, by decide +kernel, by decide +kernel, by decide +kernel⟩, lw_inT 1629 (by decide +kernel) rfl⟩
theorem ml_L_386 : Cond.methodLink RL 386 yL_rejectionDetail ∈ lw_all := lw_inT 1628 (by decide +kernel) rfl
set_option maxRecDepth 100000 in
theorem gY_X5_rejectionDetail : gYv yX5_rejectionDetail cX5_rejectionDetail 1 (some .int) 0 := ⟨⟨lw_inT 10 (by decide +kernel) rfl, lw_b10 (List.mem_of_getElem? (i := 111) rfl) rfl, by decide +kernel, by decide +kernel, by decide +kernel⟩, lw_inT 2269 (by decide +kernel) rfl, lw_inT 2270 (by decide +kernel) rfl⟩
theorem ml_L_388 : Cond.methodLink RL 388 yX5_rejectionDetail ∈ lw_all := lw_inT 2268 (by decide +kernel) rfl
set_option maxRecDepth 100000 in
theorem gY_L_causeReason : gYsW yL_causeReason cL_causeReason 3 (some .int) [(0, 8, 11, 43)] 2 := ⟨⟨lw_inT 0 (by decide +kernel) rfl, lw_b7 (List.mem_of_getElem? (i := 197) rfl) rfl, by decide +kernel, by decide +kernel, by decide +kernel⟩, lw_inT 1636 (by decide +kernel) rfl⟩
theorem ml_L_389 : Cond.methodLink RL 389 yL_causeReason ∈ lw_all := lw_inT 1635 (by decide +kernel) rfl
set_option maxRecDepth 100000 in
theorem gY_X5_causeReason : gYv yX5_causeReason cX5_causeReason 1 (some .int) 0 := ⟨⟨lw_inT 10 (by decide +kernel) rfl, lw_b10 (List.mem_of_getElem? (i := 115) rfl) rfl, by decide +kernel, by decide +kernel, by decide +kernel⟩, lw_inT 2273 (by decide +kernel) rfl, lw_inT 2274 (by decide +kernel) rfl⟩
theorem ml_L_391 : Cond.methodLink RL 391 yX5_causeReason ∈ lw_all := lw_inT 2272 (by decide +kernel) rfl
set_option maxRecDepth 100000 in
theorem gY_L_undo : gYsW yL_undo cL_undo 3 (some .int) [(0, 8, 11, 169)] 2 := ⟨⟨lw_inT 0 (by decide +kernel) rfl, lw_b7 (List.mem_of_getElem? (i := 204) rfl) rfl, by decide +kernel, by decide +kernel, by decide +kernel⟩, lw_inT 1643 (by decide +kernel) rfl⟩
theorem ml_L_392 : Cond.methodLink RL 392 yL_undo ∈ lw_all := lw_inT 1642 (by decide +kernel) rfl
set_option maxRecDepth 100000 in
theorem gY_X5_undo : gYv yX5_undo cX5_undo 1 (some .int) 0 := ⟨⟨lw_inT 10 (by decide +kernel) rfl, lw_b10 (List.mem_of_getElem? (i := 119) rfl) rfl, by decide +kernel, by decide +kernel, by decide +kernel⟩, lw_inT 2277 (by decide +kernel) rfl, lw_inT 2278 (by decide +kernel) rfl⟩
theorem ml_L_394 : Cond.methodLink RL 394 yX5_undo ∈ lw_all := lw_inT 2276 (by decide +kernel) rfl
set_option maxRecDepth 100000 in
theorem gY_X4_saveSnapshot : gYv yX4_saveSnapshot cX4_saveSnapshot 1 (some .int) 0 := ⟨⟨lw_inT 1 (by decide +kernel) rfl, lw_b2 (List.mem_of_getElem? (i := 156) rfl) rfl, by decide +kernel, by decide +kernel, by decide +kernel⟩, lw_inT 394 (by decide +kernel) rfl, lw_inT 395 (by decide +kernel) rfl⟩
theorem ml_L_395 : Cond.methodLink RL 395 yX4_saveSnapshot ∈ lw_all := lw_inT 393 (by decide +kernel) rfl
set_option maxRecDepth 100000 in
theorem gY_X5_saveSnapshot : gYv yX5_saveSnapshot cX5_saveSnapshot 1 (some .int) 0 := ⟨⟨lw_inT 10 (by decide +kernel) rfl, lw_b10 (List.mem_of_getElem? (i := 123) rfl) rfl, by decide +kernel, by decide +kernel, by decide +kernel⟩, lw_inT 2281 (by decide +kernel) rfl, lw_inT 2282 (by decide +kernel) rfl⟩
theorem ml_L_398 : Cond.methodLink RL 398 yX5_saveSnapshot ∈ lw_all := lw_inT 2280 (by decide +kernel) rfl
set_option maxRecDepth 100000 in
theorem gY_L_restoreSnapshot : gYsW yL_restoreSnapshot cL_restoreSnapshot 3 (some .int) [(0, 8, 11, 169)] 2 := ⟨⟨lw_inT 0 (by decide +kernel) rfl, lw_b7 (List.mem_of_getElem? (i := 215) rfl) rfl, by decide +kernel, by decide +kernel, by decide +kernel⟩, lw_inT 1654 (by decide +kernel) rfl⟩
theorem ml_L_399 : Cond.methodLink RL 399 yL_restoreSnapshot ∈ lw_all := lw_inT 1653 (by decide +kernel) rfl
set_option maxRecDepth 100000 in
theorem gY_X5_restoreSnapshot : gYv yX5_restoreSnapshot cX5_restoreSnapshot 1 (some .int) 0 := ⟨⟨lw_inT 10 (by decide +kernel) rfl, lw_b10 (List.mem_of_getElem? (i := 127) rfl) rfl, by decide +kernel, by decide +kernel, by decide +kernel⟩, lw_inT 2285 (by decide +kernel) rfl, lw_inT 2286 (by decide +kernel) rfl⟩
theorem ml_L_401 : Cond.methodLink RL 401 yX5_restoreSnapshot ∈ lw_all := lw_inT 2284 (by decide +kernel) rfl
theorem cl_L_8 : Cond.classLink RL 8 "SockEmbassy" ∈ lw_all := lw_inT 31 (by decide +kernel) rfl
theorem cl_L_13 : Cond.classLink RL 13 "java/lang/IllegalArgumentException" ∈ lw_all := lw_inT 414 (by decide +kernel) rfl
theorem cl_L_15 : Cond.classLink RL 15 "java/lang/UnsupportedOperationException" ∈ lw_all := lw_inT 415 (by decide +kernel) rfl
theorem cl_L_21 : Cond.classLink RL 21 "java/lang/IndexOutOfBoundsException" ∈ lw_all := lw_inT 636 (by decide +kernel) rfl
theorem cl_L_43 : Cond.classLink RL 43 "java/util/NoSuchElementException" ∈ lw_all := lw_inT 708 (by decide +kernel) rfl
theorem cl_L_153 : Cond.classLink RL 153 "java/lang/ArithmeticException" ∈ lw_all := lw_inT 1181 (by decide +kernel) rfl
theorem cl_L_169 : Cond.classLink RL 169 "java/lang/IllegalStateException" ∈ lw_all := lw_inT 1491 (by decide +kernel) rfl
theorem cl_L_194 : Cond.classLink RL 194 "SockEmbassyModel" ∈ lw_all := lw_inT 1664 (by decide +kernel) rfl
/-! ===== the law's wrappers: a call that may throw, caught ===== -/
theorem Met.ofH {l : Launch} {y : MethodName} {ws ws' : List Cond} {rm : Room} {Pc : Array Value → State → Prop} {Qc : Array Value → State → Outcome → State → Prop} {mc ms : Nat} {free : Addr → Prop} {cc : ByteArray} {maxL : Nat} {ret : Option FieldType} {hh : List (Nat × Nat × Nat × Nat)}
    (hy : plainName y.cls = true) (hw : ws = Cond.codeWith y cc maxL ret hh :: ws')
    (body : ∀ p e s m args below meth c s₁, BodyLoose p l y (headSpec ws rm) cc maxL ret e s m args below meth c s₁ → c.maxLocals = maxL → Pc args s →
      W p l e (headSpec ws rm).room s m args below meth c s.heap [] 0 0 (MQ below Qc args s mc ms free) (entryFrame m args maxL)) : Met l y ws rm Pc Qc mc ms free := by
  refine MetFree.of_bodyS (code := cc) (maxLocals := maxL) (ret := ret) hy ?_ ?_
  · intro args s m h hn
    obtain ⟨m9, meth, c, hn9, h1, h2, h3, h4, -, h5, h6, -⟩ := Cond.codeWith_spec (atoms_spec (ws := ws) h _ (by rw [hw]; exact List.mem_cons_self))
    cases hn.symm.trans hn9
    exact ⟨meth, c, h1, h2, h3, h4, h5, h6⟩
  · intro p e s m args below meth c s₁ B hml hP _
    have hh0 : s₁.heap = s.heap := by rw [B.state]; rfl
    obtain ⟨t, a1, o, b1, b2, b3⟩ := body p e s m args below meth c s₁ B hml hP s₁ hh0 (Stand.of_body B)
    exact ⟨t, o, a1, b1, b2, ⟨b3.1, b3.2⟩⟩
def FnW (l : Launch) (g : gE) (y : MethodName) (b : ByteArray) (n : Nat) (ret : Option FieldType) (hh : List (Nat × Nat × Nat × Nat)) (fr lo mc ms : Nat) (wc : va_W) (As : List Value) (post : Option Value → va_W → Prop) : Prop :=
  l.stackTraces = false → ∀ sz : Nat, Met l y (.codeWith y b n ret hh :: lw_all) ({ frames := fr, cells := mc, slots := ms, locals := lo } : Room) (va_Pc As (gPreX g wc sz)) (gEnd g wc sz post) mc ms (va_A wc sz)
theorem FnW.of {l : Launch} {g : gE} {y : MethodName} {b : ByteArray} {n : Nat} {ret : Option FieldType} {hh : List (Nat × Nat × Nat × Nat)} {fr lo mc ms : Nat} {wc : va_W} {As : List Value} {post : Option Value → va_W → Prop} (hy : plainName y.cls = true) (hlen : (lg_sl As).length ≤ n)
    (body : ∀ x : gX, gC x l b n y.cls g fr lo mc ms → gZ x g ret wc post mc ms → gNw (x_s x) → (x_c x).exceptionTable.toList = tableOf hh → l.stackTraces = false → G x g n 0 0 wc 0 (lv_args 0 As) []) : FnW l g y b n ret hh fr lo mc ms wc As post := by
  intro hst sz
  refine Met.ofH (cc := b) (maxL := n) (ret := ret) (hh := hh) hy rfl ?_
  intro p e s m args below meth c s₁ B hml hv
  obtain ⟨rfl, ⟨hsz, hP, hK, hD0, hKc⟩, hNw⟩ := hv
  subst hsz
  have hD := hD0.self (sz := s.heap.size)
  have hts := atoms_spec (ws := .codeWith y b n ret hh :: lw_all) B.pre
  have hT := vx_table (x := y) B (hts _ List.mem_cons_self)
  have hl := lv_entry As (n := n) hlen
  rw [lg_entry_eq]
  exact body (p, l, e, (headSpec (.codeWith y b n ret hh :: lw_all) ({ frames := fr, cells := mc, slots := ms, locals := lo } : Room)).room, s, m, As.toArray, below, meth, c, va_A wc s.heap.size, MQ below (gEnd g wc s.heap.size post) As.toArray s mc ms (va_A wc s.heap.size))
    ⟨B.exec, B.bytes, hml, findClass_of_methodNamed B.named, fun w hw => hts w (List.mem_cons_of_mem _ hw), hK, fun q hq => Or.inr hq, B.notSynchronized, rfl, rfl, hKc⟩ ⟨B.returns, rfl, rfl⟩ hNw hT hst s.heap [] _ hP hD va_S.rf hl
/-- an exception of the kind E stands over the frame -/
def GX (x : gX) (g : gE) (nL k n : Nat) (ws : va_W) (pc : Nat) (lv : List (Nat × Value)) (E : String) : Prop :=
  ∀ (H : Heap) (locs : List Loc) (ls : Array Slot) (q : Addr) (ce : Cell) (rest : List Value), va_P g.1 vwCl ws H → va_D (x_A x) ws → va_S (x_A x) (x_s x).heap H locs → lv_has ls nL lv → H[q]? = some ce → ce.vm = .none → (x_s x).vm.findClass E = some ce.cls →
    vx_W (x_p x) (x_l x) (x_e x) (x_R x) (x_s x) (x_m x) (x_args x) (x_below x) (x_meth x) (x_c x) H locs k n (x_Q x) (F0 (x_m x) pc ls rest) q
section GLAW
variable {x : gX} {l : Launch} {cc : ByteArray} {nL : Nat} {own : String} {g : gE} {fr lo mc ms k n pc : Nat} {ws : va_W} {lv : List (Nat × Value)} {st : List Value}
theorem g_catch (hC : gC x l cc nL own g fr lo mc ms) (hNw : gNw (x_s x)) {E : String} (hE : Cond.castable E E ∈ gNwL) (pre : List ExceptionTableEntry) (r : ExceptionTableEntry) (suf : List ExceptionTableEntry) (hsplit : (x_c x).exceptionTable.toList = pre ++ r :: suf)
    (hpass : ∀ z ∈ pre, covers z pc = false ∨ (z.catchType ≠ 0 ∧ ∃ nm : String, Cond.classLink own z.catchType nm ∈ lw_all ∧ va_Nc E nm (x_s x))) (hx : covers r pc = true) (h0 : r.catchType ≠ 0) (hlink : Cond.classLink own r.catchType E ∈ lw_all)
    (kk : ∀ q : Nat, G x g nL k n ws r.handlerPc lv [.ref q]) : GX x g nL k n ws pc lv E := by
  intro H locs ls q ce rest hP hD hS h hce hcv hcl
  refine vx_catch hC.2.2.2.1 pre r suf hsplit (fun z hz => ?_) hx h0 (hC.2.2.2.2.1 _ hlink) (hNw.use _ _ hE) hce hcv hcl (kk q H locs ls hP hD hS h)
  rcases hpass z hz with h1 | ⟨h1, nm, h2, h3⟩
  · exact Or.inl h1
  · exact Or.inr ⟨h1, nm, hC.2.2.2.2.1 _ h2, h3⟩
theorem g_nc (hC : gC x l cc nL own g fr lo mc ms) (i j : Nat) {C D : String} (hij : i ≠ j) (h1 : gEx[i]? = some C) (h2 : gEx[j]? = some D) : va_Nc C D (x_s x) := hC.2.2.2.2.2.2.2.2.2.2.2.2 i j C D hij h1 h2
theorem g_callVC (hC : gC x l cc nL own g fr lo mc ms) (hNw : gNw (x_s x)) (hst9 : l.stackTraces = false)
    {y : MethodName} {b : ByteArray} {nM fr' lo' mc' ms' np : Nat} {ret : Option FieldType} {wc : va_W} {As As' : List Value} {post : Option Value → va_W → Prop} {px : String → va_W → Prop} (hF : FnX l g y b nM ret fr' lo' mc' ms' wc As' post px) (hY : gYv y b nM ret np) {idx : Nat} (hd : decode cc pc = .ok (.invokevirtual idx, 3)) (pc2 : Nat) (e : pc + 3 = pc2) (hl : Cond.methodLink own idx y ∈ lw_all)
    (pre suf : va_W) (hw : ws = pre ++ (wc ++ suf)) {a : Nat} (rest : List Value) (hAs : As' = .ref a :: As) (hst : st = As.reverse ++ .ref a :: rest) (hn : As.length = np) (q0 ci : Nat) {fs : List Value} {T : u_T} {N : Nat} (hci : vwCl[ci]? = some (y.cls, T, N)) (hq0 : wc[q0]? = some (a, .inr (ci, fs)))
    (hR : fr' + 1 ≤ fr ∧ 8 + (nM + 11) + lo' ≤ lo) (hcat : (rest.map fun v => v.category).sum ≤ 8) (hkn : k + mc' ≤ mc ∧ n + ms' ≤ ms)
    (kx : ∀ (E : String) (w1 : va_W), px E w1 → GX x g nL (k + mc') (n + ms') (pre ++ (w1 ++ suf)) pc lv E)
    (kk : ∀ (r : Option Value) (w1 : va_W), post r w1 → G x g nL (k + mc') (n + ms') (pre ++ (w1 ++ suf)) pc2 lv (r.toList ++ rest)) : G x g nL k n ws pc lv st := by
  subst hw; subst hAs; subst hst; subst e
  intro H locs ls hP hD hS h
  obtain ⟨⟨y1, y2, y3⟩, y4, y5⟩ := hY
  have hM := hF hst9 H.size
  rw [← hC.2.2.2.2.2.2.2.2.1] at hM
  have hT : GoodIn lw_all (wsV own idx y.cls y (.code y b nM ret :: lw_all)) := fun w hw => lw_goodAll w (by
    rcases List.mem_append.mp hw with h1 | h1
    · simp only [List.mem_cons, List.not_mem_nil, or_false] at h1
      rcases h1 with rfl | rfl | rfl | rfl
      · exact hl
      · exact y4
      · exact y5
      · exact y1
    · rcases List.mem_cons.mp h1 with rfl | h1
      · exact y2
      · exact h1)
  have hr : vx_Run (x_p x) (x_l x) (x_e x) (x_R x) (x_s x) (x_m x) (x_args x) (x_below x) (x_meth x) (x_c x) H locs k n mc' ms' (F0 (x_m x) pc ls (As.reverse ++ .ref a :: rest)) rest (gEnd g wc H.size post (Value.ref a :: As).toArray) (gXC g wc H.size px) (va_A wc H.size) := vx_runV (As := As) (rest := rest) ⟨hC.1, hC.2.1, hC.2.2.1, hC.2.2.2.1, hC.2.2.2.2.1⟩ hM (cwV np hC.2.2.2.2.1 hT rfl rfl rfl ⟨rfl, y3⟩ (gRoom2 hC hR))
    ⟨gBlindX, va_recv hC.2.2.2.2.2.1 (gSub hP) hci hq0, fun U hU hW => ⟨rfl, gYes hC hP hD hS hU hW, hNw.warm hW⟩⟩ (g := F0 (x_m x) pc ls (As.reverse ++ .ref a :: rest)) rfl hn h.1 rfl (lv_room hcat) hd (gRoom hC hkn)
  intro T hT2 X
  rcases hr T hT2 X with ⟨v, st₀, t, T', L, h0, X', hL, e1, e2, ⟨r, w1, hv, hp, hP1, hD1, hz, hk⟩, stp⟩ | ⟨q, st₀, t, T', L, E, ce, h0, X', hL, e1, e2, ⟨w1, hp, hP1, hD1, hz, hk⟩, hce, hcv, hcl, stp⟩
  · cases hv
    rw [h0] at hz hk
    have hFr := gFree hD hS hC.2.2.2.2.2.2.1
    have hk' : ∀ q : Nat, q < H.size → ¬ va_A wc H.size q → t.heap[q]? = H[q]? := hk
    obtain ⟨hP2, hD2⟩ := gJoin hP hD hk' hFr hP1 hD1
    rw [← e1] at hP2
    have hS2 : va_S (x_A x) (x_s x).heap T'.heap (locs ++ L) := ⟨Nat.le_trans hS.1 (by rw [e1]; exact hz), fun q h1 h2 => by rw [e1, hk' q (Nat.lt_of_lt_of_le h1 hS.1) (fun z => h2 (hFr q z))]; exact hS.2.1 q h1 h2, fun q hq => by
        rcases List.mem_append.mp hq with h | h
        · exact hS.2.2 q h
        · exact hFr _ (hL q h)⟩
    obtain ⟨t2, a1, b1⟩ := kk v w1 hp T'.heap (locs ++ L) ls hP2 hD2 hS2 h T' rfl X'
    exact ⟨t2, stp t2 a1, b1⟩
  · rw [h0] at hz hk
    have hFr := gFree hD hS hC.2.2.2.2.2.2.1
    have hk' : ∀ q : Nat, q < H.size → ¬ va_A wc H.size q → t.heap[q]? = H[q]? := hk
    obtain ⟨hP2, hD2⟩ := gJoin hP hD hk' hFr hP1 hD1
    rw [← e1] at hP2
    have hS2 : va_S (x_A x) (x_s x).heap T'.heap (locs ++ L) := ⟨Nat.le_trans hS.1 (by rw [e1]; exact hz), fun q h1 h2 => by rw [e1, hk' q (Nat.lt_of_lt_of_le h1 hS.1) (fun z => h2 (hFr q z))]; exact hS.2.1 q h1 h2, fun q hq => by
        rcases List.mem_append.mp hq with h | h
        · exact hS.2.2 q h
        · exact hFr _ (hL q h)⟩
    obtain ⟨t2, a1, b1⟩ := kx E w1 hp T'.heap (locs ++ L) ls q ce rest hP2 hD2 hS2 h (by rw [e1]; exact hce) hcv hcl T' rfl X'
    exact ⟨t2, stp.trans a1, b1⟩
theorem g_dast (hC : gC x l cc nL own g fr lo mc ms) {a N : Nat} {f : Nat → UInt64} {i : Int32} {v : UInt64} {ws2 : va_W} (hd : decode cc pc = .ok (.dastore, 1)) (pc2 : Nat) (e : pc + 1 = pc2) (q0 : Nat) (ha : ws[q0]? = some (a, .inl (g.2.1 5, N, .inr (.inr (.inr (.inl f)))))) (hin : vp_in i N) (hw : ws.set q0 (a, .inl (g.2.1 5, N, .inr (.inr (.inr (.inl (vf_upd f i.toNatClampNeg v)))))) = ws2) (kk : G x g nL k n ws2 pc2 lv st) : G x g nL k n ws pc lv (.double v :: .int i :: .ref a :: st) := by
  subst e; subst hw
  intro H locs ls hP hD hS h
  exact va_dast hC.1 hC.2.1 hC.2.2.2.2.2.1 hP hD hS q0 5 ha rfl hin hd (fun H1 locs1 hP1 hD1 hS1 => kk H1 locs1 ls hP1 hD1 hS1 h)
/-- a static call of a wrapper -/
theorem g_callW (hC : gC x l cc nL own g fr lo mc ms) (hNw : gNw (x_s x)) (hst9 : l.stackTraces = false)
    {y : MethodName} {b : ByteArray} {nM fr' lo' mc' ms' np : Nat} {ret : Option FieldType} {hh : List (Nat × Nat × Nat × Nat)} {wc : va_W} {As : List Value} {post : Option Value → va_W → Prop} (hF : FnW l g y b nM ret hh fr' lo' mc' ms' wc As post) (hY : gYsW y b nM ret hh np) {idx : Nat} (hd : decode cc pc = .ok (.invokestatic idx, 3)) (pc2 : Nat) (e : pc + 3 = pc2) (hl : Cond.methodLink own idx y ∈ lw_all)
    (pre suf : va_W) (hw : ws = pre ++ (wc ++ suf)) (rest : List Value) (hst : st = As.reverse ++ rest) (hn : As.length = np)
    (hR : fr' + 1 ≤ fr ∧ 8 + (nM + 11) + lo' ≤ lo) (hcat : (rest.map fun v => v.category).sum ≤ 8) (hkn : k + mc' ≤ mc ∧ n + ms' ≤ ms)
    (kk : ∀ (r : Option Value) (w1 : va_W), post r w1 → G x g nL (k + mc') (n + ms') (pre ++ (w1 ++ suf)) pc2 lv (r.toList ++ rest)) : G x g nL k n ws pc lv st := by
  subst hw; subst hst
  intro H locs ls hP hD hS h
  obtain ⟨⟨y1, y2, y3⟩, y4⟩ := hY
  have hM := hF hst9 H.size
  rw [← hC.2.2.2.2.2.2.2.2.1] at hM
  have hT : GoodIn lw_all (va_wsS own idx y (.codeWith y b nM ret hh :: lw_all)) := fun w hw => lw_goodAll w (by
    rcases List.mem_append.mp hw with h1 | h1
    · simp only [List.mem_cons, List.not_mem_nil, or_false] at h1
      rcases h1 with rfl | rfl | rfl
      · exact hl
      · exact y4
      · exact y1
    · rcases List.mem_cons.mp h1 with rfl | h1
      · exact y2
      · exact h1)
  exact gBack hC hP hD hS h e (vx_runSW (As := As) (rest := rest) ⟨hC.1, hC.2.1, hC.2.2.1, hC.2.2.2.1, hC.2.2.2.2.1⟩ hM (vx_cwSW np hC.2.2.2.2.1 hT rfl rfl rfl y3 (gRoom2 hC hR))
    ⟨gBlindX, fun U hU hW => ⟨rfl, gYes hC hP hD hS hU hW, hNw.warm hW⟩⟩ rfl hn h.1 rfl (lv_room hcat) hd (gRoom hC hkn)) kk
end GLAW
/-- the worlds of the wrappers: what was answered, and the embassy -/
def outW (g : gE) (A : Nat → Nat → Nat) (u : Nat) (E : Off) (z : Nat → Int64) : va_W := (u, .inl (g.2.1 4, 1, .inr (.inl z))) :: embW g A E
def dutW (g : gE) (A : Nat → Nat → Nat) (v u : Nat) (z : Nat → Int64) (E : Off) (zd : Nat → UInt64) : va_W := (v, .inl (g.2.1 5, 1, .inr (.inr (.inr (.inl zd))))) :: outW g A u E z
def pO {Z : Type} (W : Off → Z → va_W) (post : Int32 → Off → Z → Prop) : Option Value → va_W → Prop := fun r w => ∃ (v : Int32) (E : Off) (z : Z), r = some (.int v) ∧ w = W E z ∧ post v E z
def ww_addSock (post : Int32 → Off → (Nat → Int64) → Prop) (E : Off) (z : Nat → Int64) (p0 : Int32) (p1 : Int32) : Prop := wp_X4_addSock (fun (v1 : Int32) E1 => post 0 E1 (vp_updL z (0 : Int32).toNatClampNeg v1.toInt64)) (fun i E1 => (i = 1 ∧ post 1 E1 z) ∨ (i = 4 ∧ post 2 E1 z)) E p0 p1
set_option maxRecDepth 100000 in
set_option maxHeartbeats 4000000 in
theorem cw_addSock (l : Launch) (g : gE) (A : Nat → Nat → Nat) (u : Nat) (E : Off) (z : Nat → Int64) (p0 : Int32) (p1 : Int32) (post : Int32 → Off → (Nat → Int64) → Prop) (h : ww_addSock post E z p0 p1) : FnW l g yL_addSock cL_addSock 5 (some .int) [(0, 10, 13, 13), (0, 10, 17, 15)] 9 385 4 24 (outW g A u E z) [.ref (A 0 0), .int p0, .int p1, .ref u] (pO (outW g A u) post) := by
  refine FnW.of (by decide) (Nat.le_of_ble_eq_true rfl) (fun x hC hZ hNw hT hst => ?_)
  unfold ww_addSock at h
  show G x g 5 0 0 (outW g A u E z) 0 [(0, .ref (A 0 0)), (1, .int p0), (2, .int p1), (3, .ref u)] []
  refine g_aload_n hC dL_addSock_0 1 rfl rfl 3 rfl ?_
  refine g_iconst hC (0 : Int32) dL_addSock_1 2 rfl iconst_0 ?_
  refine g_aload_n hC dL_addSock_2 3 rfl rfl 0 rfl ?_
  refine g_iload_n hC dL_addSock_3 4 rfl rfl 1 rfl ?_
  refine g_iload_n hC dL_addSock_4 5 rfl rfl 2 rfl ?_
  refine g_callVC hC hNw hst (ct_X4_addSock l g A E p0 p1 _ _ h) gY_X4_addSock dL_addSock_5 8 rfl ml_L_7 [(u, .inl (g.2.1 4, 1, .inr (.inl z)))] [] (by rw [List.append_nil]; rfl) [.int (0 : Int32), .ref u] rfl rfl rfl 0 8 rfl rfl ⟨Nat.le_of_ble_eq_true rfl, Nat.le_of_ble_eq_true rfl⟩ (Nat.le_of_ble_eq_true rfl) ⟨Nat.le_of_ble_eq_true rfl, Nat.le_of_ble_eq_true rfl⟩ ?_ ?_
  · rintro E9 w9 ⟨i9, o9, hi9, rfl, h⟩
    rcases h with ⟨rfl, h⟩ | ⟨rfl, h⟩
    · obtain rfl := Option.some.inj (show some "java/lang/IllegalArgumentException" = some E9 from hi9)
      refine g_catch hC hNw (by simp [gNwL]) [] ⟨0, 10, 13, 13⟩ [⟨0, 10, 17, 15⟩] hT (fun z9 hz9 => nomatch hz9) (by decide) (by decide) cl_L_13 (fun q9 => ?_)
      refine g_ws (ws2 := (outW g A u o9 z)) (by rw [List.append_nil]; rfl) ?_
      refine g_widen (k2 := 4) (n2 := 24) (Nat.le_of_ble_eq_true rfl) (Nat.le_of_ble_eq_true rfl) ?_
      show G x g 5 4 24 (outW g A u o9 z) 13 [(0, .ref (A 0 0)), (1, .int p0), (2, .int p1), (3, .ref u)] [.ref q9]
      refine g_astore (lv2 := [(4, .ref q9), (0, .ref (A 0 0)), (1, .int p0), (2, .int p1), (3, .ref u)]) hC dL_addSock_13 15 rfl (by decide) rfl ?_
      refine g_iconst hC (1 : Int32) dL_addSock_15 16 rfl iconst_1 ?_
      exact g_iret hC hZ dL_addSock_16 ⟨_, _, _, rfl, rfl, h⟩
    · obtain rfl := Option.some.inj (show some "java/lang/UnsupportedOperationException" = some E9 from hi9)
      refine g_catch hC hNw (by simp [gNwL]) [⟨0, 10, 13, 13⟩] ⟨0, 10, 17, 15⟩ [] hT (fun z9 hz9 => by rcases List.mem_singleton.mp hz9 with rfl; exact Or.inr ⟨by decide, _, cl_L_13, g_nc hC 4 1 (by decide) rfl rfl⟩) (by decide) (by decide) cl_L_15 (fun q9 => ?_)
      refine g_ws (ws2 := (outW g A u o9 z)) (by rw [List.append_nil]; rfl) ?_
      refine g_widen (k2 := 4) (n2 := 24) (Nat.le_of_ble_eq_true rfl) (Nat.le_of_ble_eq_true rfl) ?_
      show G x g 5 4 24 (outW g A u o9 z) 17 [(0, .ref (A 0 0)), (1, .int p0), (2, .int p1), (3, .ref u)] [.ref q9]
      refine g_astore (lv2 := [(4, .ref q9), (0, .ref (A 0 0)), (1, .int p0), (2, .int p1), (3, .ref u)]) hC dL_addSock_17 19 rfl (by decide) rfl ?_
      refine g_iconst hC (2 : Int32) dL_addSock_19 20 rfl iconst_2 ?_
      exact g_iret hC hZ dL_addSock_20 ⟨_, _, _, rfl, rfl, h⟩
  · rintro r w1 ⟨v1, o1, rfl, rfl, h⟩
    refine g_ws (ws2 := (outW g A u o1 z)) (by rw [List.append_nil]; rfl) ?_
    refine g_widen (k2 := 4) (n2 := 24) (Nat.le_of_ble_eq_true rfl) (Nat.le_of_ble_eq_true rfl) ?_
    show G x g 5 4 24 (outW g A u o1 z) 8 [(0, .ref (A 0 0)), (1, .int p0), (2, .int p1), (3, .ref u)] [.int v1, .int (0 : Int32), .ref u]
    refine g_i2l hC dL_addSock_8 9 rfl ?_
    refine g_last (ws2 := (outW g A u o1 (vp_updL z (0 : Int32).toNatClampNeg v1.toInt64))) hC dL_addSock_9 10 rfl 0 rfl (vp_in_d (by decide)) rfl ?_
    refine g_goto hC dL_addSock_10 21 (by decide) ?_
    refine g_iconst hC (0 : Int32) dL_addSock_21 22 rfl iconst_0 ?_
    exact g_iret hC hZ dL_addSock_22 ⟨_, _, _, rfl, rfl, h⟩
def ww_colourOf (post : Int32 → Off → (Nat → Int64) → Prop) (E : Off) (z : Nat → Int64) (p0 : Int32) : Prop := wp_X4_colourOf (fun (v1 : Int32) E1 => post 0 E1 (vp_updL z (0 : Int32).toNatClampNeg v1.toInt64)) (fun i E1 => (i = 3 ∧ post 1 E1 z)) E p0
set_option maxRecDepth 100000 in
set_option maxHeartbeats 4000000 in
theorem cw_colourOf (l : Launch) (g : gE) (A : Nat → Nat → Nat) (u : Nat) (E : Off) (z : Nat → Int64) (p0 : Int32) (post : Int32 → Off → (Nat → Int64) → Prop) (h : ww_colourOf post E z p0) : FnW l g yL_colourOf cL_colourOf 4 (some .int) [(0, 9, 12, 21)] 9 153 1 6 (outW g A u E z) [.ref (A 0 0), .int p0, .ref u] (pO (outW g A u) post) := by
  refine FnW.of (by decide) (Nat.le_of_ble_eq_true rfl) (fun x hC hZ hNw hT hst => ?_)
  unfold ww_colourOf at h
  show G x g 4 0 0 (outW g A u E z) 0 [(0, .ref (A 0 0)), (1, .int p0), (2, .ref u)] []
  refine g_aload_n hC dL_colourOf_0 1 rfl rfl 2 rfl ?_
  refine g_iconst hC (0 : Int32) dL_colourOf_1 2 rfl iconst_0 ?_
  refine g_aload_n hC dL_colourOf_2 3 rfl rfl 0 rfl ?_
  refine g_iload_n hC dL_colourOf_3 4 rfl rfl 1 rfl ?_
  refine g_callVC hC hNw hst (ct_X4_colourOf l g A E p0 _ _ h) gY_X4_colourOf dL_colourOf_4 7 rfl ml_L_17 [(u, .inl (g.2.1 4, 1, .inr (.inl z)))] [] (by rw [List.append_nil]; rfl) [.int (0 : Int32), .ref u] rfl rfl rfl 0 8 rfl rfl ⟨Nat.le_of_ble_eq_true rfl, Nat.le_of_ble_eq_true rfl⟩ (Nat.le_of_ble_eq_true rfl) ⟨Nat.le_of_ble_eq_true rfl, Nat.le_of_ble_eq_true rfl⟩ ?_ ?_
  · rintro E9 w9 ⟨i9, o9, hi9, rfl, h⟩
    obtain ⟨rfl, h⟩ := h
    obtain rfl := Option.some.inj (show some "java/lang/IndexOutOfBoundsException" = some E9 from hi9)
    refine g_catch hC hNw (by simp [gNwL]) [] ⟨0, 9, 12, 21⟩ [] hT (fun z9 hz9 => nomatch hz9) (by decide) (by decide) cl_L_21 (fun q9 => ?_)
    refine g_ws (ws2 := (outW g A u o9 z)) (by rw [List.append_nil]; rfl) ?_
    refine g_widen (k2 := 1) (n2 := 6) (Nat.le_of_ble_eq_true rfl) (Nat.le_of_ble_eq_true rfl) ?_
    show G x g 4 1 6 (outW g A u o9 z) 12 [(0, .ref (A 0 0)), (1, .int p0), (2, .ref u)] [.ref q9]
    refine g_astore_n (lv2 := [(3, .ref q9), (0, .ref (A 0 0)), (1, .int p0), (2, .ref u)]) hC dL_colourOf_12 13 rfl rfl (by decide) rfl ?_
    refine g_iconst hC (1 : Int32) dL_colourOf_13 14 rfl iconst_1 ?_
    exact g_iret hC hZ dL_colourOf_14 ⟨_, _, _, rfl, rfl, h⟩
  · rintro r w1 ⟨v1, o1, rfl, rfl, h⟩
    refine g_ws (ws2 := (outW g A u o1 z)) (by rw [List.append_nil]; rfl) ?_
    refine g_widen (k2 := 1) (n2 := 6) (Nat.le_of_ble_eq_true rfl) (Nat.le_of_ble_eq_true rfl) ?_
    show G x g 4 1 6 (outW g A u o1 z) 7 [(0, .ref (A 0 0)), (1, .int p0), (2, .ref u)] [.int v1, .int (0 : Int32), .ref u]
    refine g_i2l hC dL_colourOf_7 8 rfl ?_
    refine g_last (ws2 := (outW g A u o1 (vp_updL z (0 : Int32).toNatClampNeg v1.toInt64))) hC dL_colourOf_8 9 rfl 0 rfl (vp_in_d (by decide)) rfl ?_
    refine g_goto hC dL_colourOf_9 15 (by decide) ?_
    refine g_iconst hC (0 : Int32) dL_colourOf_15 16 rfl iconst_0 ?_
    exact g_iret hC hZ dL_colourOf_16 ⟨_, _, _, rfl, rfl, h⟩
def ww_sizeOf (post : Int32 → Off → (Nat → Int64) → Prop) (E : Off) (z : Nat → Int64) (p0 : Int32) : Prop := wp_X4_sizeOf (fun (v1 : Int32) E1 => post 0 E1 (vp_updL z (0 : Int32).toNatClampNeg v1.toInt64)) (fun i E1 => (i = 3 ∧ post 1 E1 z)) E p0
set_option maxRecDepth 100000 in
set_option maxHeartbeats 4000000 in
theorem cw_sizeOf (l : Launch) (g : gE) (A : Nat → Nat → Nat) (u : Nat) (E : Off) (z : Nat → Int64) (p0 : Int32) (post : Int32 → Off → (Nat → Int64) → Prop) (h : ww_sizeOf post E z p0) : FnW l g yL_sizeOf cL_sizeOf 4 (some .int) [(0, 9, 12, 21)] 9 153 1 6 (outW g A u E z) [.ref (A 0 0), .int p0, .ref u] (pO (outW g A u) post) := by
  refine FnW.of (by decide) (Nat.le_of_ble_eq_true rfl) (fun x hC hZ hNw hT hst => ?_)
  unfold ww_sizeOf at h
  show G x g 4 0 0 (outW g A u E z) 0 [(0, .ref (A 0 0)), (1, .int p0), (2, .ref u)] []
  refine g_aload_n hC dL_sizeOf_0 1 rfl rfl 2 rfl ?_
  refine g_iconst hC (0 : Int32) dL_sizeOf_1 2 rfl iconst_0 ?_
  refine g_aload_n hC dL_sizeOf_2 3 rfl rfl 0 rfl ?_
  refine g_iload_n hC dL_sizeOf_3 4 rfl rfl 1 rfl ?_
  refine g_callVC hC hNw hst (ct_X4_sizeOf l g A E p0 _ _ h) gY_X4_sizeOf dL_sizeOf_4 7 rfl ml_L_23 [(u, .inl (g.2.1 4, 1, .inr (.inl z)))] [] (by rw [List.append_nil]; rfl) [.int (0 : Int32), .ref u] rfl rfl rfl 0 8 rfl rfl ⟨Nat.le_of_ble_eq_true rfl, Nat.le_of_ble_eq_true rfl⟩ (Nat.le_of_ble_eq_true rfl) ⟨Nat.le_of_ble_eq_true rfl, Nat.le_of_ble_eq_true rfl⟩ ?_ ?_
  · rintro E9 w9 ⟨i9, o9, hi9, rfl, h⟩
    obtain ⟨rfl, h⟩ := h
    obtain rfl := Option.some.inj (show some "java/lang/IndexOutOfBoundsException" = some E9 from hi9)
    refine g_catch hC hNw (by simp [gNwL]) [] ⟨0, 9, 12, 21⟩ [] hT (fun z9 hz9 => nomatch hz9) (by decide) (by decide) cl_L_21 (fun q9 => ?_)
    refine g_ws (ws2 := (outW g A u o9 z)) (by rw [List.append_nil]; rfl) ?_
    refine g_widen (k2 := 1) (n2 := 6) (Nat.le_of_ble_eq_true rfl) (Nat.le_of_ble_eq_true rfl) ?_
    show G x g 4 1 6 (outW g A u o9 z) 12 [(0, .ref (A 0 0)), (1, .int p0), (2, .ref u)] [.ref q9]
    refine g_astore_n (lv2 := [(3, .ref q9), (0, .ref (A 0 0)), (1, .int p0), (2, .ref u)]) hC dL_sizeOf_12 13 rfl rfl (by decide) rfl ?_
    refine g_iconst hC (1 : Int32) dL_sizeOf_13 14 rfl iconst_1 ?_
    exact g_iret hC hZ dL_sizeOf_14 ⟨_, _, _, rfl, rfl, h⟩
  · rintro r w1 ⟨v1, o1, rfl, rfl, h⟩
    refine g_ws (ws2 := (outW g A u o1 z)) (by rw [List.append_nil]; rfl) ?_
    refine g_widen (k2 := 1) (n2 := 6) (Nat.le_of_ble_eq_true rfl) (Nat.le_of_ble_eq_true rfl) ?_
    show G x g 4 1 6 (outW g A u o1 z) 7 [(0, .ref (A 0 0)), (1, .int p0), (2, .ref u)] [.int v1, .int (0 : Int32), .ref u]
    refine g_i2l hC dL_sizeOf_7 8 rfl ?_
    refine g_last (ws2 := (outW g A u o1 (vp_updL z (0 : Int32).toNatClampNeg v1.toInt64))) hC dL_sizeOf_8 9 rfl 0 rfl (vp_in_d (by decide)) rfl ?_
    refine g_goto hC dL_sizeOf_9 15 (by decide) ?_
    refine g_iconst hC (0 : Int32) dL_sizeOf_15 16 rfl iconst_0 ?_
    exact g_iret hC hZ dL_sizeOf_16 ⟨_, _, _, rfl, rfl, h⟩
def ww_isAway (post : Int32 → Off → (Nat → Int64) → Prop) (E : Off) (z : Nat → Int64) (p0 : Int32) : Prop := wp_X4_isAway (fun (v1 : Int32) E1 => ((v1 = 0 → post 0 E1 (vp_updL z (0 : Int32).toNatClampNeg 0)) ∧ (¬ v1 = 0 → post 0 E1 (vp_updL z (0 : Int32).toNatClampNeg 1)))) (fun i E1 => (i = 3 ∧ post 1 E1 z)) E p0
set_option maxRecDepth 100000 in
set_option maxHeartbeats 4000000 in
theorem cw_isAway (l : Launch) (g : gE) (A : Nat → Nat → Nat) (u : Nat) (E : Off) (z : Nat → Int64) (p0 : Int32) (post : Int32 → Off → (Nat → Int64) → Prop) (h : ww_isAway post E z p0) : FnW l g yL_isAway cL_isAway 4 (some .int) [(0, 16, 19, 21)] 9 153 1 6 (outW g A u E z) [.ref (A 0 0), .int p0, .ref u] (pO (outW g A u) post) := by
  refine FnW.of (by decide) (Nat.le_of_ble_eq_true rfl) (fun x hC hZ hNw hT hst => ?_)
  unfold ww_isAway at h
  show G x g 4 0 0 (outW g A u E z) 0 [(0, .ref (A 0 0)), (1, .int p0), (2, .ref u)] []
  refine g_aload_n hC dL_isAway_0 1 rfl rfl 2 rfl ?_
  refine g_iconst hC (0 : Int32) dL_isAway_1 2 rfl iconst_0 ?_
  refine g_aload_n hC dL_isAway_2 3 rfl rfl 0 rfl ?_
  refine g_iload_n hC dL_isAway_3 4 rfl rfl 1 rfl ?_
  refine g_callVC hC hNw hst (ct_X4_isAway l g A E p0 _ _ h) gY_X4_isAway dL_isAway_4 7 rfl ml_L_27 [(u, .inl (g.2.1 4, 1, .inr (.inl z)))] [] (by rw [List.append_nil]; rfl) [.int (0 : Int32), .ref u] rfl rfl rfl 0 8 rfl rfl ⟨Nat.le_of_ble_eq_true rfl, Nat.le_of_ble_eq_true rfl⟩ (Nat.le_of_ble_eq_true rfl) ⟨Nat.le_of_ble_eq_true rfl, Nat.le_of_ble_eq_true rfl⟩ ?_ ?_
  · rintro E9 w9 ⟨i9, o9, hi9, rfl, h⟩
    obtain ⟨rfl, h⟩ := h
    obtain rfl := Option.some.inj (show some "java/lang/IndexOutOfBoundsException" = some E9 from hi9)
    refine g_catch hC hNw (by simp [gNwL]) [] ⟨0, 16, 19, 21⟩ [] hT (fun z9 hz9 => nomatch hz9) (by decide) (by decide) cl_L_21 (fun q9 => ?_)
    refine g_ws (ws2 := (outW g A u o9 z)) (by rw [List.append_nil]; rfl) ?_
    refine g_widen (k2 := 1) (n2 := 6) (Nat.le_of_ble_eq_true rfl) (Nat.le_of_ble_eq_true rfl) ?_
    show G x g 4 1 6 (outW g A u o9 z) 19 [(0, .ref (A 0 0)), (1, .int p0), (2, .ref u)] [.ref q9]
    refine g_astore_n (lv2 := [(3, .ref q9), (0, .ref (A 0 0)), (1, .int p0), (2, .ref u)]) hC dL_isAway_19 20 rfl rfl (by decide) rfl ?_
    refine g_iconst hC (1 : Int32) dL_isAway_20 21 rfl iconst_1 ?_
    exact g_iret hC hZ dL_isAway_21 ⟨_, _, _, rfl, rfl, h⟩
  · rintro r w1 ⟨v1, o1, rfl, rfl, h⟩
    refine g_ws (ws2 := (outW g A u o1 z)) (by rw [List.append_nil]; rfl) ?_
    refine g_widen (k2 := 1) (n2 := 6) (Nat.le_of_ble_eq_true rfl) (Nat.le_of_ble_eq_true rfl) ?_
    show G x g 4 1 6 (outW g A u o1 z) 7 [(0, .ref (A 0 0)), (1, .int p0), (2, .ref u)] [.int v1, .int (0 : Int32), .ref u]
    refine g_if_eq hC dL_isAway_7 14 (by decide) 10 rfl (fun c => ?_) (fun c => ?_)
    · have h := h.1 c
      refine g_lconst hC (0 : Int64) dL_isAway_14 15 rfl rfl ?_
      refine g_last (ws2 := (outW g A u o1 (vp_updL z (0 : Int32).toNatClampNeg (0 : Int64)))) hC dL_isAway_15 16 rfl 0 rfl (vp_in_d (by decide)) rfl ?_
      refine g_goto hC dL_isAway_16 22 (by decide) ?_
      refine g_iconst hC (0 : Int32) dL_isAway_22 23 rfl iconst_0 ?_
      exact g_iret hC hZ dL_isAway_23 ⟨_, _, _, rfl, rfl, h⟩
    · have h := h.2 c
      refine g_lconst hC (1 : Int64) dL_isAway_10 11 rfl rfl ?_
      refine g_goto hC dL_isAway_11 15 (by decide) ?_
      refine g_last (ws2 := (outW g A u o1 (vp_updL z (0 : Int32).toNatClampNeg (1 : Int64)))) hC dL_isAway_15 16 rfl 0 rfl (vp_in_d (by decide)) rfl ?_
      refine g_goto hC dL_isAway_16 22 (by decide) ?_
      refine g_iconst hC (0 : Int32) dL_isAway_22 23 rfl iconst_0 ?_
      exact g_iret hC hZ dL_isAway_23 ⟨_, _, _, rfl, rfl, h⟩
def ww_isPending (post : Int32 → Off → (Nat → Int64) → Prop) (E : Off) (z : Nat → Int64) (p0 : Int32) : Prop := wp_X4_isPending (fun (v1 : Int32) E1 => ((v1 = 0 → post 0 E1 (vp_updL z (0 : Int32).toNatClampNeg 0)) ∧ (¬ v1 = 0 → post 0 E1 (vp_updL z (0 : Int32).toNatClampNeg 1)))) (fun i E1 => (i = 3 ∧ post 1 E1 z)) E p0
set_option maxRecDepth 100000 in
set_option maxHeartbeats 4000000 in
theorem cw_isPending (l : Launch) (g : gE) (A : Nat → Nat → Nat) (u : Nat) (E : Off) (z : Nat → Int64) (p0 : Int32) (post : Int32 → Off → (Nat → Int64) → Prop) (h : ww_isPending post E z p0) : FnW l g yL_isPending cL_isPending 4 (some .int) [(0, 16, 19, 21)] 9 153 1 6 (outW g A u E z) [.ref (A 0 0), .int p0, .ref u] (pO (outW g A u) post) := by
  refine FnW.of (by decide) (Nat.le_of_ble_eq_true rfl) (fun x hC hZ hNw hT hst => ?_)
  unfold ww_isPending at h
  show G x g 4 0 0 (outW g A u E z) 0 [(0, .ref (A 0 0)), (1, .int p0), (2, .ref u)] []
  refine g_aload_n hC dL_isPending_0 1 rfl rfl 2 rfl ?_
  refine g_iconst hC (0 : Int32) dL_isPending_1 2 rfl iconst_0 ?_
  refine g_aload_n hC dL_isPending_2 3 rfl rfl 0 rfl ?_
  refine g_iload_n hC dL_isPending_3 4 rfl rfl 1 rfl ?_
  refine g_callVC hC hNw hst (ct_X4_isPending l g A E p0 _ _ h) gY_X4_isPending dL_isPending_4 7 rfl ml_L_31 [(u, .inl (g.2.1 4, 1, .inr (.inl z)))] [] (by rw [List.append_nil]; rfl) [.int (0 : Int32), .ref u] rfl rfl rfl 0 8 rfl rfl ⟨Nat.le_of_ble_eq_true rfl, Nat.le_of_ble_eq_true rfl⟩ (Nat.le_of_ble_eq_true rfl) ⟨Nat.le_of_ble_eq_true rfl, Nat.le_of_ble_eq_true rfl⟩ ?_ ?_
  · rintro E9 w9 ⟨i9, o9, hi9, rfl, h⟩
    obtain ⟨rfl, h⟩ := h
    obtain rfl := Option.some.inj (show some "java/lang/IndexOutOfBoundsException" = some E9 from hi9)
    refine g_catch hC hNw (by simp [gNwL]) [] ⟨0, 16, 19, 21⟩ [] hT (fun z9 hz9 => nomatch hz9) (by decide) (by decide) cl_L_21 (fun q9 => ?_)
    refine g_ws (ws2 := (outW g A u o9 z)) (by rw [List.append_nil]; rfl) ?_
    refine g_widen (k2 := 1) (n2 := 6) (Nat.le_of_ble_eq_true rfl) (Nat.le_of_ble_eq_true rfl) ?_
    show G x g 4 1 6 (outW g A u o9 z) 19 [(0, .ref (A 0 0)), (1, .int p0), (2, .ref u)] [.ref q9]
    refine g_astore_n (lv2 := [(3, .ref q9), (0, .ref (A 0 0)), (1, .int p0), (2, .ref u)]) hC dL_isPending_19 20 rfl rfl (by decide) rfl ?_
    refine g_iconst hC (1 : Int32) dL_isPending_20 21 rfl iconst_1 ?_
    exact g_iret hC hZ dL_isPending_21 ⟨_, _, _, rfl, rfl, h⟩
  · rintro r w1 ⟨v1, o1, rfl, rfl, h⟩
    refine g_ws (ws2 := (outW g A u o1 z)) (by rw [List.append_nil]; rfl) ?_
    refine g_widen (k2 := 1) (n2 := 6) (Nat.le_of_ble_eq_true rfl) (Nat.le_of_ble_eq_true rfl) ?_
    show G x g 4 1 6 (outW g A u o1 z) 7 [(0, .ref (A 0 0)), (1, .int p0), (2, .ref u)] [.int v1, .int (0 : Int32), .ref u]
    refine g_if_eq hC dL_isPending_7 14 (by decide) 10 rfl (fun c => ?_) (fun c => ?_)
    · have h := h.1 c
      refine g_lconst hC (0 : Int64) dL_isPending_14 15 rfl rfl ?_
      refine g_last (ws2 := (outW g A u o1 (vp_updL z (0 : Int32).toNatClampNeg (0 : Int64)))) hC dL_isPending_15 16 rfl 0 rfl (vp_in_d (by decide)) rfl ?_
      refine g_goto hC dL_isPending_16 22 (by decide) ?_
      refine g_iconst hC (0 : Int32) dL_isPending_22 23 rfl iconst_0 ?_
      exact g_iret hC hZ dL_isPending_23 ⟨_, _, _, rfl, rfl, h⟩
    · have h := h.2 c
      refine g_lconst hC (1 : Int64) dL_isPending_10 11 rfl rfl ?_
      refine g_goto hC dL_isPending_11 15 (by decide) ?_
      refine g_last (ws2 := (outW g A u o1 (vp_updL z (0 : Int32).toNatClampNeg (1 : Int64)))) hC dL_isPending_15 16 rfl 0 rfl (vp_in_d (by decide)) rfl ?_
      refine g_goto hC dL_isPending_16 22 (by decide) ?_
      refine g_iconst hC (0 : Int32) dL_isPending_22 23 rfl iconst_0 ?_
      exact g_iret hC hZ dL_isPending_23 ⟨_, _, _, rfl, rfl, h⟩
def ww_isRefused (post : Int32 → Off → (Nat → Int64) → Prop) (E : Off) (z : Nat → Int64) (p0 : Int32) : Prop := wp_X4_isRefused (fun (v1 : Int32) E1 => ((v1 = 0 → post 0 E1 (vp_updL z (0 : Int32).toNatClampNeg 0)) ∧ (¬ v1 = 0 → post 0 E1 (vp_updL z (0 : Int32).toNatClampNeg 1)))) (fun i E1 => (i = 3 ∧ post 1 E1 z)) E p0
set_option maxRecDepth 100000 in
set_option maxHeartbeats 4000000 in
theorem cw_isRefused (l : Launch) (g : gE) (A : Nat → Nat → Nat) (u : Nat) (E : Off) (z : Nat → Int64) (p0 : Int32) (post : Int32 → Off → (Nat → Int64) → Prop) (h : ww_isRefused post E z p0) : FnW l g yL_isRefused cL_isRefused 4 (some .int) [(0, 16, 19, 21)] 9 153 1 6 (outW g A u E z) [.ref (A 0 0), .int p0, .ref u] (pO (outW g A u) post) := by
  refine FnW.of (by decide) (Nat.le_of_ble_eq_true rfl) (fun x hC hZ hNw hT hst => ?_)
  unfold ww_isRefused at h
  show G x g 4 0 0 (outW g A u E z) 0 [(0, .ref (A 0 0)), (1, .int p0), (2, .ref u)] []
  refine g_aload_n hC dL_isRefused_0 1 rfl rfl 2 rfl ?_
  refine g_iconst hC (0 : Int32) dL_isRefused_1 2 rfl iconst_0 ?_
  refine g_aload_n hC dL_isRefused_2 3 rfl rfl 0 rfl ?_
  refine g_iload_n hC dL_isRefused_3 4 rfl rfl 1 rfl ?_
  refine g_callVC hC hNw hst (ct_X4_isRefused l g A E p0 _ _ h) gY_X4_isRefused dL_isRefused_4 7 rfl ml_L_34 [(u, .inl (g.2.1 4, 1, .inr (.inl z)))] [] (by rw [List.append_nil]; rfl) [.int (0 : Int32), .ref u] rfl rfl rfl 0 8 rfl rfl ⟨Nat.le_of_ble_eq_true rfl, Nat.le_of_ble_eq_true rfl⟩ (Nat.le_of_ble_eq_true rfl) ⟨Nat.le_of_ble_eq_true rfl, Nat.le_of_ble_eq_true rfl⟩ ?_ ?_
  · rintro E9 w9 ⟨i9, o9, hi9, rfl, h⟩
    obtain ⟨rfl, h⟩ := h
    obtain rfl := Option.some.inj (show some "java/lang/IndexOutOfBoundsException" = some E9 from hi9)
    refine g_catch hC hNw (by simp [gNwL]) [] ⟨0, 16, 19, 21⟩ [] hT (fun z9 hz9 => nomatch hz9) (by decide) (by decide) cl_L_21 (fun q9 => ?_)
    refine g_ws (ws2 := (outW g A u o9 z)) (by rw [List.append_nil]; rfl) ?_
    refine g_widen (k2 := 1) (n2 := 6) (Nat.le_of_ble_eq_true rfl) (Nat.le_of_ble_eq_true rfl) ?_
    show G x g 4 1 6 (outW g A u o9 z) 19 [(0, .ref (A 0 0)), (1, .int p0), (2, .ref u)] [.ref q9]
    refine g_astore_n (lv2 := [(3, .ref q9), (0, .ref (A 0 0)), (1, .int p0), (2, .ref u)]) hC dL_isRefused_19 20 rfl rfl (by decide) rfl ?_
    refine g_iconst hC (1 : Int32) dL_isRefused_20 21 rfl iconst_1 ?_
    exact g_iret hC hZ dL_isRefused_21 ⟨_, _, _, rfl, rfl, h⟩
  · rintro r w1 ⟨v1, o1, rfl, rfl, h⟩
    refine g_ws (ws2 := (outW g A u o1 z)) (by rw [List.append_nil]; rfl) ?_
    refine g_widen (k2 := 1) (n2 := 6) (Nat.le_of_ble_eq_true rfl) (Nat.le_of_ble_eq_true rfl) ?_
    show G x g 4 1 6 (outW g A u o1 z) 7 [(0, .ref (A 0 0)), (1, .int p0), (2, .ref u)] [.int v1, .int (0 : Int32), .ref u]
    refine g_if_eq hC dL_isRefused_7 14 (by decide) 10 rfl (fun c => ?_) (fun c => ?_)
    · have h := h.1 c
      refine g_lconst hC (0 : Int64) dL_isRefused_14 15 rfl rfl ?_
      refine g_last (ws2 := (outW g A u o1 (vp_updL z (0 : Int32).toNatClampNeg (0 : Int64)))) hC dL_isRefused_15 16 rfl 0 rfl (vp_in_d (by decide)) rfl ?_
      refine g_goto hC dL_isRefused_16 22 (by decide) ?_
      refine g_iconst hC (0 : Int32) dL_isRefused_22 23 rfl iconst_0 ?_
      exact g_iret hC hZ dL_isRefused_23 ⟨_, _, _, rfl, rfl, h⟩
    · have h := h.2 c
      refine g_lconst hC (1 : Int64) dL_isRefused_10 11 rfl rfl ?_
      refine g_goto hC dL_isRefused_11 15 (by decide) ?_
      refine g_last (ws2 := (outW g A u o1 (vp_updL z (0 : Int32).toNatClampNeg (1 : Int64)))) hC dL_isRefused_15 16 rfl 0 rfl (vp_in_d (by decide)) rfl ?_
      refine g_goto hC dL_isRefused_16 22 (by decide) ?_
      refine g_iconst hC (0 : Int32) dL_isRefused_22 23 rfl iconst_0 ?_
      exact g_iret hC hZ dL_isRefused_23 ⟨_, _, _, rfl, rfl, h⟩
def ww_isResident (post : Int32 → Off → (Nat → Int64) → Prop) (E : Off) (z : Nat → Int64) (p0 : Int32) : Prop := wp_X4_isResident (fun (v1 : Int32) E1 => ((v1 = 0 → post 0 E1 (vp_updL z (0 : Int32).toNatClampNeg 0)) ∧ (¬ v1 = 0 → post 0 E1 (vp_updL z (0 : Int32).toNatClampNeg 1)))) (fun i E1 => (i = 3 ∧ post 1 E1 z)) E p0
set_option maxRecDepth 100000 in
set_option maxHeartbeats 4000000 in
theorem cw_isResident (l : Launch) (g : gE) (A : Nat → Nat → Nat) (u : Nat) (E : Off) (z : Nat → Int64) (p0 : Int32) (post : Int32 → Off → (Nat → Int64) → Prop) (h : ww_isResident post E z p0) : FnW l g yL_isResident cL_isResident 4 (some .int) [(0, 16, 19, 21)] 9 153 1 6 (outW g A u E z) [.ref (A 0 0), .int p0, .ref u] (pO (outW g A u) post) := by
  refine FnW.of (by decide) (Nat.le_of_ble_eq_true rfl) (fun x hC hZ hNw hT hst => ?_)
  unfold ww_isResident at h
  show G x g 4 0 0 (outW g A u E z) 0 [(0, .ref (A 0 0)), (1, .int p0), (2, .ref u)] []
  refine g_aload_n hC dL_isResident_0 1 rfl rfl 2 rfl ?_
  refine g_iconst hC (0 : Int32) dL_isResident_1 2 rfl iconst_0 ?_
  refine g_aload_n hC dL_isResident_2 3 rfl rfl 0 rfl ?_
  refine g_iload_n hC dL_isResident_3 4 rfl rfl 1 rfl ?_
  refine g_callVC hC hNw hst (ct_X4_isResident l g A E p0 _ _ h) gY_X4_isResident dL_isResident_4 7 rfl ml_L_37 [(u, .inl (g.2.1 4, 1, .inr (.inl z)))] [] (by rw [List.append_nil]; rfl) [.int (0 : Int32), .ref u] rfl rfl rfl 0 8 rfl rfl ⟨Nat.le_of_ble_eq_true rfl, Nat.le_of_ble_eq_true rfl⟩ (Nat.le_of_ble_eq_true rfl) ⟨Nat.le_of_ble_eq_true rfl, Nat.le_of_ble_eq_true rfl⟩ ?_ ?_
  · rintro E9 w9 ⟨i9, o9, hi9, rfl, h⟩
    obtain ⟨rfl, h⟩ := h
    obtain rfl := Option.some.inj (show some "java/lang/IndexOutOfBoundsException" = some E9 from hi9)
    refine g_catch hC hNw (by simp [gNwL]) [] ⟨0, 16, 19, 21⟩ [] hT (fun z9 hz9 => nomatch hz9) (by decide) (by decide) cl_L_21 (fun q9 => ?_)
    refine g_ws (ws2 := (outW g A u o9 z)) (by rw [List.append_nil]; rfl) ?_
    refine g_widen (k2 := 1) (n2 := 6) (Nat.le_of_ble_eq_true rfl) (Nat.le_of_ble_eq_true rfl) ?_
    show G x g 4 1 6 (outW g A u o9 z) 19 [(0, .ref (A 0 0)), (1, .int p0), (2, .ref u)] [.ref q9]
    refine g_astore_n (lv2 := [(3, .ref q9), (0, .ref (A 0 0)), (1, .int p0), (2, .ref u)]) hC dL_isResident_19 20 rfl rfl (by decide) rfl ?_
    refine g_iconst hC (1 : Int32) dL_isResident_20 21 rfl iconst_1 ?_
    exact g_iret hC hZ dL_isResident_21 ⟨_, _, _, rfl, rfl, h⟩
  · rintro r w1 ⟨v1, o1, rfl, rfl, h⟩
    refine g_ws (ws2 := (outW g A u o1 z)) (by rw [List.append_nil]; rfl) ?_
    refine g_widen (k2 := 1) (n2 := 6) (Nat.le_of_ble_eq_true rfl) (Nat.le_of_ble_eq_true rfl) ?_
    show G x g 4 1 6 (outW g A u o1 z) 7 [(0, .ref (A 0 0)), (1, .int p0), (2, .ref u)] [.int v1, .int (0 : Int32), .ref u]
    refine g_if_eq hC dL_isResident_7 14 (by decide) 10 rfl (fun c => ?_) (fun c => ?_)
    · have h := h.1 c
      refine g_lconst hC (0 : Int64) dL_isResident_14 15 rfl rfl ?_
      refine g_last (ws2 := (outW g A u o1 (vp_updL z (0 : Int32).toNatClampNeg (0 : Int64)))) hC dL_isResident_15 16 rfl 0 rfl (vp_in_d (by decide)) rfl ?_
      refine g_goto hC dL_isResident_16 22 (by decide) ?_
      refine g_iconst hC (0 : Int32) dL_isResident_22 23 rfl iconst_0 ?_
      exact g_iret hC hZ dL_isResident_23 ⟨_, _, _, rfl, rfl, h⟩
    · have h := h.2 c
      refine g_lconst hC (1 : Int64) dL_isResident_10 11 rfl rfl ?_
      refine g_goto hC dL_isResident_11 15 (by decide) ?_
      refine g_last (ws2 := (outW g A u o1 (vp_updL z (0 : Int32).toNatClampNeg (1 : Int64)))) hC dL_isResident_15 16 rfl 0 rfl (vp_in_d (by decide)) rfl ?_
      refine g_goto hC dL_isResident_16 22 (by decide) ?_
      refine g_iconst hC (0 : Int32) dL_isResident_22 23 rfl iconst_0 ?_
      exact g_iret hC hZ dL_isResident_23 ⟨_, _, _, rfl, rfl, h⟩
def ww_drawerOf (post : Int32 → Off → (Nat → Int64) → Prop) (E : Off) (z : Nat → Int64) (p0 : Int32) : Prop := wp_X4_drawerOf (fun (v1 : Int32) E1 => post 0 E1 (vp_updL z (0 : Int32).toNatClampNeg v1.toInt64)) (fun i E1 => (i = 3 ∧ post 1 E1 z) ∨ (i = 5 ∧ post 2 E1 z)) E p0
set_option maxRecDepth 100000 in
set_option maxHeartbeats 4000000 in
theorem cw_drawerOf (l : Launch) (g : gE) (A : Nat → Nat → Nat) (u : Nat) (E : Off) (z : Nat → Int64) (p0 : Int32) (post : Int32 → Off → (Nat → Int64) → Prop) (h : ww_drawerOf post E z p0) : FnW l g yL_drawerOf cL_drawerOf 4 (some .int) [(0, 9, 12, 21), (0, 9, 15, 43)] 9 153 2 12 (outW g A u E z) [.ref (A 0 0), .int p0, .ref u] (pO (outW g A u) post) := by
  refine FnW.of (by decide) (Nat.le_of_ble_eq_true rfl) (fun x hC hZ hNw hT hst => ?_)
  unfold ww_drawerOf at h
  show G x g 4 0 0 (outW g A u E z) 0 [(0, .ref (A 0 0)), (1, .int p0), (2, .ref u)] []
  refine g_aload_n hC dL_drawerOf_0 1 rfl rfl 2 rfl ?_
  refine g_iconst hC (0 : Int32) dL_drawerOf_1 2 rfl iconst_0 ?_
  refine g_aload_n hC dL_drawerOf_2 3 rfl rfl 0 rfl ?_
  refine g_iload_n hC dL_drawerOf_3 4 rfl rfl 1 rfl ?_
  refine g_callVC hC hNw hst (ct_X4_drawerOf l g A E p0 _ _ h) gY_X4_drawerOf dL_drawerOf_4 7 rfl ml_L_40 [(u, .inl (g.2.1 4, 1, .inr (.inl z)))] [] (by rw [List.append_nil]; rfl) [.int (0 : Int32), .ref u] rfl rfl rfl 0 8 rfl rfl ⟨Nat.le_of_ble_eq_true rfl, Nat.le_of_ble_eq_true rfl⟩ (Nat.le_of_ble_eq_true rfl) ⟨Nat.le_of_ble_eq_true rfl, Nat.le_of_ble_eq_true rfl⟩ ?_ ?_
  · rintro E9 w9 ⟨i9, o9, hi9, rfl, h⟩
    rcases h with ⟨rfl, h⟩ | ⟨rfl, h⟩
    · obtain rfl := Option.some.inj (show some "java/lang/IndexOutOfBoundsException" = some E9 from hi9)
      refine g_catch hC hNw (by simp [gNwL]) [] ⟨0, 9, 12, 21⟩ [⟨0, 9, 15, 43⟩] hT (fun z9 hz9 => nomatch hz9) (by decide) (by decide) cl_L_21 (fun q9 => ?_)
      refine g_ws (ws2 := (outW g A u o9 z)) (by rw [List.append_nil]; rfl) ?_
      refine g_widen (k2 := 2) (n2 := 12) (Nat.le_of_ble_eq_true rfl) (Nat.le_of_ble_eq_true rfl) ?_
      show G x g 4 2 12 (outW g A u o9 z) 12 [(0, .ref (A 0 0)), (1, .int p0), (2, .ref u)] [.ref q9]
      refine g_astore_n (lv2 := [(3, .ref q9), (0, .ref (A 0 0)), (1, .int p0), (2, .ref u)]) hC dL_drawerOf_12 13 rfl rfl (by decide) rfl ?_
      refine g_iconst hC (1 : Int32) dL_drawerOf_13 14 rfl iconst_1 ?_
      exact g_iret hC hZ dL_drawerOf_14 ⟨_, _, _, rfl, rfl, h⟩
    · obtain rfl := Option.some.inj (show some "java/util/NoSuchElementException" = some E9 from hi9)
      refine g_catch hC hNw (by simp [gNwL]) [⟨0, 9, 12, 21⟩] ⟨0, 9, 15, 43⟩ [] hT (fun z9 hz9 => by rcases List.mem_singleton.mp hz9 with rfl; exact Or.inr ⟨by decide, _, cl_L_21, g_nc hC 5 3 (by decide) rfl rfl⟩) (by decide) (by decide) cl_L_43 (fun q9 => ?_)
      refine g_ws (ws2 := (outW g A u o9 z)) (by rw [List.append_nil]; rfl) ?_
      refine g_widen (k2 := 2) (n2 := 12) (Nat.le_of_ble_eq_true rfl) (Nat.le_of_ble_eq_true rfl) ?_
      show G x g 4 2 12 (outW g A u o9 z) 15 [(0, .ref (A 0 0)), (1, .int p0), (2, .ref u)] [.ref q9]
      refine g_astore_n (lv2 := [(3, .ref q9), (0, .ref (A 0 0)), (1, .int p0), (2, .ref u)]) hC dL_drawerOf_15 16 rfl rfl (by decide) rfl ?_
      refine g_iconst hC (2 : Int32) dL_drawerOf_16 17 rfl iconst_2 ?_
      exact g_iret hC hZ dL_drawerOf_17 ⟨_, _, _, rfl, rfl, h⟩
  · rintro r w1 ⟨v1, o1, rfl, rfl, h⟩
    refine g_ws (ws2 := (outW g A u o1 z)) (by rw [List.append_nil]; rfl) ?_
    refine g_widen (k2 := 2) (n2 := 12) (Nat.le_of_ble_eq_true rfl) (Nat.le_of_ble_eq_true rfl) ?_
    show G x g 4 2 12 (outW g A u o1 z) 7 [(0, .ref (A 0 0)), (1, .int p0), (2, .ref u)] [.int v1, .int (0 : Int32), .ref u]
    refine g_i2l hC dL_drawerOf_7 8 rfl ?_
    refine g_last (ws2 := (outW g A u o1 (vp_updL z (0 : Int32).toNatClampNeg v1.toInt64))) hC dL_drawerOf_8 9 rfl 0 rfl (vp_in_d (by decide)) rfl ?_
    refine g_goto hC dL_drawerOf_9 18 (by decide) ?_
    refine g_iconst hC (0 : Int32) dL_drawerOf_18 19 rfl iconst_0 ?_
    exact g_iret hC hZ dL_drawerOf_19 ⟨_, _, _, rfl, rfl, h⟩
def ww_levelOf (post : Int32 → Off → (Nat → Int64) → Prop) (E : Off) (z : Nat → Int64) (p0 : Int32) : Prop := wp_X4_levelOf (fun (v1 : Int32) E1 => post 0 E1 (vp_updL z (0 : Int32).toNatClampNeg v1.toInt64)) (fun i E1 => (i = 3 ∧ post 1 E1 z) ∨ (i = 5 ∧ post 2 E1 z)) E p0
set_option maxRecDepth 100000 in
set_option maxHeartbeats 4000000 in
theorem cw_levelOf (l : Launch) (g : gE) (A : Nat → Nat → Nat) (u : Nat) (E : Off) (z : Nat → Int64) (p0 : Int32) (post : Int32 → Off → (Nat → Int64) → Prop) (h : ww_levelOf post E z p0) : FnW l g yL_levelOf cL_levelOf 4 (some .int) [(0, 9, 12, 21), (0, 9, 15, 43)] 9 153 2 12 (outW g A u E z) [.ref (A 0 0), .int p0, .ref u] (pO (outW g A u) post) := by
  refine FnW.of (by decide) (Nat.le_of_ble_eq_true rfl) (fun x hC hZ hNw hT hst => ?_)
  unfold ww_levelOf at h
  show G x g 4 0 0 (outW g A u E z) 0 [(0, .ref (A 0 0)), (1, .int p0), (2, .ref u)] []
  refine g_aload_n hC dL_levelOf_0 1 rfl rfl 2 rfl ?_
  refine g_iconst hC (0 : Int32) dL_levelOf_1 2 rfl iconst_0 ?_
  refine g_aload_n hC dL_levelOf_2 3 rfl rfl 0 rfl ?_
  refine g_iload_n hC dL_levelOf_3 4 rfl rfl 1 rfl ?_
  refine g_callVC hC hNw hst (ct_X4_levelOf l g A E p0 _ _ h) gY_X4_levelOf dL_levelOf_4 7 rfl ml_L_45 [(u, .inl (g.2.1 4, 1, .inr (.inl z)))] [] (by rw [List.append_nil]; rfl) [.int (0 : Int32), .ref u] rfl rfl rfl 0 8 rfl rfl ⟨Nat.le_of_ble_eq_true rfl, Nat.le_of_ble_eq_true rfl⟩ (Nat.le_of_ble_eq_true rfl) ⟨Nat.le_of_ble_eq_true rfl, Nat.le_of_ble_eq_true rfl⟩ ?_ ?_
  · rintro E9 w9 ⟨i9, o9, hi9, rfl, h⟩
    rcases h with ⟨rfl, h⟩ | ⟨rfl, h⟩
    · obtain rfl := Option.some.inj (show some "java/lang/IndexOutOfBoundsException" = some E9 from hi9)
      refine g_catch hC hNw (by simp [gNwL]) [] ⟨0, 9, 12, 21⟩ [⟨0, 9, 15, 43⟩] hT (fun z9 hz9 => nomatch hz9) (by decide) (by decide) cl_L_21 (fun q9 => ?_)
      refine g_ws (ws2 := (outW g A u o9 z)) (by rw [List.append_nil]; rfl) ?_
      refine g_widen (k2 := 2) (n2 := 12) (Nat.le_of_ble_eq_true rfl) (Nat.le_of_ble_eq_true rfl) ?_
      show G x g 4 2 12 (outW g A u o9 z) 12 [(0, .ref (A 0 0)), (1, .int p0), (2, .ref u)] [.ref q9]
      refine g_astore_n (lv2 := [(3, .ref q9), (0, .ref (A 0 0)), (1, .int p0), (2, .ref u)]) hC dL_levelOf_12 13 rfl rfl (by decide) rfl ?_
      refine g_iconst hC (1 : Int32) dL_levelOf_13 14 rfl iconst_1 ?_
      exact g_iret hC hZ dL_levelOf_14 ⟨_, _, _, rfl, rfl, h⟩
    · obtain rfl := Option.some.inj (show some "java/util/NoSuchElementException" = some E9 from hi9)
      refine g_catch hC hNw (by simp [gNwL]) [⟨0, 9, 12, 21⟩] ⟨0, 9, 15, 43⟩ [] hT (fun z9 hz9 => by rcases List.mem_singleton.mp hz9 with rfl; exact Or.inr ⟨by decide, _, cl_L_21, g_nc hC 5 3 (by decide) rfl rfl⟩) (by decide) (by decide) cl_L_43 (fun q9 => ?_)
      refine g_ws (ws2 := (outW g A u o9 z)) (by rw [List.append_nil]; rfl) ?_
      refine g_widen (k2 := 2) (n2 := 12) (Nat.le_of_ble_eq_true rfl) (Nat.le_of_ble_eq_true rfl) ?_
      show G x g 4 2 12 (outW g A u o9 z) 15 [(0, .ref (A 0 0)), (1, .int p0), (2, .ref u)] [.ref q9]
      refine g_astore_n (lv2 := [(3, .ref q9), (0, .ref (A 0 0)), (1, .int p0), (2, .ref u)]) hC dL_levelOf_15 16 rfl rfl (by decide) rfl ?_
      refine g_iconst hC (2 : Int32) dL_levelOf_16 17 rfl iconst_2 ?_
      exact g_iret hC hZ dL_levelOf_17 ⟨_, _, _, rfl, rfl, h⟩
  · rintro r w1 ⟨v1, o1, rfl, rfl, h⟩
    refine g_ws (ws2 := (outW g A u o1 z)) (by rw [List.append_nil]; rfl) ?_
    refine g_widen (k2 := 2) (n2 := 12) (Nat.le_of_ble_eq_true rfl) (Nat.le_of_ble_eq_true rfl) ?_
    show G x g 4 2 12 (outW g A u o1 z) 7 [(0, .ref (A 0 0)), (1, .int p0), (2, .ref u)] [.int v1, .int (0 : Int32), .ref u]
    refine g_i2l hC dL_levelOf_7 8 rfl ?_
    refine g_last (ws2 := (outW g A u o1 (vp_updL z (0 : Int32).toNatClampNeg v1.toInt64))) hC dL_levelOf_8 9 rfl 0 rfl (vp_in_d (by decide)) rfl ?_
    refine g_goto hC dL_levelOf_9 18 (by decide) ?_
    refine g_iconst hC (0 : Int32) dL_levelOf_18 19 rfl iconst_0 ?_
    exact g_iret hC hZ dL_levelOf_19 ⟨_, _, _, rfl, rfl, h⟩
def ww_visaDay (post : Int32 → Off → (Nat → Int64) → Prop) (E : Off) (z : Nat → Int64) (p0 : Int32) : Prop := wp_X4_visaDay (fun (v1 : Int32) E1 => post 0 E1 (vp_updL z (0 : Int32).toNatClampNeg v1.toInt64)) (fun i E1 => (i = 3 ∧ post 1 E1 z) ∨ (i = 5 ∧ post 2 E1 z)) E p0
set_option maxRecDepth 100000 in
set_option maxHeartbeats 4000000 in
theorem cw_visaDay (l : Launch) (g : gE) (A : Nat → Nat → Nat) (u : Nat) (E : Off) (z : Nat → Int64) (p0 : Int32) (post : Int32 → Off → (Nat → Int64) → Prop) (h : ww_visaDay post E z p0) : FnW l g yL_visaDay cL_visaDay 4 (some .int) [(0, 9, 12, 21), (0, 9, 15, 43)] 9 153 2 12 (outW g A u E z) [.ref (A 0 0), .int p0, .ref u] (pO (outW g A u) post) := by
  refine FnW.of (by decide) (Nat.le_of_ble_eq_true rfl) (fun x hC hZ hNw hT hst => ?_)
  unfold ww_visaDay at h
  show G x g 4 0 0 (outW g A u E z) 0 [(0, .ref (A 0 0)), (1, .int p0), (2, .ref u)] []
  refine g_aload_n hC dL_visaDay_0 1 rfl rfl 2 rfl ?_
  refine g_iconst hC (0 : Int32) dL_visaDay_1 2 rfl iconst_0 ?_
  refine g_aload_n hC dL_visaDay_2 3 rfl rfl 0 rfl ?_
  refine g_iload_n hC dL_visaDay_3 4 rfl rfl 1 rfl ?_
  refine g_callVC hC hNw hst (ct_X4_visaDay l g A E p0 _ _ h) gY_X4_visaDay dL_visaDay_4 7 rfl ml_L_48 [(u, .inl (g.2.1 4, 1, .inr (.inl z)))] [] (by rw [List.append_nil]; rfl) [.int (0 : Int32), .ref u] rfl rfl rfl 0 8 rfl rfl ⟨Nat.le_of_ble_eq_true rfl, Nat.le_of_ble_eq_true rfl⟩ (Nat.le_of_ble_eq_true rfl) ⟨Nat.le_of_ble_eq_true rfl, Nat.le_of_ble_eq_true rfl⟩ ?_ ?_
  · rintro E9 w9 ⟨i9, o9, hi9, rfl, h⟩
    rcases h with ⟨rfl, h⟩ | ⟨rfl, h⟩
    · obtain rfl := Option.some.inj (show some "java/lang/IndexOutOfBoundsException" = some E9 from hi9)
      refine g_catch hC hNw (by simp [gNwL]) [] ⟨0, 9, 12, 21⟩ [⟨0, 9, 15, 43⟩] hT (fun z9 hz9 => nomatch hz9) (by decide) (by decide) cl_L_21 (fun q9 => ?_)
      refine g_ws (ws2 := (outW g A u o9 z)) (by rw [List.append_nil]; rfl) ?_
      refine g_widen (k2 := 2) (n2 := 12) (Nat.le_of_ble_eq_true rfl) (Nat.le_of_ble_eq_true rfl) ?_
      show G x g 4 2 12 (outW g A u o9 z) 12 [(0, .ref (A 0 0)), (1, .int p0), (2, .ref u)] [.ref q9]
      refine g_astore_n (lv2 := [(3, .ref q9), (0, .ref (A 0 0)), (1, .int p0), (2, .ref u)]) hC dL_visaDay_12 13 rfl rfl (by decide) rfl ?_
      refine g_iconst hC (1 : Int32) dL_visaDay_13 14 rfl iconst_1 ?_
      exact g_iret hC hZ dL_visaDay_14 ⟨_, _, _, rfl, rfl, h⟩
    · obtain rfl := Option.some.inj (show some "java/util/NoSuchElementException" = some E9 from hi9)
      refine g_catch hC hNw (by simp [gNwL]) [⟨0, 9, 12, 21⟩] ⟨0, 9, 15, 43⟩ [] hT (fun z9 hz9 => by rcases List.mem_singleton.mp hz9 with rfl; exact Or.inr ⟨by decide, _, cl_L_21, g_nc hC 5 3 (by decide) rfl rfl⟩) (by decide) (by decide) cl_L_43 (fun q9 => ?_)
      refine g_ws (ws2 := (outW g A u o9 z)) (by rw [List.append_nil]; rfl) ?_
      refine g_widen (k2 := 2) (n2 := 12) (Nat.le_of_ble_eq_true rfl) (Nat.le_of_ble_eq_true rfl) ?_
      show G x g 4 2 12 (outW g A u o9 z) 15 [(0, .ref (A 0 0)), (1, .int p0), (2, .ref u)] [.ref q9]
      refine g_astore_n (lv2 := [(3, .ref q9), (0, .ref (A 0 0)), (1, .int p0), (2, .ref u)]) hC dL_visaDay_15 16 rfl rfl (by decide) rfl ?_
      refine g_iconst hC (2 : Int32) dL_visaDay_16 17 rfl iconst_2 ?_
      exact g_iret hC hZ dL_visaDay_17 ⟨_, _, _, rfl, rfl, h⟩
  · rintro r w1 ⟨v1, o1, rfl, rfl, h⟩
    refine g_ws (ws2 := (outW g A u o1 z)) (by rw [List.append_nil]; rfl) ?_
    refine g_widen (k2 := 2) (n2 := 12) (Nat.le_of_ble_eq_true rfl) (Nat.le_of_ble_eq_true rfl) ?_
    show G x g 4 2 12 (outW g A u o1 z) 7 [(0, .ref (A 0 0)), (1, .int p0), (2, .ref u)] [.int v1, .int (0 : Int32), .ref u]
    refine g_i2l hC dL_visaDay_7 8 rfl ?_
    refine g_last (ws2 := (outW g A u o1 (vp_updL z (0 : Int32).toNatClampNeg v1.toInt64))) hC dL_visaDay_8 9 rfl 0 rfl (vp_in_d (by decide)) rfl ?_
    refine g_goto hC dL_visaDay_9 18 (by decide) ?_
    refine g_iconst hC (0 : Int32) dL_visaDay_18 19 rfl iconst_0 ?_
    exact g_iret hC hZ dL_visaDay_19 ⟨_, _, _, rfl, rfl, h⟩
def ww_partnerOf (post : Int32 → Off → (Nat → Int64) → Prop) (E : Off) (z : Nat → Int64) (p0 : Int32) : Prop := wp_X4_partnerOf (fun (v1 : Int32) E1 => post 0 E1 (vp_updL z (0 : Int32).toNatClampNeg v1.toInt64)) (fun i E1 => (i = 3 ∧ post 1 E1 z) ∨ (i = 5 ∧ post 2 E1 z)) E p0
set_option maxRecDepth 100000 in
set_option maxHeartbeats 4000000 in
theorem cw_partnerOf (l : Launch) (g : gE) (A : Nat → Nat → Nat) (u : Nat) (E : Off) (z : Nat → Int64) (p0 : Int32) (post : Int32 → Off → (Nat → Int64) → Prop) (h : ww_partnerOf post E z p0) : FnW l g yL_partnerOf cL_partnerOf 4 (some .int) [(0, 9, 12, 21), (0, 9, 15, 43)] 9 153 2 12 (outW g A u E z) [.ref (A 0 0), .int p0, .ref u] (pO (outW g A u) post) := by
  refine FnW.of (by decide) (Nat.le_of_ble_eq_true rfl) (fun x hC hZ hNw hT hst => ?_)
  unfold ww_partnerOf at h
  show G x g 4 0 0 (outW g A u E z) 0 [(0, .ref (A 0 0)), (1, .int p0), (2, .ref u)] []
  refine g_aload_n hC dL_partnerOf_0 1 rfl rfl 2 rfl ?_
  refine g_iconst hC (0 : Int32) dL_partnerOf_1 2 rfl iconst_0 ?_
  refine g_aload_n hC dL_partnerOf_2 3 rfl rfl 0 rfl ?_
  refine g_iload_n hC dL_partnerOf_3 4 rfl rfl 1 rfl ?_
  refine g_callVC hC hNw hst (ct_X4_partnerOf l g A E p0 _ _ h) gY_X4_partnerOf dL_partnerOf_4 7 rfl ml_L_51 [(u, .inl (g.2.1 4, 1, .inr (.inl z)))] [] (by rw [List.append_nil]; rfl) [.int (0 : Int32), .ref u] rfl rfl rfl 0 8 rfl rfl ⟨Nat.le_of_ble_eq_true rfl, Nat.le_of_ble_eq_true rfl⟩ (Nat.le_of_ble_eq_true rfl) ⟨Nat.le_of_ble_eq_true rfl, Nat.le_of_ble_eq_true rfl⟩ ?_ ?_
  · rintro E9 w9 ⟨i9, o9, hi9, rfl, h⟩
    rcases h with ⟨rfl, h⟩ | ⟨rfl, h⟩
    · obtain rfl := Option.some.inj (show some "java/lang/IndexOutOfBoundsException" = some E9 from hi9)
      refine g_catch hC hNw (by simp [gNwL]) [] ⟨0, 9, 12, 21⟩ [⟨0, 9, 15, 43⟩] hT (fun z9 hz9 => nomatch hz9) (by decide) (by decide) cl_L_21 (fun q9 => ?_)
      refine g_ws (ws2 := (outW g A u o9 z)) (by rw [List.append_nil]; rfl) ?_
      refine g_widen (k2 := 2) (n2 := 12) (Nat.le_of_ble_eq_true rfl) (Nat.le_of_ble_eq_true rfl) ?_
      show G x g 4 2 12 (outW g A u o9 z) 12 [(0, .ref (A 0 0)), (1, .int p0), (2, .ref u)] [.ref q9]
      refine g_astore_n (lv2 := [(3, .ref q9), (0, .ref (A 0 0)), (1, .int p0), (2, .ref u)]) hC dL_partnerOf_12 13 rfl rfl (by decide) rfl ?_
      refine g_iconst hC (1 : Int32) dL_partnerOf_13 14 rfl iconst_1 ?_
      exact g_iret hC hZ dL_partnerOf_14 ⟨_, _, _, rfl, rfl, h⟩
    · obtain rfl := Option.some.inj (show some "java/util/NoSuchElementException" = some E9 from hi9)
      refine g_catch hC hNw (by simp [gNwL]) [⟨0, 9, 12, 21⟩] ⟨0, 9, 15, 43⟩ [] hT (fun z9 hz9 => by rcases List.mem_singleton.mp hz9 with rfl; exact Or.inr ⟨by decide, _, cl_L_21, g_nc hC 5 3 (by decide) rfl rfl⟩) (by decide) (by decide) cl_L_43 (fun q9 => ?_)
      refine g_ws (ws2 := (outW g A u o9 z)) (by rw [List.append_nil]; rfl) ?_
      refine g_widen (k2 := 2) (n2 := 12) (Nat.le_of_ble_eq_true rfl) (Nat.le_of_ble_eq_true rfl) ?_
      show G x g 4 2 12 (outW g A u o9 z) 15 [(0, .ref (A 0 0)), (1, .int p0), (2, .ref u)] [.ref q9]
      refine g_astore_n (lv2 := [(3, .ref q9), (0, .ref (A 0 0)), (1, .int p0), (2, .ref u)]) hC dL_partnerOf_15 16 rfl rfl (by decide) rfl ?_
      refine g_iconst hC (2 : Int32) dL_partnerOf_16 17 rfl iconst_2 ?_
      exact g_iret hC hZ dL_partnerOf_17 ⟨_, _, _, rfl, rfl, h⟩
  · rintro r w1 ⟨v1, o1, rfl, rfl, h⟩
    refine g_ws (ws2 := (outW g A u o1 z)) (by rw [List.append_nil]; rfl) ?_
    refine g_widen (k2 := 2) (n2 := 12) (Nat.le_of_ble_eq_true rfl) (Nat.le_of_ble_eq_true rfl) ?_
    show G x g 4 2 12 (outW g A u o1 z) 7 [(0, .ref (A 0 0)), (1, .int p0), (2, .ref u)] [.int v1, .int (0 : Int32), .ref u]
    refine g_i2l hC dL_partnerOf_7 8 rfl ?_
    refine g_last (ws2 := (outW g A u o1 (vp_updL z (0 : Int32).toNatClampNeg v1.toInt64))) hC dL_partnerOf_8 9 rfl 0 rfl (vp_in_d (by decide)) rfl ?_
    refine g_goto hC dL_partnerOf_9 18 (by decide) ?_
    refine g_iconst hC (0 : Int32) dL_partnerOf_18 19 rfl iconst_0 ?_
    exact g_iret hC hZ dL_partnerOf_19 ⟨_, _, _, rfl, rfl, h⟩
def ww_matches (post : Int32 → Off → (Nat → Int64) → Prop) (E : Off) (z : Nat → Int64) (p0 : Int32) (p1 : Int32) : Prop := wp_X4_matches (fun (v1 : Int32) E1 => ((v1 = 0 → post 0 E1 (vp_updL z (0 : Int32).toNatClampNeg 0)) ∧ (¬ v1 = 0 → post 0 E1 (vp_updL z (0 : Int32).toNatClampNeg 1)))) (fun i E1 => (i = 3 ∧ post 1 E1 z)) E p0 p1
set_option maxRecDepth 100000 in
set_option maxHeartbeats 4000000 in
theorem cw_matches (l : Launch) (g : gE) (A : Nat → Nat → Nat) (u : Nat) (E : Off) (z : Nat → Int64) (p0 : Int32) (p1 : Int32) (post : Int32 → Off → (Nat → Int64) → Prop) (h : ww_matches post E z p0 p1) : FnW l g yL_matches cL_matches 5 (some .int) [(0, 17, 20, 21)] 9 154 2 12 (outW g A u E z) [.ref (A 0 0), .int p0, .int p1, .ref u] (pO (outW g A u) post) := by
  refine FnW.of (by decide) (Nat.le_of_ble_eq_true rfl) (fun x hC hZ hNw hT hst => ?_)
  unfold ww_matches at h
  show G x g 5 0 0 (outW g A u E z) 0 [(0, .ref (A 0 0)), (1, .int p0), (2, .int p1), (3, .ref u)] []
  refine g_aload_n hC dL_matches_0 1 rfl rfl 3 rfl ?_
  refine g_iconst hC (0 : Int32) dL_matches_1 2 rfl iconst_0 ?_
  refine g_aload_n hC dL_matches_2 3 rfl rfl 0 rfl ?_
  refine g_iload_n hC dL_matches_3 4 rfl rfl 1 rfl ?_
  refine g_iload_n hC dL_matches_4 5 rfl rfl 2 rfl ?_
  refine g_callVC hC hNw hst (ct_X4_matches l g A E p0 p1 _ _ h) gY_X4_matches dL_matches_5 8 rfl ml_L_54 [(u, .inl (g.2.1 4, 1, .inr (.inl z)))] [] (by rw [List.append_nil]; rfl) [.int (0 : Int32), .ref u] rfl rfl rfl 0 8 rfl rfl ⟨Nat.le_of_ble_eq_true rfl, Nat.le_of_ble_eq_true rfl⟩ (Nat.le_of_ble_eq_true rfl) ⟨Nat.le_of_ble_eq_true rfl, Nat.le_of_ble_eq_true rfl⟩ ?_ ?_
  · rintro E9 w9 ⟨i9, o9, hi9, rfl, h⟩
    obtain ⟨rfl, h⟩ := h
    obtain rfl := Option.some.inj (show some "java/lang/IndexOutOfBoundsException" = some E9 from hi9)
    refine g_catch hC hNw (by simp [gNwL]) [] ⟨0, 17, 20, 21⟩ [] hT (fun z9 hz9 => nomatch hz9) (by decide) (by decide) cl_L_21 (fun q9 => ?_)
    refine g_ws (ws2 := (outW g A u o9 z)) (by rw [List.append_nil]; rfl) ?_
    refine g_widen (k2 := 2) (n2 := 12) (Nat.le_of_ble_eq_true rfl) (Nat.le_of_ble_eq_true rfl) ?_
    show G x g 5 2 12 (outW g A u o9 z) 20 [(0, .ref (A 0 0)), (1, .int p0), (2, .int p1), (3, .ref u)] [.ref q9]
    refine g_astore (lv2 := [(4, .ref q9), (0, .ref (A 0 0)), (1, .int p0), (2, .int p1), (3, .ref u)]) hC dL_matches_20 22 rfl (by decide) rfl ?_
    refine g_iconst hC (1 : Int32) dL_matches_22 23 rfl iconst_1 ?_
    exact g_iret hC hZ dL_matches_23 ⟨_, _, _, rfl, rfl, h⟩
  · rintro r w1 ⟨v1, o1, rfl, rfl, h⟩
    refine g_ws (ws2 := (outW g A u o1 z)) (by rw [List.append_nil]; rfl) ?_
    refine g_widen (k2 := 2) (n2 := 12) (Nat.le_of_ble_eq_true rfl) (Nat.le_of_ble_eq_true rfl) ?_
    show G x g 5 2 12 (outW g A u o1 z) 8 [(0, .ref (A 0 0)), (1, .int p0), (2, .int p1), (3, .ref u)] [.int v1, .int (0 : Int32), .ref u]
    refine g_if_eq hC dL_matches_8 15 (by decide) 11 rfl (fun c => ?_) (fun c => ?_)
    · have h := h.1 c
      refine g_lconst hC (0 : Int64) dL_matches_15 16 rfl rfl ?_
      refine g_last (ws2 := (outW g A u o1 (vp_updL z (0 : Int32).toNatClampNeg (0 : Int64)))) hC dL_matches_16 17 rfl 0 rfl (vp_in_d (by decide)) rfl ?_
      refine g_goto hC dL_matches_17 24 (by decide) ?_
      refine g_iconst hC (0 : Int32) dL_matches_24 25 rfl iconst_0 ?_
      exact g_iret hC hZ dL_matches_25 ⟨_, _, _, rfl, rfl, h⟩
    · have h := h.2 c
      refine g_lconst hC (1 : Int64) dL_matches_11 12 rfl rfl ?_
      refine g_goto hC dL_matches_12 16 (by decide) ?_
      refine g_last (ws2 := (outW g A u o1 (vp_updL z (0 : Int32).toNatClampNeg (1 : Int64)))) hC dL_matches_16 17 rfl 0 rfl (vp_in_d (by decide)) rfl ?_
      refine g_goto hC dL_matches_17 24 (by decide) ?_
      refine g_iconst hC (0 : Int32) dL_matches_24 25 rfl iconst_0 ?_
      exact g_iret hC hZ dL_matches_25 ⟨_, _, _, rfl, rfl, h⟩
def ww_apply (post : Int32 → Off → (Nat → Int64) → Prop) (E : Off) (z : Nat → Int64) (p0 : Int32) (p1 : Int32) : Prop := wp_X4_apply (fun (v1 : Int32) E1 => post 0 E1 (vp_updL z (0 : Int32).toNatClampNeg v1.toInt64)) (fun i E1 => (i = 3 ∧ post 1 E1 z) ∨ (i = 4 ∧ post 2 E1 z)) E p0 p1
set_option maxRecDepth 100000 in
set_option maxHeartbeats 4000000 in
theorem cw_apply (l : Launch) (g : gE) (A : Nat → Nat → Nat) (u : Nat) (E : Off) (z : Nat → Int64) (p0 : Int32) (p1 : Int32) (post : Int32 → Off → (Nat → Int64) → Prop) (h : ww_apply post E z p0 p1) : FnW l g yL_apply cL_apply 5 (some .int) [(0, 10, 13, 21), (0, 10, 17, 15)] 9 385 4 24 (outW g A u E z) [.ref (A 0 0), .int p0, .int p1, .ref u] (pO (outW g A u) post) := by
  refine FnW.of (by decide) (Nat.le_of_ble_eq_true rfl) (fun x hC hZ hNw hT hst => ?_)
  unfold ww_apply at h
  show G x g 5 0 0 (outW g A u E z) 0 [(0, .ref (A 0 0)), (1, .int p0), (2, .int p1), (3, .ref u)] []
  refine g_aload_n hC dL_apply_0 1 rfl rfl 3 rfl ?_
  refine g_iconst hC (0 : Int32) dL_apply_1 2 rfl iconst_0 ?_
  refine g_aload_n hC dL_apply_2 3 rfl rfl 0 rfl ?_
  refine g_iload_n hC dL_apply_3 4 rfl rfl 1 rfl ?_
  refine g_iload_n hC dL_apply_4 5 rfl rfl 2 rfl ?_
  refine g_callVC hC hNw hst (ct_X4_apply l g A E p0 p1 _ _ h) gY_X4_apply dL_apply_5 8 rfl ml_L_58 [(u, .inl (g.2.1 4, 1, .inr (.inl z)))] [] (by rw [List.append_nil]; rfl) [.int (0 : Int32), .ref u] rfl rfl rfl 0 8 rfl rfl ⟨Nat.le_of_ble_eq_true rfl, Nat.le_of_ble_eq_true rfl⟩ (Nat.le_of_ble_eq_true rfl) ⟨Nat.le_of_ble_eq_true rfl, Nat.le_of_ble_eq_true rfl⟩ ?_ ?_
  · rintro E9 w9 ⟨i9, o9, hi9, rfl, h⟩
    rcases h with ⟨rfl, h⟩ | ⟨rfl, h⟩
    · obtain rfl := Option.some.inj (show some "java/lang/IndexOutOfBoundsException" = some E9 from hi9)
      refine g_catch hC hNw (by simp [gNwL]) [] ⟨0, 10, 13, 21⟩ [⟨0, 10, 17, 15⟩] hT (fun z9 hz9 => nomatch hz9) (by decide) (by decide) cl_L_21 (fun q9 => ?_)
      refine g_ws (ws2 := (outW g A u o9 z)) (by rw [List.append_nil]; rfl) ?_
      refine g_widen (k2 := 4) (n2 := 24) (Nat.le_of_ble_eq_true rfl) (Nat.le_of_ble_eq_true rfl) ?_
      show G x g 5 4 24 (outW g A u o9 z) 13 [(0, .ref (A 0 0)), (1, .int p0), (2, .int p1), (3, .ref u)] [.ref q9]
      refine g_astore (lv2 := [(4, .ref q9), (0, .ref (A 0 0)), (1, .int p0), (2, .int p1), (3, .ref u)]) hC dL_apply_13 15 rfl (by decide) rfl ?_
      refine g_iconst hC (1 : Int32) dL_apply_15 16 rfl iconst_1 ?_
      exact g_iret hC hZ dL_apply_16 ⟨_, _, _, rfl, rfl, h⟩
    · obtain rfl := Option.some.inj (show some "java/lang/UnsupportedOperationException" = some E9 from hi9)
      refine g_catch hC hNw (by simp [gNwL]) [⟨0, 10, 13, 21⟩] ⟨0, 10, 17, 15⟩ [] hT (fun z9 hz9 => by rcases List.mem_singleton.mp hz9 with rfl; exact Or.inr ⟨by decide, _, cl_L_21, g_nc hC 4 3 (by decide) rfl rfl⟩) (by decide) (by decide) cl_L_15 (fun q9 => ?_)
      refine g_ws (ws2 := (outW g A u o9 z)) (by rw [List.append_nil]; rfl) ?_
      refine g_widen (k2 := 4) (n2 := 24) (Nat.le_of_ble_eq_true rfl) (Nat.le_of_ble_eq_true rfl) ?_
      show G x g 5 4 24 (outW g A u o9 z) 17 [(0, .ref (A 0 0)), (1, .int p0), (2, .int p1), (3, .ref u)] [.ref q9]
      refine g_astore (lv2 := [(4, .ref q9), (0, .ref (A 0 0)), (1, .int p0), (2, .int p1), (3, .ref u)]) hC dL_apply_17 19 rfl (by decide) rfl ?_
      refine g_iconst hC (2 : Int32) dL_apply_19 20 rfl iconst_2 ?_
      exact g_iret hC hZ dL_apply_20 ⟨_, _, _, rfl, rfl, h⟩
  · rintro r w1 ⟨v1, o1, rfl, rfl, h⟩
    refine g_ws (ws2 := (outW g A u o1 z)) (by rw [List.append_nil]; rfl) ?_
    refine g_widen (k2 := 4) (n2 := 24) (Nat.le_of_ble_eq_true rfl) (Nat.le_of_ble_eq_true rfl) ?_
    show G x g 5 4 24 (outW g A u o1 z) 8 [(0, .ref (A 0 0)), (1, .int p0), (2, .int p1), (3, .ref u)] [.int v1, .int (0 : Int32), .ref u]
    refine g_i2l hC dL_apply_8 9 rfl ?_
    refine g_last (ws2 := (outW g A u o1 (vp_updL z (0 : Int32).toNatClampNeg v1.toInt64))) hC dL_apply_9 10 rfl 0 rfl (vp_in_d (by decide)) rfl ?_
    refine g_goto hC dL_apply_10 21 (by decide) ?_
    refine g_iconst hC (0 : Int32) dL_apply_21 22 rfl iconst_0 ?_
    exact g_iret hC hZ dL_apply_22 ⟨_, _, _, rfl, rfl, h⟩
def ww_withdraw (post : Int32 → Off → (Nat → Int64) → Prop) (E : Off) (z : Nat → Int64) (p0 : Int32) : Prop := wp_X4_withdraw (fun (v1 : Int32) E1 => post 0 E1 (vp_updL z (0 : Int32).toNatClampNeg v1.toInt64)) (fun i E1 => (i = 3 ∧ post 1 E1 z) ∨ (i = 4 ∧ post 2 E1 z)) E p0
set_option maxRecDepth 100000 in
set_option maxHeartbeats 4000000 in
theorem cw_withdraw (l : Launch) (g : gE) (A : Nat → Nat → Nat) (u : Nat) (E : Off) (z : Nat → Int64) (p0 : Int32) (post : Int32 → Off → (Nat → Int64) → Prop) (h : ww_withdraw post E z p0) : FnW l g yL_withdraw cL_withdraw 4 (some .int) [(0, 9, 12, 21), (0, 9, 15, 15)] 9 384 4 24 (outW g A u E z) [.ref (A 0 0), .int p0, .ref u] (pO (outW g A u) post) := by
  refine FnW.of (by decide) (Nat.le_of_ble_eq_true rfl) (fun x hC hZ hNw hT hst => ?_)
  unfold ww_withdraw at h
  show G x g 4 0 0 (outW g A u E z) 0 [(0, .ref (A 0 0)), (1, .int p0), (2, .ref u)] []
  refine g_aload_n hC dL_withdraw_0 1 rfl rfl 2 rfl ?_
  refine g_iconst hC (0 : Int32) dL_withdraw_1 2 rfl iconst_0 ?_
  refine g_aload_n hC dL_withdraw_2 3 rfl rfl 0 rfl ?_
  refine g_iload_n hC dL_withdraw_3 4 rfl rfl 1 rfl ?_
  refine g_callVC hC hNw hst (ct_X4_withdraw l g A E p0 _ _ h) gY_X4_withdraw dL_withdraw_4 7 rfl ml_L_62 [(u, .inl (g.2.1 4, 1, .inr (.inl z)))] [] (by rw [List.append_nil]; rfl) [.int (0 : Int32), .ref u] rfl rfl rfl 0 8 rfl rfl ⟨Nat.le_of_ble_eq_true rfl, Nat.le_of_ble_eq_true rfl⟩ (Nat.le_of_ble_eq_true rfl) ⟨Nat.le_of_ble_eq_true rfl, Nat.le_of_ble_eq_true rfl⟩ ?_ ?_
  · rintro E9 w9 ⟨i9, o9, hi9, rfl, h⟩
    rcases h with ⟨rfl, h⟩ | ⟨rfl, h⟩
    · obtain rfl := Option.some.inj (show some "java/lang/IndexOutOfBoundsException" = some E9 from hi9)
      refine g_catch hC hNw (by simp [gNwL]) [] ⟨0, 9, 12, 21⟩ [⟨0, 9, 15, 15⟩] hT (fun z9 hz9 => nomatch hz9) (by decide) (by decide) cl_L_21 (fun q9 => ?_)
      refine g_ws (ws2 := (outW g A u o9 z)) (by rw [List.append_nil]; rfl) ?_
      refine g_widen (k2 := 4) (n2 := 24) (Nat.le_of_ble_eq_true rfl) (Nat.le_of_ble_eq_true rfl) ?_
      show G x g 4 4 24 (outW g A u o9 z) 12 [(0, .ref (A 0 0)), (1, .int p0), (2, .ref u)] [.ref q9]
      refine g_astore_n (lv2 := [(3, .ref q9), (0, .ref (A 0 0)), (1, .int p0), (2, .ref u)]) hC dL_withdraw_12 13 rfl rfl (by decide) rfl ?_
      refine g_iconst hC (1 : Int32) dL_withdraw_13 14 rfl iconst_1 ?_
      exact g_iret hC hZ dL_withdraw_14 ⟨_, _, _, rfl, rfl, h⟩
    · obtain rfl := Option.some.inj (show some "java/lang/UnsupportedOperationException" = some E9 from hi9)
      refine g_catch hC hNw (by simp [gNwL]) [⟨0, 9, 12, 21⟩] ⟨0, 9, 15, 15⟩ [] hT (fun z9 hz9 => by rcases List.mem_singleton.mp hz9 with rfl; exact Or.inr ⟨by decide, _, cl_L_21, g_nc hC 4 3 (by decide) rfl rfl⟩) (by decide) (by decide) cl_L_15 (fun q9 => ?_)
      refine g_ws (ws2 := (outW g A u o9 z)) (by rw [List.append_nil]; rfl) ?_
      refine g_widen (k2 := 4) (n2 := 24) (Nat.le_of_ble_eq_true rfl) (Nat.le_of_ble_eq_true rfl) ?_
      show G x g 4 4 24 (outW g A u o9 z) 15 [(0, .ref (A 0 0)), (1, .int p0), (2, .ref u)] [.ref q9]
      refine g_astore_n (lv2 := [(3, .ref q9), (0, .ref (A 0 0)), (1, .int p0), (2, .ref u)]) hC dL_withdraw_15 16 rfl rfl (by decide) rfl ?_
      refine g_iconst hC (2 : Int32) dL_withdraw_16 17 rfl iconst_2 ?_
      exact g_iret hC hZ dL_withdraw_17 ⟨_, _, _, rfl, rfl, h⟩
  · rintro r w1 ⟨v1, o1, rfl, rfl, h⟩
    refine g_ws (ws2 := (outW g A u o1 z)) (by rw [List.append_nil]; rfl) ?_
    refine g_widen (k2 := 4) (n2 := 24) (Nat.le_of_ble_eq_true rfl) (Nat.le_of_ble_eq_true rfl) ?_
    show G x g 4 4 24 (outW g A u o1 z) 7 [(0, .ref (A 0 0)), (1, .int p0), (2, .ref u)] [.int v1, .int (0 : Int32), .ref u]
    refine g_i2l hC dL_withdraw_7 8 rfl ?_
    refine g_last (ws2 := (outW g A u o1 (vp_updL z (0 : Int32).toNatClampNeg v1.toInt64))) hC dL_withdraw_8 9 rfl 0 rfl (vp_in_d (by decide)) rfl ?_
    refine g_goto hC dL_withdraw_9 18 (by decide) ?_
    refine g_iconst hC (0 : Int32) dL_withdraw_18 19 rfl iconst_0 ?_
    exact g_iret hC hZ dL_withdraw_19 ⟨_, _, _, rfl, rfl, h⟩
def ww_appeal (post : Int32 → Off → (Nat → Int64) → Prop) (E : Off) (z : Nat → Int64) (p0 : Int32) : Prop := wp_X4_appeal (fun (v1 : Int32) E1 => post 0 E1 (vp_updL z (0 : Int32).toNatClampNeg v1.toInt64)) (fun i E1 => (i = 3 ∧ post 1 E1 z) ∨ (i = 4 ∧ post 2 E1 z)) E p0
set_option maxRecDepth 100000 in
set_option maxHeartbeats 4000000 in
theorem cw_appeal (l : Launch) (g : gE) (A : Nat → Nat → Nat) (u : Nat) (E : Off) (z : Nat → Int64) (p0 : Int32) (post : Int32 → Off → (Nat → Int64) → Prop) (h : ww_appeal post E z p0) : FnW l g yL_appeal cL_appeal 4 (some .int) [(0, 9, 12, 21), (0, 9, 15, 15)] 9 384 4 24 (outW g A u E z) [.ref (A 0 0), .int p0, .ref u] (pO (outW g A u) post) := by
  refine FnW.of (by decide) (Nat.le_of_ble_eq_true rfl) (fun x hC hZ hNw hT hst => ?_)
  unfold ww_appeal at h
  show G x g 4 0 0 (outW g A u E z) 0 [(0, .ref (A 0 0)), (1, .int p0), (2, .ref u)] []
  refine g_aload_n hC dL_appeal_0 1 rfl rfl 2 rfl ?_
  refine g_iconst hC (0 : Int32) dL_appeal_1 2 rfl iconst_0 ?_
  refine g_aload_n hC dL_appeal_2 3 rfl rfl 0 rfl ?_
  refine g_iload_n hC dL_appeal_3 4 rfl rfl 1 rfl ?_
  refine g_callVC hC hNw hst (ct_X4_appeal l g A E p0 _ _ h) gY_X4_appeal dL_appeal_4 7 rfl ml_L_65 [(u, .inl (g.2.1 4, 1, .inr (.inl z)))] [] (by rw [List.append_nil]; rfl) [.int (0 : Int32), .ref u] rfl rfl rfl 0 8 rfl rfl ⟨Nat.le_of_ble_eq_true rfl, Nat.le_of_ble_eq_true rfl⟩ (Nat.le_of_ble_eq_true rfl) ⟨Nat.le_of_ble_eq_true rfl, Nat.le_of_ble_eq_true rfl⟩ ?_ ?_
  · rintro E9 w9 ⟨i9, o9, hi9, rfl, h⟩
    rcases h with ⟨rfl, h⟩ | ⟨rfl, h⟩
    · obtain rfl := Option.some.inj (show some "java/lang/IndexOutOfBoundsException" = some E9 from hi9)
      refine g_catch hC hNw (by simp [gNwL]) [] ⟨0, 9, 12, 21⟩ [⟨0, 9, 15, 15⟩] hT (fun z9 hz9 => nomatch hz9) (by decide) (by decide) cl_L_21 (fun q9 => ?_)
      refine g_ws (ws2 := (outW g A u o9 z)) (by rw [List.append_nil]; rfl) ?_
      refine g_widen (k2 := 4) (n2 := 24) (Nat.le_of_ble_eq_true rfl) (Nat.le_of_ble_eq_true rfl) ?_
      show G x g 4 4 24 (outW g A u o9 z) 12 [(0, .ref (A 0 0)), (1, .int p0), (2, .ref u)] [.ref q9]
      refine g_astore_n (lv2 := [(3, .ref q9), (0, .ref (A 0 0)), (1, .int p0), (2, .ref u)]) hC dL_appeal_12 13 rfl rfl (by decide) rfl ?_
      refine g_iconst hC (1 : Int32) dL_appeal_13 14 rfl iconst_1 ?_
      exact g_iret hC hZ dL_appeal_14 ⟨_, _, _, rfl, rfl, h⟩
    · obtain rfl := Option.some.inj (show some "java/lang/UnsupportedOperationException" = some E9 from hi9)
      refine g_catch hC hNw (by simp [gNwL]) [⟨0, 9, 12, 21⟩] ⟨0, 9, 15, 15⟩ [] hT (fun z9 hz9 => by rcases List.mem_singleton.mp hz9 with rfl; exact Or.inr ⟨by decide, _, cl_L_21, g_nc hC 4 3 (by decide) rfl rfl⟩) (by decide) (by decide) cl_L_15 (fun q9 => ?_)
      refine g_ws (ws2 := (outW g A u o9 z)) (by rw [List.append_nil]; rfl) ?_
      refine g_widen (k2 := 4) (n2 := 24) (Nat.le_of_ble_eq_true rfl) (Nat.le_of_ble_eq_true rfl) ?_
      show G x g 4 4 24 (outW g A u o9 z) 15 [(0, .ref (A 0 0)), (1, .int p0), (2, .ref u)] [.ref q9]
      refine g_astore_n (lv2 := [(3, .ref q9), (0, .ref (A 0 0)), (1, .int p0), (2, .ref u)]) hC dL_appeal_15 16 rfl rfl (by decide) rfl ?_
      refine g_iconst hC (2 : Int32) dL_appeal_16 17 rfl iconst_2 ?_
      exact g_iret hC hZ dL_appeal_17 ⟨_, _, _, rfl, rfl, h⟩
  · rintro r w1 ⟨v1, o1, rfl, rfl, h⟩
    refine g_ws (ws2 := (outW g A u o1 z)) (by rw [List.append_nil]; rfl) ?_
    refine g_widen (k2 := 4) (n2 := 24) (Nat.le_of_ble_eq_true rfl) (Nat.le_of_ble_eq_true rfl) ?_
    show G x g 4 4 24 (outW g A u o1 z) 7 [(0, .ref (A 0 0)), (1, .int p0), (2, .ref u)] [.int v1, .int (0 : Int32), .ref u]
    refine g_i2l hC dL_appeal_7 8 rfl ?_
    refine g_last (ws2 := (outW g A u o1 (vp_updL z (0 : Int32).toNatClampNeg v1.toInt64))) hC dL_appeal_8 9 rfl 0 rfl (vp_in_d (by decide)) rfl ?_
    refine g_goto hC dL_appeal_9 18 (by decide) ?_
    refine g_iconst hC (0 : Int32) dL_appeal_18 19 rfl iconst_0 ?_
    exact g_iret hC hZ dL_appeal_19 ⟨_, _, _, rfl, rfl, h⟩
def ww_decide (post : Int32 → Off → (Nat → Int64) → Prop) (E : Off) (z : Nat → Int64) (p0 : Int32) : Prop := wp_X4_decide (fun (v1 : Int32) E1 => post 0 E1 (vp_updL z (0 : Int32).toNatClampNeg v1.toInt64)) (fun i E1 => (i = 3 ∧ post 1 E1 z)) E p0
set_option maxRecDepth 100000 in
set_option maxHeartbeats 4000000 in
theorem cw_decide (l : Launch) (g : gE) (A : Nat → Nat → Nat) (u : Nat) (E : Off) (z : Nat → Int64) (p0 : Int32) (post : Int32 → Off → (Nat → Int64) → Prop) (h : ww_decide post E z p0) : FnW l g yL_decide cL_decide 4 (some .int) [(0, 9, 12, 21)] 9 384 4 24 (outW g A u E z) [.ref (A 0 0), .int p0, .ref u] (pO (outW g A u) post) := by
  refine FnW.of (by decide) (Nat.le_of_ble_eq_true rfl) (fun x hC hZ hNw hT hst => ?_)
  unfold ww_decide at h
  show G x g 4 0 0 (outW g A u E z) 0 [(0, .ref (A 0 0)), (1, .int p0), (2, .ref u)] []
  refine g_aload_n hC dL_decide_0 1 rfl rfl 2 rfl ?_
  refine g_iconst hC (0 : Int32) dL_decide_1 2 rfl iconst_0 ?_
  refine g_aload_n hC dL_decide_2 3 rfl rfl 0 rfl ?_
  refine g_iload_n hC dL_decide_3 4 rfl rfl 1 rfl ?_
  refine g_callVC hC hNw hst (ct_X4_decide l g A E p0 _ _ h) gY_X4_decide dL_decide_4 7 rfl ml_L_68 [(u, .inl (g.2.1 4, 1, .inr (.inl z)))] [] (by rw [List.append_nil]; rfl) [.int (0 : Int32), .ref u] rfl rfl rfl 0 8 rfl rfl ⟨Nat.le_of_ble_eq_true rfl, Nat.le_of_ble_eq_true rfl⟩ (Nat.le_of_ble_eq_true rfl) ⟨Nat.le_of_ble_eq_true rfl, Nat.le_of_ble_eq_true rfl⟩ ?_ ?_
  · rintro E9 w9 ⟨i9, o9, hi9, rfl, h⟩
    obtain ⟨rfl, h⟩ := h
    obtain rfl := Option.some.inj (show some "java/lang/IndexOutOfBoundsException" = some E9 from hi9)
    refine g_catch hC hNw (by simp [gNwL]) [] ⟨0, 9, 12, 21⟩ [] hT (fun z9 hz9 => nomatch hz9) (by decide) (by decide) cl_L_21 (fun q9 => ?_)
    refine g_ws (ws2 := (outW g A u o9 z)) (by rw [List.append_nil]; rfl) ?_
    refine g_widen (k2 := 4) (n2 := 24) (Nat.le_of_ble_eq_true rfl) (Nat.le_of_ble_eq_true rfl) ?_
    show G x g 4 4 24 (outW g A u o9 z) 12 [(0, .ref (A 0 0)), (1, .int p0), (2, .ref u)] [.ref q9]
    refine g_astore_n (lv2 := [(3, .ref q9), (0, .ref (A 0 0)), (1, .int p0), (2, .ref u)]) hC dL_decide_12 13 rfl rfl (by decide) rfl ?_
    refine g_iconst hC (1 : Int32) dL_decide_13 14 rfl iconst_1 ?_
    exact g_iret hC hZ dL_decide_14 ⟨_, _, _, rfl, rfl, h⟩
  · rintro r w1 ⟨v1, o1, rfl, rfl, h⟩
    refine g_ws (ws2 := (outW g A u o1 z)) (by rw [List.append_nil]; rfl) ?_
    refine g_widen (k2 := 4) (n2 := 24) (Nat.le_of_ble_eq_true rfl) (Nat.le_of_ble_eq_true rfl) ?_
    show G x g 4 4 24 (outW g A u o1 z) 7 [(0, .ref (A 0 0)), (1, .int p0), (2, .ref u)] [.int v1, .int (0 : Int32), .ref u]
    refine g_i2l hC dL_decide_7 8 rfl ?_
    refine g_last (ws2 := (outW g A u o1 (vp_updL z (0 : Int32).toNatClampNeg v1.toInt64))) hC dL_decide_8 9 rfl 0 rfl (vp_in_d (by decide)) rfl ?_
    refine g_goto hC dL_decide_9 15 (by decide) ?_
    refine g_iconst hC (0 : Int32) dL_decide_15 16 rfl iconst_0 ?_
    exact g_iret hC hZ dL_decide_16 ⟨_, _, _, rfl, rfl, h⟩
def ww_wouldAdmit (post : Int32 → Off → (Nat → Int64) → Prop) (E : Off) (z : Nat → Int64) (p0 : Int32) : Prop := wp_X4_wouldAdmit (fun (v1 : Int32) E1 => post 0 E1 (vp_updL z (0 : Int32).toNatClampNeg v1.toInt64)) (fun i E1 => (i = 3 ∧ post 1 E1 z)) E p0
set_option maxRecDepth 100000 in
set_option maxHeartbeats 4000000 in
theorem cw_wouldAdmit (l : Launch) (g : gE) (A : Nat → Nat → Nat) (u : Nat) (E : Off) (z : Nat → Int64) (p0 : Int32) (post : Int32 → Off → (Nat → Int64) → Prop) (h : ww_wouldAdmit post E z p0) : FnW l g yL_wouldAdmit cL_wouldAdmit 4 (some .int) [(0, 9, 12, 21)] 9 157 1 6 (outW g A u E z) [.ref (A 0 0), .int p0, .ref u] (pO (outW g A u) post) := by
  refine FnW.of (by decide) (Nat.le_of_ble_eq_true rfl) (fun x hC hZ hNw hT hst => ?_)
  unfold ww_wouldAdmit at h
  show G x g 4 0 0 (outW g A u E z) 0 [(0, .ref (A 0 0)), (1, .int p0), (2, .ref u)] []
  refine g_aload_n hC dL_wouldAdmit_0 1 rfl rfl 2 rfl ?_
  refine g_iconst hC (0 : Int32) dL_wouldAdmit_1 2 rfl iconst_0 ?_
  refine g_aload_n hC dL_wouldAdmit_2 3 rfl rfl 0 rfl ?_
  refine g_iload_n hC dL_wouldAdmit_3 4 rfl rfl 1 rfl ?_
  refine g_callVC hC hNw hst (ct_X4_wouldAdmit l g A E p0 _ _ h) gY_X4_wouldAdmit dL_wouldAdmit_4 7 rfl ml_L_71 [(u, .inl (g.2.1 4, 1, .inr (.inl z)))] [] (by rw [List.append_nil]; rfl) [.int (0 : Int32), .ref u] rfl rfl rfl 0 8 rfl rfl ⟨Nat.le_of_ble_eq_true rfl, Nat.le_of_ble_eq_true rfl⟩ (Nat.le_of_ble_eq_true rfl) ⟨Nat.le_of_ble_eq_true rfl, Nat.le_of_ble_eq_true rfl⟩ ?_ ?_
  · rintro E9 w9 ⟨i9, o9, hi9, rfl, h⟩
    obtain ⟨rfl, h⟩ := h
    obtain rfl := Option.some.inj (show some "java/lang/IndexOutOfBoundsException" = some E9 from hi9)
    refine g_catch hC hNw (by simp [gNwL]) [] ⟨0, 9, 12, 21⟩ [] hT (fun z9 hz9 => nomatch hz9) (by decide) (by decide) cl_L_21 (fun q9 => ?_)
    refine g_ws (ws2 := (outW g A u o9 z)) (by rw [List.append_nil]; rfl) ?_
    refine g_widen (k2 := 1) (n2 := 6) (Nat.le_of_ble_eq_true rfl) (Nat.le_of_ble_eq_true rfl) ?_
    show G x g 4 1 6 (outW g A u o9 z) 12 [(0, .ref (A 0 0)), (1, .int p0), (2, .ref u)] [.ref q9]
    refine g_astore_n (lv2 := [(3, .ref q9), (0, .ref (A 0 0)), (1, .int p0), (2, .ref u)]) hC dL_wouldAdmit_12 13 rfl rfl (by decide) rfl ?_
    refine g_iconst hC (1 : Int32) dL_wouldAdmit_13 14 rfl iconst_1 ?_
    exact g_iret hC hZ dL_wouldAdmit_14 ⟨_, _, _, rfl, rfl, h⟩
  · rintro r w1 ⟨v1, o1, rfl, rfl, h⟩
    refine g_ws (ws2 := (outW g A u o1 z)) (by rw [List.append_nil]; rfl) ?_
    refine g_widen (k2 := 1) (n2 := 6) (Nat.le_of_ble_eq_true rfl) (Nat.le_of_ble_eq_true rfl) ?_
    show G x g 4 1 6 (outW g A u o1 z) 7 [(0, .ref (A 0 0)), (1, .int p0), (2, .ref u)] [.int v1, .int (0 : Int32), .ref u]
    refine g_i2l hC dL_wouldAdmit_7 8 rfl ?_
    refine g_last (ws2 := (outW g A u o1 (vp_updL z (0 : Int32).toNatClampNeg v1.toInt64))) hC dL_wouldAdmit_8 9 rfl 0 rfl (vp_in_d (by decide)) rfl ?_
    refine g_goto hC dL_wouldAdmit_9 15 (by decide) ?_
    refine g_iconst hC (0 : Int32) dL_wouldAdmit_15 16 rfl iconst_0 ?_
    exact g_iret hC hZ dL_wouldAdmit_16 ⟨_, _, _, rfl, rfl, h⟩
def ww_queueAt (post : Int32 → Off → (Nat → Int64) → Prop) (E : Off) (z : Nat → Int64) (p0 : Int32) (p1 : Int32) : Prop := wp_X4_queueAt (fun (v1 : Int32) E1 => post 0 E1 (vp_updL z (0 : Int32).toNatClampNeg v1.toInt64)) (fun i E1 => (i = 3 ∧ post 1 E1 z) ∨ (i = 5 ∧ post 2 E1 z)) E p0 p1
set_option maxRecDepth 100000 in
set_option maxHeartbeats 4000000 in
theorem cw_queueAt (l : Launch) (g : gE) (A : Nat → Nat → Nat) (u : Nat) (E : Off) (z : Nat → Int64) (p0 : Int32) (p1 : Int32) (post : Int32 → Off → (Nat → Int64) → Prop) (h : ww_queueAt post E z p0 p1) : FnW l g yL_queueAt cL_queueAt 5 (some .int) [(0, 10, 13, 21), (0, 10, 17, 43)] 9 155 2 12 (outW g A u E z) [.ref (A 0 0), .int p0, .int p1, .ref u] (pO (outW g A u) post) := by
  refine FnW.of (by decide) (Nat.le_of_ble_eq_true rfl) (fun x hC hZ hNw hT hst => ?_)
  unfold ww_queueAt at h
  show G x g 5 0 0 (outW g A u E z) 0 [(0, .ref (A 0 0)), (1, .int p0), (2, .int p1), (3, .ref u)] []
  refine g_aload_n hC dL_queueAt_0 1 rfl rfl 3 rfl ?_
  refine g_iconst hC (0 : Int32) dL_queueAt_1 2 rfl iconst_0 ?_
  refine g_aload_n hC dL_queueAt_2 3 rfl rfl 0 rfl ?_
  refine g_iload_n hC dL_queueAt_3 4 rfl rfl 1 rfl ?_
  refine g_iload_n hC dL_queueAt_4 5 rfl rfl 2 rfl ?_
  refine g_callVC hC hNw hst (ct_X4_queueAt l g A E p0 p1 _ _ h) gY_X4_queueAt dL_queueAt_5 8 rfl ml_L_74 [(u, .inl (g.2.1 4, 1, .inr (.inl z)))] [] (by rw [List.append_nil]; rfl) [.int (0 : Int32), .ref u] rfl rfl rfl 0 8 rfl rfl ⟨Nat.le_of_ble_eq_true rfl, Nat.le_of_ble_eq_true rfl⟩ (Nat.le_of_ble_eq_true rfl) ⟨Nat.le_of_ble_eq_true rfl, Nat.le_of_ble_eq_true rfl⟩ ?_ ?_
  · rintro E9 w9 ⟨i9, o9, hi9, rfl, h⟩
    rcases h with ⟨rfl, h⟩ | ⟨rfl, h⟩
    · obtain rfl := Option.some.inj (show some "java/lang/IndexOutOfBoundsException" = some E9 from hi9)
      refine g_catch hC hNw (by simp [gNwL]) [] ⟨0, 10, 13, 21⟩ [⟨0, 10, 17, 43⟩] hT (fun z9 hz9 => nomatch hz9) (by decide) (by decide) cl_L_21 (fun q9 => ?_)
      refine g_ws (ws2 := (outW g A u o9 z)) (by rw [List.append_nil]; rfl) ?_
      refine g_widen (k2 := 2) (n2 := 12) (Nat.le_of_ble_eq_true rfl) (Nat.le_of_ble_eq_true rfl) ?_
      show G x g 5 2 12 (outW g A u o9 z) 13 [(0, .ref (A 0 0)), (1, .int p0), (2, .int p1), (3, .ref u)] [.ref q9]
      refine g_astore (lv2 := [(4, .ref q9), (0, .ref (A 0 0)), (1, .int p0), (2, .int p1), (3, .ref u)]) hC dL_queueAt_13 15 rfl (by decide) rfl ?_
      refine g_iconst hC (1 : Int32) dL_queueAt_15 16 rfl iconst_1 ?_
      exact g_iret hC hZ dL_queueAt_16 ⟨_, _, _, rfl, rfl, h⟩
    · obtain rfl := Option.some.inj (show some "java/util/NoSuchElementException" = some E9 from hi9)
      refine g_catch hC hNw (by simp [gNwL]) [⟨0, 10, 13, 21⟩] ⟨0, 10, 17, 43⟩ [] hT (fun z9 hz9 => by rcases List.mem_singleton.mp hz9 with rfl; exact Or.inr ⟨by decide, _, cl_L_21, g_nc hC 5 3 (by decide) rfl rfl⟩) (by decide) (by decide) cl_L_43 (fun q9 => ?_)
      refine g_ws (ws2 := (outW g A u o9 z)) (by rw [List.append_nil]; rfl) ?_
      refine g_widen (k2 := 2) (n2 := 12) (Nat.le_of_ble_eq_true rfl) (Nat.le_of_ble_eq_true rfl) ?_
      show G x g 5 2 12 (outW g A u o9 z) 17 [(0, .ref (A 0 0)), (1, .int p0), (2, .int p1), (3, .ref u)] [.ref q9]
      refine g_astore (lv2 := [(4, .ref q9), (0, .ref (A 0 0)), (1, .int p0), (2, .int p1), (3, .ref u)]) hC dL_queueAt_17 19 rfl (by decide) rfl ?_
      refine g_iconst hC (2 : Int32) dL_queueAt_19 20 rfl iconst_2 ?_
      exact g_iret hC hZ dL_queueAt_20 ⟨_, _, _, rfl, rfl, h⟩
  · rintro r w1 ⟨v1, o1, rfl, rfl, h⟩
    refine g_ws (ws2 := (outW g A u o1 z)) (by rw [List.append_nil]; rfl) ?_
    refine g_widen (k2 := 2) (n2 := 12) (Nat.le_of_ble_eq_true rfl) (Nat.le_of_ble_eq_true rfl) ?_
    show G x g 5 2 12 (outW g A u o1 z) 8 [(0, .ref (A 0 0)), (1, .int p0), (2, .int p1), (3, .ref u)] [.int v1, .int (0 : Int32), .ref u]
    refine g_i2l hC dL_queueAt_8 9 rfl ?_
    refine g_last (ws2 := (outW g A u o1 (vp_updL z (0 : Int32).toNatClampNeg v1.toInt64))) hC dL_queueAt_9 10 rfl 0 rfl (vp_in_d (by decide)) rfl ?_
    refine g_goto hC dL_queueAt_10 21 (by decide) ?_
    refine g_iconst hC (0 : Int32) dL_queueAt_21 22 rfl iconst_0 ?_
    exact g_iret hC hZ dL_queueAt_22 ⟨_, _, _, rfl, rfl, h⟩
def ww_pendingCount (post : Int32 → Off → (Nat → Int64) → Prop) (E : Off) (z : Nat → Int64) (p0 : Int32) : Prop := wp_X4_pendingCount (fun (v1 : Int32) E1 => post 0 E1 (vp_updL z (0 : Int32).toNatClampNeg v1.toInt64)) (fun i E1 => (i = 3 ∧ post 1 E1 z)) E p0
set_option maxRecDepth 100000 in
set_option maxHeartbeats 4000000 in
theorem cw_pendingCount (l : Launch) (g : gE) (A : Nat → Nat → Nat) (u : Nat) (E : Off) (z : Nat → Int64) (p0 : Int32) (post : Int32 → Off → (Nat → Int64) → Prop) (h : ww_pendingCount post E z p0) : FnW l g yL_pendingCount cL_pendingCount 4 (some .int) [(0, 9, 12, 21)] 9 153 1 6 (outW g A u E z) [.ref (A 0 0), .int p0, .ref u] (pO (outW g A u) post) := by
  refine FnW.of (by decide) (Nat.le_of_ble_eq_true rfl) (fun x hC hZ hNw hT hst => ?_)
  unfold ww_pendingCount at h
  show G x g 4 0 0 (outW g A u E z) 0 [(0, .ref (A 0 0)), (1, .int p0), (2, .ref u)] []
  refine g_aload_n hC dL_pendingCount_0 1 rfl rfl 2 rfl ?_
  refine g_iconst hC (0 : Int32) dL_pendingCount_1 2 rfl iconst_0 ?_
  refine g_aload_n hC dL_pendingCount_2 3 rfl rfl 0 rfl ?_
  refine g_iload_n hC dL_pendingCount_3 4 rfl rfl 1 rfl ?_
  refine g_callVC hC hNw hst (ct_X4_pendingCount l g A E p0 _ _ h) gY_X4_pendingCount dL_pendingCount_4 7 rfl ml_L_77 [(u, .inl (g.2.1 4, 1, .inr (.inl z)))] [] (by rw [List.append_nil]; rfl) [.int (0 : Int32), .ref u] rfl rfl rfl 0 8 rfl rfl ⟨Nat.le_of_ble_eq_true rfl, Nat.le_of_ble_eq_true rfl⟩ (Nat.le_of_ble_eq_true rfl) ⟨Nat.le_of_ble_eq_true rfl, Nat.le_of_ble_eq_true rfl⟩ ?_ ?_
  · rintro E9 w9 ⟨i9, o9, hi9, rfl, h⟩
    obtain ⟨rfl, h⟩ := h
    obtain rfl := Option.some.inj (show some "java/lang/IndexOutOfBoundsException" = some E9 from hi9)
    refine g_catch hC hNw (by simp [gNwL]) [] ⟨0, 9, 12, 21⟩ [] hT (fun z9 hz9 => nomatch hz9) (by decide) (by decide) cl_L_21 (fun q9 => ?_)
    refine g_ws (ws2 := (outW g A u o9 z)) (by rw [List.append_nil]; rfl) ?_
    refine g_widen (k2 := 1) (n2 := 6) (Nat.le_of_ble_eq_true rfl) (Nat.le_of_ble_eq_true rfl) ?_
    show G x g 4 1 6 (outW g A u o9 z) 12 [(0, .ref (A 0 0)), (1, .int p0), (2, .ref u)] [.ref q9]
    refine g_astore_n (lv2 := [(3, .ref q9), (0, .ref (A 0 0)), (1, .int p0), (2, .ref u)]) hC dL_pendingCount_12 13 rfl rfl (by decide) rfl ?_
    refine g_iconst hC (1 : Int32) dL_pendingCount_13 14 rfl iconst_1 ?_
    exact g_iret hC hZ dL_pendingCount_14 ⟨_, _, _, rfl, rfl, h⟩
  · rintro r w1 ⟨v1, o1, rfl, rfl, h⟩
    refine g_ws (ws2 := (outW g A u o1 z)) (by rw [List.append_nil]; rfl) ?_
    refine g_widen (k2 := 1) (n2 := 6) (Nat.le_of_ble_eq_true rfl) (Nat.le_of_ble_eq_true rfl) ?_
    show G x g 4 1 6 (outW g A u o1 z) 7 [(0, .ref (A 0 0)), (1, .int p0), (2, .ref u)] [.int v1, .int (0 : Int32), .ref u]
    refine g_i2l hC dL_pendingCount_7 8 rfl ?_
    refine g_last (ws2 := (outW g A u o1 (vp_updL z (0 : Int32).toNatClampNeg v1.toInt64))) hC dL_pendingCount_8 9 rfl 0 rfl (vp_in_d (by decide)) rfl ?_
    refine g_goto hC dL_pendingCount_9 15 (by decide) ?_
    refine g_iconst hC (0 : Int32) dL_pendingCount_15 16 rfl iconst_0 ?_
    exact g_iret hC hZ dL_pendingCount_16 ⟨_, _, _, rfl, rfl, h⟩
def ww_renew (post : Int32 → Off → (Nat → Int64) → Prop) (E : Off) (z : Nat → Int64) (p0 : Int32) (p1 : Int32) : Prop := wp_X4_renew (fun (v1 : Int32) E1 => post 0 E1 (vp_updL z (0 : Int32).toNatClampNeg v1.toInt64)) (fun i E1 => (i = 3 ∧ post 1 E1 z) ∨ (i = 1 ∧ post 2 E1 z) ∨ (i = 4 ∧ post 3 E1 z)) E p0 p1
set_option maxRecDepth 100000 in
set_option maxHeartbeats 4000000 in
theorem cw_renew (l : Launch) (g : gE) (A : Nat → Nat → Nat) (u : Nat) (E : Off) (z : Nat → Int64) (p0 : Int32) (p1 : Int32) (post : Int32 → Off → (Nat → Int64) → Prop) (h : ww_renew post E z p0 p1) : FnW l g yL_renew cL_renew 5 (some .int) [(0, 10, 13, 21), (0, 10, 17, 13), (0, 10, 21, 15)] 9 385 4 24 (outW g A u E z) [.ref (A 0 0), .int p0, .int p1, .ref u] (pO (outW g A u) post) := by
  refine FnW.of (by decide) (Nat.le_of_ble_eq_true rfl) (fun x hC hZ hNw hT hst => ?_)
  unfold ww_renew at h
  show G x g 5 0 0 (outW g A u E z) 0 [(0, .ref (A 0 0)), (1, .int p0), (2, .int p1), (3, .ref u)] []
  refine g_aload_n hC dL_renew_0 1 rfl rfl 3 rfl ?_
  refine g_iconst hC (0 : Int32) dL_renew_1 2 rfl iconst_0 ?_
  refine g_aload_n hC dL_renew_2 3 rfl rfl 0 rfl ?_
  refine g_iload_n hC dL_renew_3 4 rfl rfl 1 rfl ?_
  refine g_iload_n hC dL_renew_4 5 rfl rfl 2 rfl ?_
  refine g_callVC hC hNw hst (ct_X4_renew l g A E p0 p1 _ _ h) gY_X4_renew dL_renew_5 8 rfl ml_L_80 [(u, .inl (g.2.1 4, 1, .inr (.inl z)))] [] (by rw [List.append_nil]; rfl) [.int (0 : Int32), .ref u] rfl rfl rfl 0 8 rfl rfl ⟨Nat.le_of_ble_eq_true rfl, Nat.le_of_ble_eq_true rfl⟩ (Nat.le_of_ble_eq_true rfl) ⟨Nat.le_of_ble_eq_true rfl, Nat.le_of_ble_eq_true rfl⟩ ?_ ?_
  · rintro E9 w9 ⟨i9, o9, hi9, rfl, h⟩
    rcases h with ⟨rfl, h⟩ | ⟨rfl, h⟩ | ⟨rfl, h⟩
    · obtain rfl := Option.some.inj (show some "java/lang/IndexOutOfBoundsException" = some E9 from hi9)
      refine g_catch hC hNw (by simp [gNwL]) [] ⟨0, 10, 13, 21⟩ [⟨0, 10, 17, 13⟩, ⟨0, 10, 21, 15⟩] hT (fun z9 hz9 => nomatch hz9) (by decide) (by decide) cl_L_21 (fun q9 => ?_)
      refine g_ws (ws2 := (outW g A u o9 z)) (by rw [List.append_nil]; rfl) ?_
      refine g_widen (k2 := 4) (n2 := 24) (Nat.le_of_ble_eq_true rfl) (Nat.le_of_ble_eq_true rfl) ?_
      show G x g 5 4 24 (outW g A u o9 z) 13 [(0, .ref (A 0 0)), (1, .int p0), (2, .int p1), (3, .ref u)] [.ref q9]
      refine g_astore (lv2 := [(4, .ref q9), (0, .ref (A 0 0)), (1, .int p0), (2, .int p1), (3, .ref u)]) hC dL_renew_13 15 rfl (by decide) rfl ?_
      refine g_iconst hC (1 : Int32) dL_renew_15 16 rfl iconst_1 ?_
      exact g_iret hC hZ dL_renew_16 ⟨_, _, _, rfl, rfl, h⟩
    · obtain rfl := Option.some.inj (show some "java/lang/IllegalArgumentException" = some E9 from hi9)
      refine g_catch hC hNw (by simp [gNwL]) [⟨0, 10, 13, 21⟩] ⟨0, 10, 17, 13⟩ [⟨0, 10, 21, 15⟩] hT (fun z9 hz9 => by rcases List.mem_singleton.mp hz9 with rfl; exact Or.inr ⟨by decide, _, cl_L_21, g_nc hC 1 3 (by decide) rfl rfl⟩) (by decide) (by decide) cl_L_13 (fun q9 => ?_)
      refine g_ws (ws2 := (outW g A u o9 z)) (by rw [List.append_nil]; rfl) ?_
      refine g_widen (k2 := 4) (n2 := 24) (Nat.le_of_ble_eq_true rfl) (Nat.le_of_ble_eq_true rfl) ?_
      show G x g 5 4 24 (outW g A u o9 z) 17 [(0, .ref (A 0 0)), (1, .int p0), (2, .int p1), (3, .ref u)] [.ref q9]
      refine g_astore (lv2 := [(4, .ref q9), (0, .ref (A 0 0)), (1, .int p0), (2, .int p1), (3, .ref u)]) hC dL_renew_17 19 rfl (by decide) rfl ?_
      refine g_iconst hC (2 : Int32) dL_renew_19 20 rfl iconst_2 ?_
      exact g_iret hC hZ dL_renew_20 ⟨_, _, _, rfl, rfl, h⟩
    · obtain rfl := Option.some.inj (show some "java/lang/UnsupportedOperationException" = some E9 from hi9)
      have hp9 : ∀ z9 ∈ ([⟨0, 10, 13, 21⟩, ⟨0, 10, 17, 13⟩] : List ExceptionTableEntry), covers z9 5 = false ∨ (z9.catchType ≠ 0 ∧ ∃ nm : String, Cond.classLink RL z9.catchType nm ∈ lw_all ∧ va_Nc "java/lang/UnsupportedOperationException" nm (x_s x)) := by
        intro z9 hz9
        rcases List.mem_cons.mp hz9 with rfl | hz9
        · exact Or.inr ⟨by decide, _, cl_L_21, g_nc hC 4 3 (by decide) rfl rfl⟩
        · rcases List.mem_singleton.mp hz9 with rfl; exact Or.inr ⟨by decide, _, cl_L_13, g_nc hC 4 1 (by decide) rfl rfl⟩
      refine g_catch hC hNw (by simp [gNwL]) [⟨0, 10, 13, 21⟩, ⟨0, 10, 17, 13⟩] ⟨0, 10, 21, 15⟩ [] hT hp9 (by decide) (by decide) cl_L_15 (fun q9 => ?_)
      refine g_ws (ws2 := (outW g A u o9 z)) (by rw [List.append_nil]; rfl) ?_
      refine g_widen (k2 := 4) (n2 := 24) (Nat.le_of_ble_eq_true rfl) (Nat.le_of_ble_eq_true rfl) ?_
      show G x g 5 4 24 (outW g A u o9 z) 21 [(0, .ref (A 0 0)), (1, .int p0), (2, .int p1), (3, .ref u)] [.ref q9]
      refine g_astore (lv2 := [(4, .ref q9), (0, .ref (A 0 0)), (1, .int p0), (2, .int p1), (3, .ref u)]) hC dL_renew_21 23 rfl (by decide) rfl ?_
      refine g_iconst hC (3 : Int32) dL_renew_23 24 rfl iconst_3 ?_
      exact g_iret hC hZ dL_renew_24 ⟨_, _, _, rfl, rfl, h⟩
  · rintro r w1 ⟨v1, o1, rfl, rfl, h⟩
    refine g_ws (ws2 := (outW g A u o1 z)) (by rw [List.append_nil]; rfl) ?_
    refine g_widen (k2 := 4) (n2 := 24) (Nat.le_of_ble_eq_true rfl) (Nat.le_of_ble_eq_true rfl) ?_
    show G x g 5 4 24 (outW g A u o1 z) 8 [(0, .ref (A 0 0)), (1, .int p0), (2, .int p1), (3, .ref u)] [.int v1, .int (0 : Int32), .ref u]
    refine g_i2l hC dL_renew_8 9 rfl ?_
    refine g_last (ws2 := (outW g A u o1 (vp_updL z (0 : Int32).toNatClampNeg v1.toInt64))) hC dL_renew_9 10 rfl 0 rfl (vp_in_d (by decide)) rfl ?_
    refine g_goto hC dL_renew_10 25 (by decide) ?_
    refine g_iconst hC (0 : Int32) dL_renew_25 26 rfl iconst_0 ?_
    exact g_iret hC hZ dL_renew_26 ⟨_, _, _, rfl, rfl, h⟩
def ww_leave (post : Int32 → Off → (Nat → Int64) → Prop) (E : Off) (z : Nat → Int64) (p0 : Int32) : Prop := wp_X4_leave (fun (v1 : Int32) E1 => post 0 E1 (vp_updL z (0 : Int32).toNatClampNeg v1.toInt64)) (fun i E1 => (i = 3 ∧ post 1 E1 z) ∨ (i = 4 ∧ post 2 E1 z)) E p0
set_option maxRecDepth 100000 in
set_option maxHeartbeats 4000000 in
theorem cw_leave (l : Launch) (g : gE) (A : Nat → Nat → Nat) (u : Nat) (E : Off) (z : Nat → Int64) (p0 : Int32) (post : Int32 → Off → (Nat → Int64) → Prop) (h : ww_leave post E z p0) : FnW l g yL_leave cL_leave 4 (some .int) [(0, 9, 12, 21), (0, 9, 15, 15)] 9 384 4 24 (outW g A u E z) [.ref (A 0 0), .int p0, .ref u] (pO (outW g A u) post) := by
  refine FnW.of (by decide) (Nat.le_of_ble_eq_true rfl) (fun x hC hZ hNw hT hst => ?_)
  unfold ww_leave at h
  show G x g 4 0 0 (outW g A u E z) 0 [(0, .ref (A 0 0)), (1, .int p0), (2, .ref u)] []
  refine g_aload_n hC dL_leave_0 1 rfl rfl 2 rfl ?_
  refine g_iconst hC (0 : Int32) dL_leave_1 2 rfl iconst_0 ?_
  refine g_aload_n hC dL_leave_2 3 rfl rfl 0 rfl ?_
  refine g_iload_n hC dL_leave_3 4 rfl rfl 1 rfl ?_
  refine g_callVC hC hNw hst (ct_X4_leave l g A E p0 _ _ h) gY_X4_leave dL_leave_4 7 rfl ml_L_83 [(u, .inl (g.2.1 4, 1, .inr (.inl z)))] [] (by rw [List.append_nil]; rfl) [.int (0 : Int32), .ref u] rfl rfl rfl 0 8 rfl rfl ⟨Nat.le_of_ble_eq_true rfl, Nat.le_of_ble_eq_true rfl⟩ (Nat.le_of_ble_eq_true rfl) ⟨Nat.le_of_ble_eq_true rfl, Nat.le_of_ble_eq_true rfl⟩ ?_ ?_
  · rintro E9 w9 ⟨i9, o9, hi9, rfl, h⟩
    rcases h with ⟨rfl, h⟩ | ⟨rfl, h⟩
    · obtain rfl := Option.some.inj (show some "java/lang/IndexOutOfBoundsException" = some E9 from hi9)
      refine g_catch hC hNw (by simp [gNwL]) [] ⟨0, 9, 12, 21⟩ [⟨0, 9, 15, 15⟩] hT (fun z9 hz9 => nomatch hz9) (by decide) (by decide) cl_L_21 (fun q9 => ?_)
      refine g_ws (ws2 := (outW g A u o9 z)) (by rw [List.append_nil]; rfl) ?_
      refine g_widen (k2 := 4) (n2 := 24) (Nat.le_of_ble_eq_true rfl) (Nat.le_of_ble_eq_true rfl) ?_
      show G x g 4 4 24 (outW g A u o9 z) 12 [(0, .ref (A 0 0)), (1, .int p0), (2, .ref u)] [.ref q9]
      refine g_astore_n (lv2 := [(3, .ref q9), (0, .ref (A 0 0)), (1, .int p0), (2, .ref u)]) hC dL_leave_12 13 rfl rfl (by decide) rfl ?_
      refine g_iconst hC (1 : Int32) dL_leave_13 14 rfl iconst_1 ?_
      exact g_iret hC hZ dL_leave_14 ⟨_, _, _, rfl, rfl, h⟩
    · obtain rfl := Option.some.inj (show some "java/lang/UnsupportedOperationException" = some E9 from hi9)
      refine g_catch hC hNw (by simp [gNwL]) [⟨0, 9, 12, 21⟩] ⟨0, 9, 15, 15⟩ [] hT (fun z9 hz9 => by rcases List.mem_singleton.mp hz9 with rfl; exact Or.inr ⟨by decide, _, cl_L_21, g_nc hC 4 3 (by decide) rfl rfl⟩) (by decide) (by decide) cl_L_15 (fun q9 => ?_)
      refine g_ws (ws2 := (outW g A u o9 z)) (by rw [List.append_nil]; rfl) ?_
      refine g_widen (k2 := 4) (n2 := 24) (Nat.le_of_ble_eq_true rfl) (Nat.le_of_ble_eq_true rfl) ?_
      show G x g 4 4 24 (outW g A u o9 z) 15 [(0, .ref (A 0 0)), (1, .int p0), (2, .ref u)] [.ref q9]
      refine g_astore_n (lv2 := [(3, .ref q9), (0, .ref (A 0 0)), (1, .int p0), (2, .ref u)]) hC dL_leave_15 16 rfl rfl (by decide) rfl ?_
      refine g_iconst hC (2 : Int32) dL_leave_16 17 rfl iconst_2 ?_
      exact g_iret hC hZ dL_leave_17 ⟨_, _, _, rfl, rfl, h⟩
  · rintro r w1 ⟨v1, o1, rfl, rfl, h⟩
    refine g_ws (ws2 := (outW g A u o1 z)) (by rw [List.append_nil]; rfl) ?_
    refine g_widen (k2 := 4) (n2 := 24) (Nat.le_of_ble_eq_true rfl) (Nat.le_of_ble_eq_true rfl) ?_
    show G x g 4 4 24 (outW g A u o1 z) 7 [(0, .ref (A 0 0)), (1, .int p0), (2, .ref u)] [.int v1, .int (0 : Int32), .ref u]
    refine g_i2l hC dL_leave_7 8 rfl ?_
    refine g_last (ws2 := (outW g A u o1 (vp_updL z (0 : Int32).toNatClampNeg v1.toInt64))) hC dL_leave_8 9 rfl 0 rfl (vp_in_d (by decide)) rfl ?_
    refine g_goto hC dL_leave_9 18 (by decide) ?_
    refine g_iconst hC (0 : Int32) dL_leave_18 19 rfl iconst_0 ?_
    exact g_iret hC hZ dL_leave_19 ⟨_, _, _, rfl, rfl, h⟩
def ww_move (post : Int32 → Off → (Nat → Int64) → Prop) (E : Off) (z : Nat → Int64) (p0 : Int32) (p1 : Int32) : Prop := wp_X4_move (fun (v1 : Int32) E1 => post 0 E1 (vp_updL z (0 : Int32).toNatClampNeg v1.toInt64)) (fun i E1 => (i = 3 ∧ post 1 E1 z) ∨ (i = 4 ∧ post 2 E1 z)) E p0 p1
set_option maxRecDepth 100000 in
set_option maxHeartbeats 4000000 in
theorem cw_move (l : Launch) (g : gE) (A : Nat → Nat → Nat) (u : Nat) (E : Off) (z : Nat → Int64) (p0 : Int32) (p1 : Int32) (post : Int32 → Off → (Nat → Int64) → Prop) (h : ww_move post E z p0 p1) : FnW l g yL_move cL_move 5 (some .int) [(0, 10, 13, 21), (0, 10, 17, 15)] 9 385 4 24 (outW g A u E z) [.ref (A 0 0), .int p0, .int p1, .ref u] (pO (outW g A u) post) := by
  refine FnW.of (by decide) (Nat.le_of_ble_eq_true rfl) (fun x hC hZ hNw hT hst => ?_)
  unfold ww_move at h
  show G x g 5 0 0 (outW g A u E z) 0 [(0, .ref (A 0 0)), (1, .int p0), (2, .int p1), (3, .ref u)] []
  refine g_aload_n hC dL_move_0 1 rfl rfl 3 rfl ?_
  refine g_iconst hC (0 : Int32) dL_move_1 2 rfl iconst_0 ?_
  refine g_aload_n hC dL_move_2 3 rfl rfl 0 rfl ?_
  refine g_iload_n hC dL_move_3 4 rfl rfl 1 rfl ?_
  refine g_iload_n hC dL_move_4 5 rfl rfl 2 rfl ?_
  refine g_callVC hC hNw hst (ct_X4_move l g A E p0 p1 _ _ h) gY_X4_move dL_move_5 8 rfl ml_L_86 [(u, .inl (g.2.1 4, 1, .inr (.inl z)))] [] (by rw [List.append_nil]; rfl) [.int (0 : Int32), .ref u] rfl rfl rfl 0 8 rfl rfl ⟨Nat.le_of_ble_eq_true rfl, Nat.le_of_ble_eq_true rfl⟩ (Nat.le_of_ble_eq_true rfl) ⟨Nat.le_of_ble_eq_true rfl, Nat.le_of_ble_eq_true rfl⟩ ?_ ?_
  · rintro E9 w9 ⟨i9, o9, hi9, rfl, h⟩
    rcases h with ⟨rfl, h⟩ | ⟨rfl, h⟩
    · obtain rfl := Option.some.inj (show some "java/lang/IndexOutOfBoundsException" = some E9 from hi9)
      refine g_catch hC hNw (by simp [gNwL]) [] ⟨0, 10, 13, 21⟩ [⟨0, 10, 17, 15⟩] hT (fun z9 hz9 => nomatch hz9) (by decide) (by decide) cl_L_21 (fun q9 => ?_)
      refine g_ws (ws2 := (outW g A u o9 z)) (by rw [List.append_nil]; rfl) ?_
      refine g_widen (k2 := 4) (n2 := 24) (Nat.le_of_ble_eq_true rfl) (Nat.le_of_ble_eq_true rfl) ?_
      show G x g 5 4 24 (outW g A u o9 z) 13 [(0, .ref (A 0 0)), (1, .int p0), (2, .int p1), (3, .ref u)] [.ref q9]
      refine g_astore (lv2 := [(4, .ref q9), (0, .ref (A 0 0)), (1, .int p0), (2, .int p1), (3, .ref u)]) hC dL_move_13 15 rfl (by decide) rfl ?_
      refine g_iconst hC (1 : Int32) dL_move_15 16 rfl iconst_1 ?_
      exact g_iret hC hZ dL_move_16 ⟨_, _, _, rfl, rfl, h⟩
    · obtain rfl := Option.some.inj (show some "java/lang/UnsupportedOperationException" = some E9 from hi9)
      refine g_catch hC hNw (by simp [gNwL]) [⟨0, 10, 13, 21⟩] ⟨0, 10, 17, 15⟩ [] hT (fun z9 hz9 => by rcases List.mem_singleton.mp hz9 with rfl; exact Or.inr ⟨by decide, _, cl_L_21, g_nc hC 4 3 (by decide) rfl rfl⟩) (by decide) (by decide) cl_L_15 (fun q9 => ?_)
      refine g_ws (ws2 := (outW g A u o9 z)) (by rw [List.append_nil]; rfl) ?_
      refine g_widen (k2 := 4) (n2 := 24) (Nat.le_of_ble_eq_true rfl) (Nat.le_of_ble_eq_true rfl) ?_
      show G x g 5 4 24 (outW g A u o9 z) 17 [(0, .ref (A 0 0)), (1, .int p0), (2, .int p1), (3, .ref u)] [.ref q9]
      refine g_astore (lv2 := [(4, .ref q9), (0, .ref (A 0 0)), (1, .int p0), (2, .int p1), (3, .ref u)]) hC dL_move_17 19 rfl (by decide) rfl ?_
      refine g_iconst hC (2 : Int32) dL_move_19 20 rfl iconst_2 ?_
      exact g_iret hC hZ dL_move_20 ⟨_, _, _, rfl, rfl, h⟩
  · rintro r w1 ⟨v1, o1, rfl, rfl, h⟩
    refine g_ws (ws2 := (outW g A u o1 z)) (by rw [List.append_nil]; rfl) ?_
    refine g_widen (k2 := 4) (n2 := 24) (Nat.le_of_ble_eq_true rfl) (Nat.le_of_ble_eq_true rfl) ?_
    show G x g 5 4 24 (outW g A u o1 z) 8 [(0, .ref (A 0 0)), (1, .int p0), (2, .int p1), (3, .ref u)] [.int v1, .int (0 : Int32), .ref u]
    refine g_i2l hC dL_move_8 9 rfl ?_
    refine g_last (ws2 := (outW g A u o1 (vp_updL z (0 : Int32).toNatClampNeg v1.toInt64))) hC dL_move_9 10 rfl 0 rfl (vp_in_d (by decide)) rfl ?_
    refine g_goto hC dL_move_10 21 (by decide) ?_
    refine g_iconst hC (0 : Int32) dL_move_21 22 rfl iconst_0 ?_
    exact g_iret hC hZ dL_move_22 ⟨_, _, _, rfl, rfl, h⟩
def ww_pair (post : Int32 → Off → (Nat → Int64) → Prop) (E : Off) (z : Nat → Int64) (p0 : Int32) (p1 : Int32) : Prop := wp_X4_pair (fun (v1 : Int32) E1 => post 0 E1 (vp_updL z (0 : Int32).toNatClampNeg v1.toInt64)) (fun i E1 => (i = 3 ∧ post 1 E1 z) ∨ (i = 1 ∧ post 2 E1 z) ∨ (i = 4 ∧ post 3 E1 z)) E p0 p1
set_option maxRecDepth 100000 in
set_option maxHeartbeats 4000000 in
theorem cw_pair (l : Launch) (g : gE) (A : Nat → Nat → Nat) (u : Nat) (E : Off) (z : Nat → Int64) (p0 : Int32) (p1 : Int32) (post : Int32 → Off → (Nat → Int64) → Prop) (h : ww_pair post E z p0 p1) : FnW l g yL_pair cL_pair 5 (some .int) [(0, 10, 13, 21), (0, 10, 17, 13), (0, 10, 21, 15)] 9 385 4 24 (outW g A u E z) [.ref (A 0 0), .int p0, .int p1, .ref u] (pO (outW g A u) post) := by
  refine FnW.of (by decide) (Nat.le_of_ble_eq_true rfl) (fun x hC hZ hNw hT hst => ?_)
  unfold ww_pair at h
  show G x g 5 0 0 (outW g A u E z) 0 [(0, .ref (A 0 0)), (1, .int p0), (2, .int p1), (3, .ref u)] []
  refine g_aload_n hC dL_pair_0 1 rfl rfl 3 rfl ?_
  refine g_iconst hC (0 : Int32) dL_pair_1 2 rfl iconst_0 ?_
  refine g_aload_n hC dL_pair_2 3 rfl rfl 0 rfl ?_
  refine g_iload_n hC dL_pair_3 4 rfl rfl 1 rfl ?_
  refine g_iload_n hC dL_pair_4 5 rfl rfl 2 rfl ?_
  refine g_callVC hC hNw hst (ct_X4_pair l g A E p0 p1 _ _ h) gY_X4_pair dL_pair_5 8 rfl ml_L_89 [(u, .inl (g.2.1 4, 1, .inr (.inl z)))] [] (by rw [List.append_nil]; rfl) [.int (0 : Int32), .ref u] rfl rfl rfl 0 8 rfl rfl ⟨Nat.le_of_ble_eq_true rfl, Nat.le_of_ble_eq_true rfl⟩ (Nat.le_of_ble_eq_true rfl) ⟨Nat.le_of_ble_eq_true rfl, Nat.le_of_ble_eq_true rfl⟩ ?_ ?_
  · rintro E9 w9 ⟨i9, o9, hi9, rfl, h⟩
    rcases h with ⟨rfl, h⟩ | ⟨rfl, h⟩ | ⟨rfl, h⟩
    · obtain rfl := Option.some.inj (show some "java/lang/IndexOutOfBoundsException" = some E9 from hi9)
      refine g_catch hC hNw (by simp [gNwL]) [] ⟨0, 10, 13, 21⟩ [⟨0, 10, 17, 13⟩, ⟨0, 10, 21, 15⟩] hT (fun z9 hz9 => nomatch hz9) (by decide) (by decide) cl_L_21 (fun q9 => ?_)
      refine g_ws (ws2 := (outW g A u o9 z)) (by rw [List.append_nil]; rfl) ?_
      refine g_widen (k2 := 4) (n2 := 24) (Nat.le_of_ble_eq_true rfl) (Nat.le_of_ble_eq_true rfl) ?_
      show G x g 5 4 24 (outW g A u o9 z) 13 [(0, .ref (A 0 0)), (1, .int p0), (2, .int p1), (3, .ref u)] [.ref q9]
      refine g_astore (lv2 := [(4, .ref q9), (0, .ref (A 0 0)), (1, .int p0), (2, .int p1), (3, .ref u)]) hC dL_pair_13 15 rfl (by decide) rfl ?_
      refine g_iconst hC (1 : Int32) dL_pair_15 16 rfl iconst_1 ?_
      exact g_iret hC hZ dL_pair_16 ⟨_, _, _, rfl, rfl, h⟩
    · obtain rfl := Option.some.inj (show some "java/lang/IllegalArgumentException" = some E9 from hi9)
      refine g_catch hC hNw (by simp [gNwL]) [⟨0, 10, 13, 21⟩] ⟨0, 10, 17, 13⟩ [⟨0, 10, 21, 15⟩] hT (fun z9 hz9 => by rcases List.mem_singleton.mp hz9 with rfl; exact Or.inr ⟨by decide, _, cl_L_21, g_nc hC 1 3 (by decide) rfl rfl⟩) (by decide) (by decide) cl_L_13 (fun q9 => ?_)
      refine g_ws (ws2 := (outW g A u o9 z)) (by rw [List.append_nil]; rfl) ?_
      refine g_widen (k2 := 4) (n2 := 24) (Nat.le_of_ble_eq_true rfl) (Nat.le_of_ble_eq_true rfl) ?_
      show G x g 5 4 24 (outW g A u o9 z) 17 [(0, .ref (A 0 0)), (1, .int p0), (2, .int p1), (3, .ref u)] [.ref q9]
      refine g_astore (lv2 := [(4, .ref q9), (0, .ref (A 0 0)), (1, .int p0), (2, .int p1), (3, .ref u)]) hC dL_pair_17 19 rfl (by decide) rfl ?_
      refine g_iconst hC (2 : Int32) dL_pair_19 20 rfl iconst_2 ?_
      exact g_iret hC hZ dL_pair_20 ⟨_, _, _, rfl, rfl, h⟩
    · obtain rfl := Option.some.inj (show some "java/lang/UnsupportedOperationException" = some E9 from hi9)
      have hp9 : ∀ z9 ∈ ([⟨0, 10, 13, 21⟩, ⟨0, 10, 17, 13⟩] : List ExceptionTableEntry), covers z9 5 = false ∨ (z9.catchType ≠ 0 ∧ ∃ nm : String, Cond.classLink RL z9.catchType nm ∈ lw_all ∧ va_Nc "java/lang/UnsupportedOperationException" nm (x_s x)) := by
        intro z9 hz9
        rcases List.mem_cons.mp hz9 with rfl | hz9
        · exact Or.inr ⟨by decide, _, cl_L_21, g_nc hC 4 3 (by decide) rfl rfl⟩
        · rcases List.mem_singleton.mp hz9 with rfl; exact Or.inr ⟨by decide, _, cl_L_13, g_nc hC 4 1 (by decide) rfl rfl⟩
      refine g_catch hC hNw (by simp [gNwL]) [⟨0, 10, 13, 21⟩, ⟨0, 10, 17, 13⟩] ⟨0, 10, 21, 15⟩ [] hT hp9 (by decide) (by decide) cl_L_15 (fun q9 => ?_)
      refine g_ws (ws2 := (outW g A u o9 z)) (by rw [List.append_nil]; rfl) ?_
      refine g_widen (k2 := 4) (n2 := 24) (Nat.le_of_ble_eq_true rfl) (Nat.le_of_ble_eq_true rfl) ?_
      show G x g 5 4 24 (outW g A u o9 z) 21 [(0, .ref (A 0 0)), (1, .int p0), (2, .int p1), (3, .ref u)] [.ref q9]
      refine g_astore (lv2 := [(4, .ref q9), (0, .ref (A 0 0)), (1, .int p0), (2, .int p1), (3, .ref u)]) hC dL_pair_21 23 rfl (by decide) rfl ?_
      refine g_iconst hC (3 : Int32) dL_pair_23 24 rfl iconst_3 ?_
      exact g_iret hC hZ dL_pair_24 ⟨_, _, _, rfl, rfl, h⟩
  · rintro r w1 ⟨v1, o1, rfl, rfl, h⟩
    refine g_ws (ws2 := (outW g A u o1 z)) (by rw [List.append_nil]; rfl) ?_
    refine g_widen (k2 := 4) (n2 := 24) (Nat.le_of_ble_eq_true rfl) (Nat.le_of_ble_eq_true rfl) ?_
    show G x g 5 4 24 (outW g A u o1 z) 8 [(0, .ref (A 0 0)), (1, .int p0), (2, .int p1), (3, .ref u)] [.int v1, .int (0 : Int32), .ref u]
    refine g_i2l hC dL_pair_8 9 rfl ?_
    refine g_last (ws2 := (outW g A u o1 (vp_updL z (0 : Int32).toNatClampNeg v1.toInt64))) hC dL_pair_9 10 rfl 0 rfl (vp_in_d (by decide)) rfl ?_
    refine g_goto hC dL_pair_10 25 (by decide) ?_
    refine g_iconst hC (0 : Int32) dL_pair_25 26 rfl iconst_0 ?_
    exact g_iret hC hZ dL_pair_26 ⟨_, _, _, rfl, rfl, h⟩
def ww_separate (post : Int32 → Off → (Nat → Int64) → Prop) (E : Off) (z : Nat → Int64) (p0 : Int32) : Prop := wp_X4_separate (fun (v1 : Int32) E1 => post 0 E1 (vp_updL z (0 : Int32).toNatClampNeg v1.toInt64)) (fun i E1 => (i = 3 ∧ post 1 E1 z) ∨ (i = 4 ∧ post 2 E1 z)) E p0
set_option maxRecDepth 100000 in
set_option maxHeartbeats 4000000 in
theorem cw_separate (l : Launch) (g : gE) (A : Nat → Nat → Nat) (u : Nat) (E : Off) (z : Nat → Int64) (p0 : Int32) (post : Int32 → Off → (Nat → Int64) → Prop) (h : ww_separate post E z p0) : FnW l g yL_separate cL_separate 4 (some .int) [(0, 9, 12, 21), (0, 9, 15, 15)] 9 384 4 24 (outW g A u E z) [.ref (A 0 0), .int p0, .ref u] (pO (outW g A u) post) := by
  refine FnW.of (by decide) (Nat.le_of_ble_eq_true rfl) (fun x hC hZ hNw hT hst => ?_)
  unfold ww_separate at h
  show G x g 4 0 0 (outW g A u E z) 0 [(0, .ref (A 0 0)), (1, .int p0), (2, .ref u)] []
  refine g_aload_n hC dL_separate_0 1 rfl rfl 2 rfl ?_
  refine g_iconst hC (0 : Int32) dL_separate_1 2 rfl iconst_0 ?_
  refine g_aload_n hC dL_separate_2 3 rfl rfl 0 rfl ?_
  refine g_iload_n hC dL_separate_3 4 rfl rfl 1 rfl ?_
  refine g_callVC hC hNw hst (ct_X4_separate l g A E p0 _ _ h) gY_X4_separate dL_separate_4 7 rfl ml_L_92 [(u, .inl (g.2.1 4, 1, .inr (.inl z)))] [] (by rw [List.append_nil]; rfl) [.int (0 : Int32), .ref u] rfl rfl rfl 0 8 rfl rfl ⟨Nat.le_of_ble_eq_true rfl, Nat.le_of_ble_eq_true rfl⟩ (Nat.le_of_ble_eq_true rfl) ⟨Nat.le_of_ble_eq_true rfl, Nat.le_of_ble_eq_true rfl⟩ ?_ ?_
  · rintro E9 w9 ⟨i9, o9, hi9, rfl, h⟩
    rcases h with ⟨rfl, h⟩ | ⟨rfl, h⟩
    · obtain rfl := Option.some.inj (show some "java/lang/IndexOutOfBoundsException" = some E9 from hi9)
      refine g_catch hC hNw (by simp [gNwL]) [] ⟨0, 9, 12, 21⟩ [⟨0, 9, 15, 15⟩] hT (fun z9 hz9 => nomatch hz9) (by decide) (by decide) cl_L_21 (fun q9 => ?_)
      refine g_ws (ws2 := (outW g A u o9 z)) (by rw [List.append_nil]; rfl) ?_
      refine g_widen (k2 := 4) (n2 := 24) (Nat.le_of_ble_eq_true rfl) (Nat.le_of_ble_eq_true rfl) ?_
      show G x g 4 4 24 (outW g A u o9 z) 12 [(0, .ref (A 0 0)), (1, .int p0), (2, .ref u)] [.ref q9]
      refine g_astore_n (lv2 := [(3, .ref q9), (0, .ref (A 0 0)), (1, .int p0), (2, .ref u)]) hC dL_separate_12 13 rfl rfl (by decide) rfl ?_
      refine g_iconst hC (1 : Int32) dL_separate_13 14 rfl iconst_1 ?_
      exact g_iret hC hZ dL_separate_14 ⟨_, _, _, rfl, rfl, h⟩
    · obtain rfl := Option.some.inj (show some "java/lang/UnsupportedOperationException" = some E9 from hi9)
      refine g_catch hC hNw (by simp [gNwL]) [⟨0, 9, 12, 21⟩] ⟨0, 9, 15, 15⟩ [] hT (fun z9 hz9 => by rcases List.mem_singleton.mp hz9 with rfl; exact Or.inr ⟨by decide, _, cl_L_21, g_nc hC 4 3 (by decide) rfl rfl⟩) (by decide) (by decide) cl_L_15 (fun q9 => ?_)
      refine g_ws (ws2 := (outW g A u o9 z)) (by rw [List.append_nil]; rfl) ?_
      refine g_widen (k2 := 4) (n2 := 24) (Nat.le_of_ble_eq_true rfl) (Nat.le_of_ble_eq_true rfl) ?_
      show G x g 4 4 24 (outW g A u o9 z) 15 [(0, .ref (A 0 0)), (1, .int p0), (2, .ref u)] [.ref q9]
      refine g_astore_n (lv2 := [(3, .ref q9), (0, .ref (A 0 0)), (1, .int p0), (2, .ref u)]) hC dL_separate_15 16 rfl rfl (by decide) rfl ?_
      refine g_iconst hC (2 : Int32) dL_separate_16 17 rfl iconst_2 ?_
      exact g_iret hC hZ dL_separate_17 ⟨_, _, _, rfl, rfl, h⟩
  · rintro r w1 ⟨v1, o1, rfl, rfl, h⟩
    refine g_ws (ws2 := (outW g A u o1 z)) (by rw [List.append_nil]; rfl) ?_
    refine g_widen (k2 := 4) (n2 := 24) (Nat.le_of_ble_eq_true rfl) (Nat.le_of_ble_eq_true rfl) ?_
    show G x g 4 4 24 (outW g A u o1 z) 7 [(0, .ref (A 0 0)), (1, .int p0), (2, .ref u)] [.int v1, .int (0 : Int32), .ref u]
    refine g_i2l hC dL_separate_7 8 rfl ?_
    refine g_last (ws2 := (outW g A u o1 (vp_updL z (0 : Int32).toNatClampNeg v1.toInt64))) hC dL_separate_8 9 rfl 0 rfl (vp_in_d (by decide)) rfl ?_
    refine g_goto hC dL_separate_9 18 (by decide) ?_
    refine g_iconst hC (0 : Int32) dL_separate_18 19 rfl iconst_0 ?_
    exact g_iret hC hZ dL_separate_19 ⟨_, _, _, rfl, rfl, h⟩
def ww_pairCount (post : Int32 → Off → (Nat → Int64) → Prop) (E : Off) (z : Nat → Int64) (p0 : Int32) : Prop := wp_X4_pairCount (fun (v1 : Int32) E1 => post 0 E1 (vp_updL z (0 : Int32).toNatClampNeg v1.toInt64)) (fun i E1 => (i = 3 ∧ post 1 E1 z)) E p0
set_option maxRecDepth 100000 in
set_option maxHeartbeats 4000000 in
theorem cw_pairCount (l : Launch) (g : gE) (A : Nat → Nat → Nat) (u : Nat) (E : Off) (z : Nat → Int64) (p0 : Int32) (post : Int32 → Off → (Nat → Int64) → Prop) (h : ww_pairCount post E z p0) : FnW l g yL_pairCount cL_pairCount 4 (some .int) [(0, 9, 12, 21)] 9 153 1 6 (outW g A u E z) [.ref (A 0 0), .int p0, .ref u] (pO (outW g A u) post) := by
  refine FnW.of (by decide) (Nat.le_of_ble_eq_true rfl) (fun x hC hZ hNw hT hst => ?_)
  unfold ww_pairCount at h
  show G x g 4 0 0 (outW g A u E z) 0 [(0, .ref (A 0 0)), (1, .int p0), (2, .ref u)] []
  refine g_aload_n hC dL_pairCount_0 1 rfl rfl 2 rfl ?_
  refine g_iconst hC (0 : Int32) dL_pairCount_1 2 rfl iconst_0 ?_
  refine g_aload_n hC dL_pairCount_2 3 rfl rfl 0 rfl ?_
  refine g_iload_n hC dL_pairCount_3 4 rfl rfl 1 rfl ?_
  refine g_callVC hC hNw hst (ct_X4_pairCount l g A E p0 _ _ h) gY_X4_pairCount dL_pairCount_4 7 rfl ml_L_95 [(u, .inl (g.2.1 4, 1, .inr (.inl z)))] [] (by rw [List.append_nil]; rfl) [.int (0 : Int32), .ref u] rfl rfl rfl 0 8 rfl rfl ⟨Nat.le_of_ble_eq_true rfl, Nat.le_of_ble_eq_true rfl⟩ (Nat.le_of_ble_eq_true rfl) ⟨Nat.le_of_ble_eq_true rfl, Nat.le_of_ble_eq_true rfl⟩ ?_ ?_
  · rintro E9 w9 ⟨i9, o9, hi9, rfl, h⟩
    obtain ⟨rfl, h⟩ := h
    obtain rfl := Option.some.inj (show some "java/lang/IndexOutOfBoundsException" = some E9 from hi9)
    refine g_catch hC hNw (by simp [gNwL]) [] ⟨0, 9, 12, 21⟩ [] hT (fun z9 hz9 => nomatch hz9) (by decide) (by decide) cl_L_21 (fun q9 => ?_)
    refine g_ws (ws2 := (outW g A u o9 z)) (by rw [List.append_nil]; rfl) ?_
    refine g_widen (k2 := 1) (n2 := 6) (Nat.le_of_ble_eq_true rfl) (Nat.le_of_ble_eq_true rfl) ?_
    show G x g 4 1 6 (outW g A u o9 z) 12 [(0, .ref (A 0 0)), (1, .int p0), (2, .ref u)] [.ref q9]
    refine g_astore_n (lv2 := [(3, .ref q9), (0, .ref (A 0 0)), (1, .int p0), (2, .ref u)]) hC dL_pairCount_12 13 rfl rfl (by decide) rfl ?_
    refine g_iconst hC (1 : Int32) dL_pairCount_13 14 rfl iconst_1 ?_
    exact g_iret hC hZ dL_pairCount_14 ⟨_, _, _, rfl, rfl, h⟩
  · rintro r w1 ⟨v1, o1, rfl, rfl, h⟩
    refine g_ws (ws2 := (outW g A u o1 z)) (by rw [List.append_nil]; rfl) ?_
    refine g_widen (k2 := 1) (n2 := 6) (Nat.le_of_ble_eq_true rfl) (Nat.le_of_ble_eq_true rfl) ?_
    show G x g 4 1 6 (outW g A u o1 z) 7 [(0, .ref (A 0 0)), (1, .int p0), (2, .ref u)] [.int v1, .int (0 : Int32), .ref u]
    refine g_i2l hC dL_pairCount_7 8 rfl ?_
    refine g_last (ws2 := (outW g A u o1 (vp_updL z (0 : Int32).toNatClampNeg v1.toInt64))) hC dL_pairCount_8 9 rfl 0 rfl (vp_in_d (by decide)) rfl ?_
    refine g_goto hC dL_pairCount_9 15 (by decide) ?_
    refine g_iconst hC (0 : Int32) dL_pairCount_15 16 rfl iconst_0 ?_
    exact g_iret hC hZ dL_pairCount_16 ⟨_, _, _, rfl, rfl, h⟩
def ww_possiblePairs (post : Int32 → Off → (Nat → Int64) → Prop) (E : Off) (z : Nat → Int64) (p0 : Int32) : Prop := wp_X4_possiblePairs (fun (v1 : Int32) E1 => post 0 E1 (vp_updL z (0 : Int32).toNatClampNeg v1.toInt64)) (fun i E1 => (i = 3 ∧ post 1 E1 z)) E p0
set_option maxRecDepth 100000 in
set_option maxHeartbeats 4000000 in
theorem cw_possiblePairs (l : Launch) (g : gE) (A : Nat → Nat → Nat) (u : Nat) (E : Off) (z : Nat → Int64) (p0 : Int32) (post : Int32 → Off → (Nat → Int64) → Prop) (h : ww_possiblePairs post E z p0) : FnW l g yL_possiblePairs cL_possiblePairs 4 (some .int) [(0, 9, 12, 21)] 19 710 1 6 (outW g A u E z) [.ref (A 0 0), .int p0, .ref u] (pO (outW g A u) post) := by
  refine FnW.of (by decide) (Nat.le_of_ble_eq_true rfl) (fun x hC hZ hNw hT hst => ?_)
  unfold ww_possiblePairs at h
  show G x g 4 0 0 (outW g A u E z) 0 [(0, .ref (A 0 0)), (1, .int p0), (2, .ref u)] []
  refine g_aload_n hC dL_possiblePairs_0 1 rfl rfl 2 rfl ?_
  refine g_iconst hC (0 : Int32) dL_possiblePairs_1 2 rfl iconst_0 ?_
  refine g_aload_n hC dL_possiblePairs_2 3 rfl rfl 0 rfl ?_
  refine g_iload_n hC dL_possiblePairs_3 4 rfl rfl 1 rfl ?_
  refine g_callVC hC hNw hst (ct_X4_possiblePairs l g A E p0 _ _ h) gY_X4_possiblePairs dL_possiblePairs_4 7 rfl ml_L_98 [(u, .inl (g.2.1 4, 1, .inr (.inl z)))] [] (by rw [List.append_nil]; rfl) [.int (0 : Int32), .ref u] rfl rfl rfl 0 8 rfl rfl ⟨Nat.le_of_ble_eq_true rfl, Nat.le_of_ble_eq_true rfl⟩ (Nat.le_of_ble_eq_true rfl) ⟨Nat.le_of_ble_eq_true rfl, Nat.le_of_ble_eq_true rfl⟩ ?_ ?_
  · rintro E9 w9 ⟨i9, o9, hi9, rfl, h⟩
    obtain ⟨rfl, h⟩ := h
    obtain rfl := Option.some.inj (show some "java/lang/IndexOutOfBoundsException" = some E9 from hi9)
    refine g_catch hC hNw (by simp [gNwL]) [] ⟨0, 9, 12, 21⟩ [] hT (fun z9 hz9 => nomatch hz9) (by decide) (by decide) cl_L_21 (fun q9 => ?_)
    refine g_ws (ws2 := (outW g A u o9 z)) (by rw [List.append_nil]; rfl) ?_
    refine g_widen (k2 := 1) (n2 := 6) (Nat.le_of_ble_eq_true rfl) (Nat.le_of_ble_eq_true rfl) ?_
    show G x g 4 1 6 (outW g A u o9 z) 12 [(0, .ref (A 0 0)), (1, .int p0), (2, .ref u)] [.ref q9]
    refine g_astore_n (lv2 := [(3, .ref q9), (0, .ref (A 0 0)), (1, .int p0), (2, .ref u)]) hC dL_possiblePairs_12 13 rfl rfl (by decide) rfl ?_
    refine g_iconst hC (1 : Int32) dL_possiblePairs_13 14 rfl iconst_1 ?_
    exact g_iret hC hZ dL_possiblePairs_14 ⟨_, _, _, rfl, rfl, h⟩
  · rintro r w1 ⟨v1, o1, rfl, rfl, h⟩
    refine g_ws (ws2 := (outW g A u o1 z)) (by rw [List.append_nil]; rfl) ?_
    refine g_widen (k2 := 1) (n2 := 6) (Nat.le_of_ble_eq_true rfl) (Nat.le_of_ble_eq_true rfl) ?_
    show G x g 4 1 6 (outW g A u o1 z) 7 [(0, .ref (A 0 0)), (1, .int p0), (2, .ref u)] [.int v1, .int (0 : Int32), .ref u]
    refine g_i2l hC dL_possiblePairs_7 8 rfl ?_
    refine g_last (ws2 := (outW g A u o1 (vp_updL z (0 : Int32).toNatClampNeg v1.toInt64))) hC dL_possiblePairs_8 9 rfl 0 rfl (vp_in_d (by decide)) rfl ?_
    refine g_goto hC dL_possiblePairs_9 15 (by decide) ?_
    refine g_iconst hC (0 : Int32) dL_possiblePairs_15 16 rfl iconst_0 ?_
    exact g_iret hC hZ dL_possiblePairs_16 ⟨_, _, _, rfl, rfl, h⟩
def ww_possiblePairsByColours (post : Int32 → Off → (Nat → Int64) → Prop) (E : Off) (z : Nat → Int64) (p0 : Int32) : Prop := wp_X4_possiblePairsByColours (fun (v1 : Int32) E1 => post 0 E1 (vp_updL z (0 : Int32).toNatClampNeg v1.toInt64)) (fun i E1 => (i = 3 ∧ post 1 E1 z)) E p0
set_option maxRecDepth 100000 in
set_option maxHeartbeats 4000000 in
theorem cw_possiblePairsByColours (l : Launch) (g : gE) (A : Nat → Nat → Nat) (u : Nat) (E : Off) (z : Nat → Int64) (p0 : Int32) (post : Int32 → Off → (Nat → Int64) → Prop) (h : ww_possiblePairsByColours post E z p0) : FnW l g yL_possiblePairsByColours cL_possiblePairsByColours 4 (some .int) [(0, 9, 12, 21)] 9 155 1 6 (outW g A u E z) [.ref (A 0 0), .int p0, .ref u] (pO (outW g A u) post) := by
  refine FnW.of (by decide) (Nat.le_of_ble_eq_true rfl) (fun x hC hZ hNw hT hst => ?_)
  unfold ww_possiblePairsByColours at h
  show G x g 4 0 0 (outW g A u E z) 0 [(0, .ref (A 0 0)), (1, .int p0), (2, .ref u)] []
  refine g_aload_n hC dL_possiblePairsByColours_0 1 rfl rfl 2 rfl ?_
  refine g_iconst hC (0 : Int32) dL_possiblePairsByColours_1 2 rfl iconst_0 ?_
  refine g_aload_n hC dL_possiblePairsByColours_2 3 rfl rfl 0 rfl ?_
  refine g_iload_n hC dL_possiblePairsByColours_3 4 rfl rfl 1 rfl ?_
  refine g_callVC hC hNw hst (ct_X4_possiblePairsByColours l g A E p0 _ _ h) gY_X4_possiblePairsByColours dL_possiblePairsByColours_4 7 rfl ml_L_101 [(u, .inl (g.2.1 4, 1, .inr (.inl z)))] [] (by rw [List.append_nil]; rfl) [.int (0 : Int32), .ref u] rfl rfl rfl 0 8 rfl rfl ⟨Nat.le_of_ble_eq_true rfl, Nat.le_of_ble_eq_true rfl⟩ (Nat.le_of_ble_eq_true rfl) ⟨Nat.le_of_ble_eq_true rfl, Nat.le_of_ble_eq_true rfl⟩ ?_ ?_
  · rintro E9 w9 ⟨i9, o9, hi9, rfl, h⟩
    obtain ⟨rfl, h⟩ := h
    obtain rfl := Option.some.inj (show some "java/lang/IndexOutOfBoundsException" = some E9 from hi9)
    refine g_catch hC hNw (by simp [gNwL]) [] ⟨0, 9, 12, 21⟩ [] hT (fun z9 hz9 => nomatch hz9) (by decide) (by decide) cl_L_21 (fun q9 => ?_)
    refine g_ws (ws2 := (outW g A u o9 z)) (by rw [List.append_nil]; rfl) ?_
    refine g_widen (k2 := 1) (n2 := 6) (Nat.le_of_ble_eq_true rfl) (Nat.le_of_ble_eq_true rfl) ?_
    show G x g 4 1 6 (outW g A u o9 z) 12 [(0, .ref (A 0 0)), (1, .int p0), (2, .ref u)] [.ref q9]
    refine g_astore_n (lv2 := [(3, .ref q9), (0, .ref (A 0 0)), (1, .int p0), (2, .ref u)]) hC dL_possiblePairsByColours_12 13 rfl rfl (by decide) rfl ?_
    refine g_iconst hC (1 : Int32) dL_possiblePairsByColours_13 14 rfl iconst_1 ?_
    exact g_iret hC hZ dL_possiblePairsByColours_14 ⟨_, _, _, rfl, rfl, h⟩
  · rintro r w1 ⟨v1, o1, rfl, rfl, h⟩
    refine g_ws (ws2 := (outW g A u o1 z)) (by rw [List.append_nil]; rfl) ?_
    refine g_widen (k2 := 1) (n2 := 6) (Nat.le_of_ble_eq_true rfl) (Nat.le_of_ble_eq_true rfl) ?_
    show G x g 4 1 6 (outW g A u o1 z) 7 [(0, .ref (A 0 0)), (1, .int p0), (2, .ref u)] [.int v1, .int (0 : Int32), .ref u]
    refine g_i2l hC dL_possiblePairsByColours_7 8 rfl ?_
    refine g_last (ws2 := (outW g A u o1 (vp_updL z (0 : Int32).toNatClampNeg v1.toInt64))) hC dL_possiblePairsByColours_8 9 rfl 0 rfl (vp_in_d (by decide)) rfl ?_
    refine g_goto hC dL_possiblePairsByColours_9 15 (by decide) ?_
    refine g_iconst hC (0 : Int32) dL_possiblePairsByColours_15 16 rfl iconst_0 ?_
    exact g_iret hC hZ dL_possiblePairsByColours_16 ⟨_, _, _, rfl, rfl, h⟩
def ww_setQuota (post : Int32 → Off → (Nat → Int64) → Prop) (E : Off) (z : Nat → Int64) (p0 : Int32) (p1 : Int32) : Prop := wp_X4_setQuota (fun (v1 : Int32) E1 => post 0 E1 (vp_updL z (0 : Int32).toNatClampNeg v1.toInt64)) (fun i E1 => (i = 3 ∧ post 1 E1 z) ∨ (i = 1 ∧ post 2 E1 z)) E p0 p1
set_option maxRecDepth 100000 in
set_option maxHeartbeats 4000000 in
theorem cw_setQuota (l : Launch) (g : gE) (A : Nat → Nat → Nat) (u : Nat) (E : Off) (z : Nat → Int64) (p0 : Int32) (p1 : Int32) (post : Int32 → Off → (Nat → Int64) → Prop) (h : ww_setQuota post E z p0 p1) : FnW l g yL_setQuota cL_setQuota 5 (some .int) [(0, 10, 13, 21), (0, 10, 17, 13)] 9 385 4 24 (outW g A u E z) [.ref (A 0 0), .int p0, .int p1, .ref u] (pO (outW g A u) post) := by
  refine FnW.of (by decide) (Nat.le_of_ble_eq_true rfl) (fun x hC hZ hNw hT hst => ?_)
  unfold ww_setQuota at h
  show G x g 5 0 0 (outW g A u E z) 0 [(0, .ref (A 0 0)), (1, .int p0), (2, .int p1), (3, .ref u)] []
  refine g_aload_n hC dL_setQuota_0 1 rfl rfl 3 rfl ?_
  refine g_iconst hC (0 : Int32) dL_setQuota_1 2 rfl iconst_0 ?_
  refine g_aload_n hC dL_setQuota_2 3 rfl rfl 0 rfl ?_
  refine g_iload_n hC dL_setQuota_3 4 rfl rfl 1 rfl ?_
  refine g_iload_n hC dL_setQuota_4 5 rfl rfl 2 rfl ?_
  refine g_callVC hC hNw hst (ct_X4_setQuota l g A E p0 p1 _ _ h) gY_X4_setQuota dL_setQuota_5 8 rfl ml_L_104 [(u, .inl (g.2.1 4, 1, .inr (.inl z)))] [] (by rw [List.append_nil]; rfl) [.int (0 : Int32), .ref u] rfl rfl rfl 0 8 rfl rfl ⟨Nat.le_of_ble_eq_true rfl, Nat.le_of_ble_eq_true rfl⟩ (Nat.le_of_ble_eq_true rfl) ⟨Nat.le_of_ble_eq_true rfl, Nat.le_of_ble_eq_true rfl⟩ ?_ ?_
  · rintro E9 w9 ⟨i9, o9, hi9, rfl, h⟩
    rcases h with ⟨rfl, h⟩ | ⟨rfl, h⟩
    · obtain rfl := Option.some.inj (show some "java/lang/IndexOutOfBoundsException" = some E9 from hi9)
      refine g_catch hC hNw (by simp [gNwL]) [] ⟨0, 10, 13, 21⟩ [⟨0, 10, 17, 13⟩] hT (fun z9 hz9 => nomatch hz9) (by decide) (by decide) cl_L_21 (fun q9 => ?_)
      refine g_ws (ws2 := (outW g A u o9 z)) (by rw [List.append_nil]; rfl) ?_
      refine g_widen (k2 := 4) (n2 := 24) (Nat.le_of_ble_eq_true rfl) (Nat.le_of_ble_eq_true rfl) ?_
      show G x g 5 4 24 (outW g A u o9 z) 13 [(0, .ref (A 0 0)), (1, .int p0), (2, .int p1), (3, .ref u)] [.ref q9]
      refine g_astore (lv2 := [(4, .ref q9), (0, .ref (A 0 0)), (1, .int p0), (2, .int p1), (3, .ref u)]) hC dL_setQuota_13 15 rfl (by decide) rfl ?_
      refine g_iconst hC (1 : Int32) dL_setQuota_15 16 rfl iconst_1 ?_
      exact g_iret hC hZ dL_setQuota_16 ⟨_, _, _, rfl, rfl, h⟩
    · obtain rfl := Option.some.inj (show some "java/lang/IllegalArgumentException" = some E9 from hi9)
      refine g_catch hC hNw (by simp [gNwL]) [⟨0, 10, 13, 21⟩] ⟨0, 10, 17, 13⟩ [] hT (fun z9 hz9 => by rcases List.mem_singleton.mp hz9 with rfl; exact Or.inr ⟨by decide, _, cl_L_21, g_nc hC 1 3 (by decide) rfl rfl⟩) (by decide) (by decide) cl_L_13 (fun q9 => ?_)
      refine g_ws (ws2 := (outW g A u o9 z)) (by rw [List.append_nil]; rfl) ?_
      refine g_widen (k2 := 4) (n2 := 24) (Nat.le_of_ble_eq_true rfl) (Nat.le_of_ble_eq_true rfl) ?_
      show G x g 5 4 24 (outW g A u o9 z) 17 [(0, .ref (A 0 0)), (1, .int p0), (2, .int p1), (3, .ref u)] [.ref q9]
      refine g_astore (lv2 := [(4, .ref q9), (0, .ref (A 0 0)), (1, .int p0), (2, .int p1), (3, .ref u)]) hC dL_setQuota_17 19 rfl (by decide) rfl ?_
      refine g_iconst hC (2 : Int32) dL_setQuota_19 20 rfl iconst_2 ?_
      exact g_iret hC hZ dL_setQuota_20 ⟨_, _, _, rfl, rfl, h⟩
  · rintro r w1 ⟨v1, o1, rfl, rfl, h⟩
    refine g_ws (ws2 := (outW g A u o1 z)) (by rw [List.append_nil]; rfl) ?_
    refine g_widen (k2 := 4) (n2 := 24) (Nat.le_of_ble_eq_true rfl) (Nat.le_of_ble_eq_true rfl) ?_
    show G x g 5 4 24 (outW g A u o1 z) 8 [(0, .ref (A 0 0)), (1, .int p0), (2, .int p1), (3, .ref u)] [.int v1, .int (0 : Int32), .ref u]
    refine g_i2l hC dL_setQuota_8 9 rfl ?_
    refine g_last (ws2 := (outW g A u o1 (vp_updL z (0 : Int32).toNatClampNeg v1.toInt64))) hC dL_setQuota_9 10 rfl 0 rfl (vp_in_d (by decide)) rfl ?_
    refine g_goto hC dL_setQuota_10 21 (by decide) ?_
    refine g_iconst hC (0 : Int32) dL_setQuota_21 22 rfl iconst_0 ?_
    exact g_iret hC hZ dL_setQuota_22 ⟨_, _, _, rfl, rfl, h⟩
def ww_ban (post : Int32 → Off → (Nat → Int64) → Prop) (E : Off) (z : Nat → Int64) (p0 : Int32) (p1 : Int32) : Prop := wp_X4_ban (fun (v1 : Int32) E1 => ((v1 = 0 → post 0 E1 (vp_updL z (0 : Int32).toNatClampNeg 0)) ∧ (¬ v1 = 0 → post 0 E1 (vp_updL z (0 : Int32).toNatClampNeg 1)))) (fun i E1 => (i = 3 ∧ post 1 E1 z) ∨ (i = 1 ∧ post 2 E1 z)) E p0 p1
set_option maxRecDepth 100000 in
set_option maxHeartbeats 4000000 in
theorem cw_ban (l : Launch) (g : gE) (A : Nat → Nat → Nat) (u : Nat) (E : Off) (z : Nat → Int64) (p0 : Int32) (p1 : Int32) (post : Int32 → Off → (Nat → Int64) → Prop) (h : ww_ban post E z p0 p1) : FnW l g yL_ban cL_ban 5 (some .int) [(0, 17, 20, 21), (0, 17, 24, 13)] 9 385 4 24 (outW g A u E z) [.ref (A 0 0), .int p0, .int p1, .ref u] (pO (outW g A u) post) := by
  refine FnW.of (by decide) (Nat.le_of_ble_eq_true rfl) (fun x hC hZ hNw hT hst => ?_)
  unfold ww_ban at h
  show G x g 5 0 0 (outW g A u E z) 0 [(0, .ref (A 0 0)), (1, .int p0), (2, .int p1), (3, .ref u)] []
  refine g_aload_n hC dL_ban_0 1 rfl rfl 3 rfl ?_
  refine g_iconst hC (0 : Int32) dL_ban_1 2 rfl iconst_0 ?_
  refine g_aload_n hC dL_ban_2 3 rfl rfl 0 rfl ?_
  refine g_iload_n hC dL_ban_3 4 rfl rfl 1 rfl ?_
  refine g_iload_n hC dL_ban_4 5 rfl rfl 2 rfl ?_
  refine g_callVC hC hNw hst (ct_X4_ban l g A E p0 p1 _ _ h) gY_X4_ban dL_ban_5 8 rfl ml_L_107 [(u, .inl (g.2.1 4, 1, .inr (.inl z)))] [] (by rw [List.append_nil]; rfl) [.int (0 : Int32), .ref u] rfl rfl rfl 0 8 rfl rfl ⟨Nat.le_of_ble_eq_true rfl, Nat.le_of_ble_eq_true rfl⟩ (Nat.le_of_ble_eq_true rfl) ⟨Nat.le_of_ble_eq_true rfl, Nat.le_of_ble_eq_true rfl⟩ ?_ ?_
  · rintro E9 w9 ⟨i9, o9, hi9, rfl, h⟩
    rcases h with ⟨rfl, h⟩ | ⟨rfl, h⟩
    · obtain rfl := Option.some.inj (show some "java/lang/IndexOutOfBoundsException" = some E9 from hi9)
      refine g_catch hC hNw (by simp [gNwL]) [] ⟨0, 17, 20, 21⟩ [⟨0, 17, 24, 13⟩] hT (fun z9 hz9 => nomatch hz9) (by decide) (by decide) cl_L_21 (fun q9 => ?_)
      refine g_ws (ws2 := (outW g A u o9 z)) (by rw [List.append_nil]; rfl) ?_
      refine g_widen (k2 := 4) (n2 := 24) (Nat.le_of_ble_eq_true rfl) (Nat.le_of_ble_eq_true rfl) ?_
      show G x g 5 4 24 (outW g A u o9 z) 20 [(0, .ref (A 0 0)), (1, .int p0), (2, .int p1), (3, .ref u)] [.ref q9]
      refine g_astore (lv2 := [(4, .ref q9), (0, .ref (A 0 0)), (1, .int p0), (2, .int p1), (3, .ref u)]) hC dL_ban_20 22 rfl (by decide) rfl ?_
      refine g_iconst hC (1 : Int32) dL_ban_22 23 rfl iconst_1 ?_
      exact g_iret hC hZ dL_ban_23 ⟨_, _, _, rfl, rfl, h⟩
    · obtain rfl := Option.some.inj (show some "java/lang/IllegalArgumentException" = some E9 from hi9)
      refine g_catch hC hNw (by simp [gNwL]) [⟨0, 17, 20, 21⟩] ⟨0, 17, 24, 13⟩ [] hT (fun z9 hz9 => by rcases List.mem_singleton.mp hz9 with rfl; exact Or.inr ⟨by decide, _, cl_L_21, g_nc hC 1 3 (by decide) rfl rfl⟩) (by decide) (by decide) cl_L_13 (fun q9 => ?_)
      refine g_ws (ws2 := (outW g A u o9 z)) (by rw [List.append_nil]; rfl) ?_
      refine g_widen (k2 := 4) (n2 := 24) (Nat.le_of_ble_eq_true rfl) (Nat.le_of_ble_eq_true rfl) ?_
      show G x g 5 4 24 (outW g A u o9 z) 24 [(0, .ref (A 0 0)), (1, .int p0), (2, .int p1), (3, .ref u)] [.ref q9]
      refine g_astore (lv2 := [(4, .ref q9), (0, .ref (A 0 0)), (1, .int p0), (2, .int p1), (3, .ref u)]) hC dL_ban_24 26 rfl (by decide) rfl ?_
      refine g_iconst hC (2 : Int32) dL_ban_26 27 rfl iconst_2 ?_
      exact g_iret hC hZ dL_ban_27 ⟨_, _, _, rfl, rfl, h⟩
  · rintro r w1 ⟨v1, o1, rfl, rfl, h⟩
    refine g_ws (ws2 := (outW g A u o1 z)) (by rw [List.append_nil]; rfl) ?_
    refine g_widen (k2 := 4) (n2 := 24) (Nat.le_of_ble_eq_true rfl) (Nat.le_of_ble_eq_true rfl) ?_
    show G x g 5 4 24 (outW g A u o1 z) 8 [(0, .ref (A 0 0)), (1, .int p0), (2, .int p1), (3, .ref u)] [.int v1, .int (0 : Int32), .ref u]
    refine g_if_eq hC dL_ban_8 15 (by decide) 11 rfl (fun c => ?_) (fun c => ?_)
    · have h := h.1 c
      refine g_lconst hC (0 : Int64) dL_ban_15 16 rfl rfl ?_
      refine g_last (ws2 := (outW g A u o1 (vp_updL z (0 : Int32).toNatClampNeg (0 : Int64)))) hC dL_ban_16 17 rfl 0 rfl (vp_in_d (by decide)) rfl ?_
      refine g_goto hC dL_ban_17 28 (by decide) ?_
      refine g_iconst hC (0 : Int32) dL_ban_28 29 rfl iconst_0 ?_
      exact g_iret hC hZ dL_ban_29 ⟨_, _, _, rfl, rfl, h⟩
    · have h := h.2 c
      refine g_lconst hC (1 : Int64) dL_ban_11 12 rfl rfl ?_
      refine g_goto hC dL_ban_12 16 (by decide) ?_
      refine g_last (ws2 := (outW g A u o1 (vp_updL z (0 : Int32).toNatClampNeg (1 : Int64)))) hC dL_ban_16 17 rfl 0 rfl (vp_in_d (by decide)) rfl ?_
      refine g_goto hC dL_ban_17 28 (by decide) ?_
      refine g_iconst hC (0 : Int32) dL_ban_28 29 rfl iconst_0 ?_
      exact g_iret hC hZ dL_ban_29 ⟨_, _, _, rfl, rfl, h⟩
def ww_unban (post : Int32 → Off → (Nat → Int64) → Prop) (E : Off) (z : Nat → Int64) (p0 : Int32) (p1 : Int32) : Prop := wp_X4_unban (fun (v1 : Int32) E1 => ((v1 = 0 → post 0 E1 (vp_updL z (0 : Int32).toNatClampNeg 0)) ∧ (¬ v1 = 0 → post 0 E1 (vp_updL z (0 : Int32).toNatClampNeg 1)))) (fun i E1 => (i = 3 ∧ post 1 E1 z) ∨ (i = 1 ∧ post 2 E1 z)) E p0 p1
set_option maxRecDepth 100000 in
set_option maxHeartbeats 4000000 in
theorem cw_unban (l : Launch) (g : gE) (A : Nat → Nat → Nat) (u : Nat) (E : Off) (z : Nat → Int64) (p0 : Int32) (p1 : Int32) (post : Int32 → Off → (Nat → Int64) → Prop) (h : ww_unban post E z p0 p1) : FnW l g yL_unban cL_unban 5 (some .int) [(0, 17, 20, 21), (0, 17, 24, 13)] 9 385 4 24 (outW g A u E z) [.ref (A 0 0), .int p0, .int p1, .ref u] (pO (outW g A u) post) := by
  refine FnW.of (by decide) (Nat.le_of_ble_eq_true rfl) (fun x hC hZ hNw hT hst => ?_)
  unfold ww_unban at h
  show G x g 5 0 0 (outW g A u E z) 0 [(0, .ref (A 0 0)), (1, .int p0), (2, .int p1), (3, .ref u)] []
  refine g_aload_n hC dL_unban_0 1 rfl rfl 3 rfl ?_
  refine g_iconst hC (0 : Int32) dL_unban_1 2 rfl iconst_0 ?_
  refine g_aload_n hC dL_unban_2 3 rfl rfl 0 rfl ?_
  refine g_iload_n hC dL_unban_3 4 rfl rfl 1 rfl ?_
  refine g_iload_n hC dL_unban_4 5 rfl rfl 2 rfl ?_
  refine g_callVC hC hNw hst (ct_X4_unban l g A E p0 p1 _ _ h) gY_X4_unban dL_unban_5 8 rfl ml_L_111 [(u, .inl (g.2.1 4, 1, .inr (.inl z)))] [] (by rw [List.append_nil]; rfl) [.int (0 : Int32), .ref u] rfl rfl rfl 0 8 rfl rfl ⟨Nat.le_of_ble_eq_true rfl, Nat.le_of_ble_eq_true rfl⟩ (Nat.le_of_ble_eq_true rfl) ⟨Nat.le_of_ble_eq_true rfl, Nat.le_of_ble_eq_true rfl⟩ ?_ ?_
  · rintro E9 w9 ⟨i9, o9, hi9, rfl, h⟩
    rcases h with ⟨rfl, h⟩ | ⟨rfl, h⟩
    · obtain rfl := Option.some.inj (show some "java/lang/IndexOutOfBoundsException" = some E9 from hi9)
      refine g_catch hC hNw (by simp [gNwL]) [] ⟨0, 17, 20, 21⟩ [⟨0, 17, 24, 13⟩] hT (fun z9 hz9 => nomatch hz9) (by decide) (by decide) cl_L_21 (fun q9 => ?_)
      refine g_ws (ws2 := (outW g A u o9 z)) (by rw [List.append_nil]; rfl) ?_
      refine g_widen (k2 := 4) (n2 := 24) (Nat.le_of_ble_eq_true rfl) (Nat.le_of_ble_eq_true rfl) ?_
      show G x g 5 4 24 (outW g A u o9 z) 20 [(0, .ref (A 0 0)), (1, .int p0), (2, .int p1), (3, .ref u)] [.ref q9]
      refine g_astore (lv2 := [(4, .ref q9), (0, .ref (A 0 0)), (1, .int p0), (2, .int p1), (3, .ref u)]) hC dL_unban_20 22 rfl (by decide) rfl ?_
      refine g_iconst hC (1 : Int32) dL_unban_22 23 rfl iconst_1 ?_
      exact g_iret hC hZ dL_unban_23 ⟨_, _, _, rfl, rfl, h⟩
    · obtain rfl := Option.some.inj (show some "java/lang/IllegalArgumentException" = some E9 from hi9)
      refine g_catch hC hNw (by simp [gNwL]) [⟨0, 17, 20, 21⟩] ⟨0, 17, 24, 13⟩ [] hT (fun z9 hz9 => by rcases List.mem_singleton.mp hz9 with rfl; exact Or.inr ⟨by decide, _, cl_L_21, g_nc hC 1 3 (by decide) rfl rfl⟩) (by decide) (by decide) cl_L_13 (fun q9 => ?_)
      refine g_ws (ws2 := (outW g A u o9 z)) (by rw [List.append_nil]; rfl) ?_
      refine g_widen (k2 := 4) (n2 := 24) (Nat.le_of_ble_eq_true rfl) (Nat.le_of_ble_eq_true rfl) ?_
      show G x g 5 4 24 (outW g A u o9 z) 24 [(0, .ref (A 0 0)), (1, .int p0), (2, .int p1), (3, .ref u)] [.ref q9]
      refine g_astore (lv2 := [(4, .ref q9), (0, .ref (A 0 0)), (1, .int p0), (2, .int p1), (3, .ref u)]) hC dL_unban_24 26 rfl (by decide) rfl ?_
      refine g_iconst hC (2 : Int32) dL_unban_26 27 rfl iconst_2 ?_
      exact g_iret hC hZ dL_unban_27 ⟨_, _, _, rfl, rfl, h⟩
  · rintro r w1 ⟨v1, o1, rfl, rfl, h⟩
    refine g_ws (ws2 := (outW g A u o1 z)) (by rw [List.append_nil]; rfl) ?_
    refine g_widen (k2 := 4) (n2 := 24) (Nat.le_of_ble_eq_true rfl) (Nat.le_of_ble_eq_true rfl) ?_
    show G x g 5 4 24 (outW g A u o1 z) 8 [(0, .ref (A 0 0)), (1, .int p0), (2, .int p1), (3, .ref u)] [.int v1, .int (0 : Int32), .ref u]
    refine g_if_eq hC dL_unban_8 15 (by decide) 11 rfl (fun c => ?_) (fun c => ?_)
    · have h := h.1 c
      refine g_lconst hC (0 : Int64) dL_unban_15 16 rfl rfl ?_
      refine g_last (ws2 := (outW g A u o1 (vp_updL z (0 : Int32).toNatClampNeg (0 : Int64)))) hC dL_unban_16 17 rfl 0 rfl (vp_in_d (by decide)) rfl ?_
      refine g_goto hC dL_unban_17 28 (by decide) ?_
      refine g_iconst hC (0 : Int32) dL_unban_28 29 rfl iconst_0 ?_
      exact g_iret hC hZ dL_unban_29 ⟨_, _, _, rfl, rfl, h⟩
    · have h := h.2 c
      refine g_lconst hC (1 : Int64) dL_unban_11 12 rfl rfl ?_
      refine g_goto hC dL_unban_12 16 (by decide) ?_
      refine g_last (ws2 := (outW g A u o1 (vp_updL z (0 : Int32).toNatClampNeg (1 : Int64)))) hC dL_unban_16 17 rfl 0 rfl (vp_in_d (by decide)) rfl ?_
      refine g_goto hC dL_unban_17 28 (by decide) ?_
      refine g_iconst hC (0 : Int32) dL_unban_28 29 rfl iconst_0 ?_
      exact g_iret hC hZ dL_unban_29 ⟨_, _, _, rfl, rfl, h⟩
def ww_signTreaty (post : Int32 → Off → (Nat → Int64) → Prop) (E : Off) (z : Nat → Int64) (p0 : Int32) (p1 : Int32) (p2 : Int32) : Prop := wp_X4_signTreaty (fun (v1 : Int32) E1 => post 0 E1 (vp_updL z (0 : Int32).toNatClampNeg v1.toInt64)) (fun i E1 => (i = 3 ∧ post 1 E1 z) ∨ (i = 1 ∧ post 2 E1 z) ∨ (i = 4 ∧ post 3 E1 z)) E p0 p1 p2
set_option maxRecDepth 100000 in
set_option maxHeartbeats 4000000 in
theorem cw_signTreaty (l : Launch) (g : gE) (A : Nat → Nat → Nat) (u : Nat) (E : Off) (z : Nat → Int64) (p0 : Int32) (p1 : Int32) (p2 : Int32) (post : Int32 → Off → (Nat → Int64) → Prop) (h : ww_signTreaty post E z p0 p1 p2) : FnW l g yL_signTreaty cL_signTreaty 6 (some .int) [(0, 12, 15, 21), (0, 12, 19, 13), (0, 12, 23, 15)] 9 386 4 24 (outW g A u E z) [.ref (A 0 0), .int p0, .int p1, .int p2, .ref u] (pO (outW g A u) post) := by
  refine FnW.of (by decide) (Nat.le_of_ble_eq_true rfl) (fun x hC hZ hNw hT hst => ?_)
  unfold ww_signTreaty at h
  show G x g 6 0 0 (outW g A u E z) 0 [(0, .ref (A 0 0)), (1, .int p0), (2, .int p1), (3, .int p2), (4, .ref u)] []
  refine g_aload hC dL_signTreaty_0 2 rfl 4 rfl ?_
  refine g_iconst hC (0 : Int32) dL_signTreaty_2 3 rfl iconst_0 ?_
  refine g_aload_n hC dL_signTreaty_3 4 rfl rfl 0 rfl ?_
  refine g_iload_n hC dL_signTreaty_4 5 rfl rfl 1 rfl ?_
  refine g_iload_n hC dL_signTreaty_5 6 rfl rfl 2 rfl ?_
  refine g_iload_n hC dL_signTreaty_6 7 rfl rfl 3 rfl ?_
  refine g_callVC hC hNw hst (ct_X4_signTreaty l g A E p0 p1 p2 _ _ h) gY_X4_signTreaty dL_signTreaty_7 10 rfl ml_L_114 [(u, .inl (g.2.1 4, 1, .inr (.inl z)))] [] (by rw [List.append_nil]; rfl) [.int (0 : Int32), .ref u] rfl rfl rfl 0 8 rfl rfl ⟨Nat.le_of_ble_eq_true rfl, Nat.le_of_ble_eq_true rfl⟩ (Nat.le_of_ble_eq_true rfl) ⟨Nat.le_of_ble_eq_true rfl, Nat.le_of_ble_eq_true rfl⟩ ?_ ?_
  · rintro E9 w9 ⟨i9, o9, hi9, rfl, h⟩
    rcases h with ⟨rfl, h⟩ | ⟨rfl, h⟩ | ⟨rfl, h⟩
    · obtain rfl := Option.some.inj (show some "java/lang/IndexOutOfBoundsException" = some E9 from hi9)
      refine g_catch hC hNw (by simp [gNwL]) [] ⟨0, 12, 15, 21⟩ [⟨0, 12, 19, 13⟩, ⟨0, 12, 23, 15⟩] hT (fun z9 hz9 => nomatch hz9) (by decide) (by decide) cl_L_21 (fun q9 => ?_)
      refine g_ws (ws2 := (outW g A u o9 z)) (by rw [List.append_nil]; rfl) ?_
      refine g_widen (k2 := 4) (n2 := 24) (Nat.le_of_ble_eq_true rfl) (Nat.le_of_ble_eq_true rfl) ?_
      show G x g 6 4 24 (outW g A u o9 z) 15 [(0, .ref (A 0 0)), (1, .int p0), (2, .int p1), (3, .int p2), (4, .ref u)] [.ref q9]
      refine g_astore (lv2 := [(5, .ref q9), (0, .ref (A 0 0)), (1, .int p0), (2, .int p1), (3, .int p2), (4, .ref u)]) hC dL_signTreaty_15 17 rfl (by decide) rfl ?_
      refine g_iconst hC (1 : Int32) dL_signTreaty_17 18 rfl iconst_1 ?_
      exact g_iret hC hZ dL_signTreaty_18 ⟨_, _, _, rfl, rfl, h⟩
    · obtain rfl := Option.some.inj (show some "java/lang/IllegalArgumentException" = some E9 from hi9)
      refine g_catch hC hNw (by simp [gNwL]) [⟨0, 12, 15, 21⟩] ⟨0, 12, 19, 13⟩ [⟨0, 12, 23, 15⟩] hT (fun z9 hz9 => by rcases List.mem_singleton.mp hz9 with rfl; exact Or.inr ⟨by decide, _, cl_L_21, g_nc hC 1 3 (by decide) rfl rfl⟩) (by decide) (by decide) cl_L_13 (fun q9 => ?_)
      refine g_ws (ws2 := (outW g A u o9 z)) (by rw [List.append_nil]; rfl) ?_
      refine g_widen (k2 := 4) (n2 := 24) (Nat.le_of_ble_eq_true rfl) (Nat.le_of_ble_eq_true rfl) ?_
      show G x g 6 4 24 (outW g A u o9 z) 19 [(0, .ref (A 0 0)), (1, .int p0), (2, .int p1), (3, .int p2), (4, .ref u)] [.ref q9]
      refine g_astore (lv2 := [(5, .ref q9), (0, .ref (A 0 0)), (1, .int p0), (2, .int p1), (3, .int p2), (4, .ref u)]) hC dL_signTreaty_19 21 rfl (by decide) rfl ?_
      refine g_iconst hC (2 : Int32) dL_signTreaty_21 22 rfl iconst_2 ?_
      exact g_iret hC hZ dL_signTreaty_22 ⟨_, _, _, rfl, rfl, h⟩
    · obtain rfl := Option.some.inj (show some "java/lang/UnsupportedOperationException" = some E9 from hi9)
      have hp9 : ∀ z9 ∈ ([⟨0, 12, 15, 21⟩, ⟨0, 12, 19, 13⟩] : List ExceptionTableEntry), covers z9 7 = false ∨ (z9.catchType ≠ 0 ∧ ∃ nm : String, Cond.classLink RL z9.catchType nm ∈ lw_all ∧ va_Nc "java/lang/UnsupportedOperationException" nm (x_s x)) := by
        intro z9 hz9
        rcases List.mem_cons.mp hz9 with rfl | hz9
        · exact Or.inr ⟨by decide, _, cl_L_21, g_nc hC 4 3 (by decide) rfl rfl⟩
        · rcases List.mem_singleton.mp hz9 with rfl; exact Or.inr ⟨by decide, _, cl_L_13, g_nc hC 4 1 (by decide) rfl rfl⟩
      refine g_catch hC hNw (by simp [gNwL]) [⟨0, 12, 15, 21⟩, ⟨0, 12, 19, 13⟩] ⟨0, 12, 23, 15⟩ [] hT hp9 (by decide) (by decide) cl_L_15 (fun q9 => ?_)
      refine g_ws (ws2 := (outW g A u o9 z)) (by rw [List.append_nil]; rfl) ?_
      refine g_widen (k2 := 4) (n2 := 24) (Nat.le_of_ble_eq_true rfl) (Nat.le_of_ble_eq_true rfl) ?_
      show G x g 6 4 24 (outW g A u o9 z) 23 [(0, .ref (A 0 0)), (1, .int p0), (2, .int p1), (3, .int p2), (4, .ref u)] [.ref q9]
      refine g_astore (lv2 := [(5, .ref q9), (0, .ref (A 0 0)), (1, .int p0), (2, .int p1), (3, .int p2), (4, .ref u)]) hC dL_signTreaty_23 25 rfl (by decide) rfl ?_
      refine g_iconst hC (3 : Int32) dL_signTreaty_25 26 rfl iconst_3 ?_
      exact g_iret hC hZ dL_signTreaty_26 ⟨_, _, _, rfl, rfl, h⟩
  · rintro r w1 ⟨v1, o1, rfl, rfl, h⟩
    refine g_ws (ws2 := (outW g A u o1 z)) (by rw [List.append_nil]; rfl) ?_
    refine g_widen (k2 := 4) (n2 := 24) (Nat.le_of_ble_eq_true rfl) (Nat.le_of_ble_eq_true rfl) ?_
    show G x g 6 4 24 (outW g A u o1 z) 10 [(0, .ref (A 0 0)), (1, .int p0), (2, .int p1), (3, .int p2), (4, .ref u)] [.int v1, .int (0 : Int32), .ref u]
    refine g_i2l hC dL_signTreaty_10 11 rfl ?_
    refine g_last (ws2 := (outW g A u o1 (vp_updL z (0 : Int32).toNatClampNeg v1.toInt64))) hC dL_signTreaty_11 12 rfl 0 rfl (vp_in_d (by decide)) rfl ?_
    refine g_goto hC dL_signTreaty_12 27 (by decide) ?_
    refine g_iconst hC (0 : Int32) dL_signTreaty_27 28 rfl iconst_0 ?_
    exact g_iret hC hZ dL_signTreaty_28 ⟨_, _, _, rfl, rfl, h⟩
def ww_endTreaty (post : Int32 → Off → (Nat → Int64) → Prop) (E : Off) (z : Nat → Int64) (p0 : Int32) (p1 : Int32) : Prop := wp_X4_endTreaty (fun (v1 : Int32) E1 => post 0 E1 (vp_updL z (0 : Int32).toNatClampNeg v1.toInt64)) (fun i E1 => (i = 3 ∧ post 1 E1 z) ∨ (i = 5 ∧ post 2 E1 z)) E p0 p1
set_option maxRecDepth 100000 in
set_option maxHeartbeats 4000000 in
theorem cw_endTreaty (l : Launch) (g : gE) (A : Nat → Nat → Nat) (u : Nat) (E : Off) (z : Nat → Int64) (p0 : Int32) (p1 : Int32) (post : Int32 → Off → (Nat → Int64) → Prop) (h : ww_endTreaty post E z p0 p1) : FnW l g yL_endTreaty cL_endTreaty 5 (some .int) [(0, 10, 13, 21), (0, 10, 17, 43)] 9 385 4 24 (outW g A u E z) [.ref (A 0 0), .int p0, .int p1, .ref u] (pO (outW g A u) post) := by
  refine FnW.of (by decide) (Nat.le_of_ble_eq_true rfl) (fun x hC hZ hNw hT hst => ?_)
  unfold ww_endTreaty at h
  show G x g 5 0 0 (outW g A u E z) 0 [(0, .ref (A 0 0)), (1, .int p0), (2, .int p1), (3, .ref u)] []
  refine g_aload_n hC dL_endTreaty_0 1 rfl rfl 3 rfl ?_
  refine g_iconst hC (0 : Int32) dL_endTreaty_1 2 rfl iconst_0 ?_
  refine g_aload_n hC dL_endTreaty_2 3 rfl rfl 0 rfl ?_
  refine g_iload_n hC dL_endTreaty_3 4 rfl rfl 1 rfl ?_
  refine g_iload_n hC dL_endTreaty_4 5 rfl rfl 2 rfl ?_
  refine g_callVC hC hNw hst (ct_X4_endTreaty l g A E p0 p1 _ _ h) gY_X4_endTreaty dL_endTreaty_5 8 rfl ml_L_118 [(u, .inl (g.2.1 4, 1, .inr (.inl z)))] [] (by rw [List.append_nil]; rfl) [.int (0 : Int32), .ref u] rfl rfl rfl 0 8 rfl rfl ⟨Nat.le_of_ble_eq_true rfl, Nat.le_of_ble_eq_true rfl⟩ (Nat.le_of_ble_eq_true rfl) ⟨Nat.le_of_ble_eq_true rfl, Nat.le_of_ble_eq_true rfl⟩ ?_ ?_
  · rintro E9 w9 ⟨i9, o9, hi9, rfl, h⟩
    rcases h with ⟨rfl, h⟩ | ⟨rfl, h⟩
    · obtain rfl := Option.some.inj (show some "java/lang/IndexOutOfBoundsException" = some E9 from hi9)
      refine g_catch hC hNw (by simp [gNwL]) [] ⟨0, 10, 13, 21⟩ [⟨0, 10, 17, 43⟩] hT (fun z9 hz9 => nomatch hz9) (by decide) (by decide) cl_L_21 (fun q9 => ?_)
      refine g_ws (ws2 := (outW g A u o9 z)) (by rw [List.append_nil]; rfl) ?_
      refine g_widen (k2 := 4) (n2 := 24) (Nat.le_of_ble_eq_true rfl) (Nat.le_of_ble_eq_true rfl) ?_
      show G x g 5 4 24 (outW g A u o9 z) 13 [(0, .ref (A 0 0)), (1, .int p0), (2, .int p1), (3, .ref u)] [.ref q9]
      refine g_astore (lv2 := [(4, .ref q9), (0, .ref (A 0 0)), (1, .int p0), (2, .int p1), (3, .ref u)]) hC dL_endTreaty_13 15 rfl (by decide) rfl ?_
      refine g_iconst hC (1 : Int32) dL_endTreaty_15 16 rfl iconst_1 ?_
      exact g_iret hC hZ dL_endTreaty_16 ⟨_, _, _, rfl, rfl, h⟩
    · obtain rfl := Option.some.inj (show some "java/util/NoSuchElementException" = some E9 from hi9)
      refine g_catch hC hNw (by simp [gNwL]) [⟨0, 10, 13, 21⟩] ⟨0, 10, 17, 43⟩ [] hT (fun z9 hz9 => by rcases List.mem_singleton.mp hz9 with rfl; exact Or.inr ⟨by decide, _, cl_L_21, g_nc hC 5 3 (by decide) rfl rfl⟩) (by decide) (by decide) cl_L_43 (fun q9 => ?_)
      refine g_ws (ws2 := (outW g A u o9 z)) (by rw [List.append_nil]; rfl) ?_
      refine g_widen (k2 := 4) (n2 := 24) (Nat.le_of_ble_eq_true rfl) (Nat.le_of_ble_eq_true rfl) ?_
      show G x g 5 4 24 (outW g A u o9 z) 17 [(0, .ref (A 0 0)), (1, .int p0), (2, .int p1), (3, .ref u)] [.ref q9]
      refine g_astore (lv2 := [(4, .ref q9), (0, .ref (A 0 0)), (1, .int p0), (2, .int p1), (3, .ref u)]) hC dL_endTreaty_17 19 rfl (by decide) rfl ?_
      refine g_iconst hC (2 : Int32) dL_endTreaty_19 20 rfl iconst_2 ?_
      exact g_iret hC hZ dL_endTreaty_20 ⟨_, _, _, rfl, rfl, h⟩
  · rintro r w1 ⟨v1, o1, rfl, rfl, h⟩
    refine g_ws (ws2 := (outW g A u o1 z)) (by rw [List.append_nil]; rfl) ?_
    refine g_widen (k2 := 4) (n2 := 24) (Nat.le_of_ble_eq_true rfl) (Nat.le_of_ble_eq_true rfl) ?_
    show G x g 5 4 24 (outW g A u o1 z) 8 [(0, .ref (A 0 0)), (1, .int p0), (2, .int p1), (3, .ref u)] [.int v1, .int (0 : Int32), .ref u]
    refine g_i2l hC dL_endTreaty_8 9 rfl ?_
    refine g_last (ws2 := (outW g A u o1 (vp_updL z (0 : Int32).toNatClampNeg v1.toInt64))) hC dL_endTreaty_9 10 rfl 0 rfl (vp_in_d (by decide)) rfl ?_
    refine g_goto hC dL_endTreaty_10 21 (by decide) ?_
    refine g_iconst hC (0 : Int32) dL_endTreaty_21 22 rfl iconst_0 ?_
    exact g_iret hC hZ dL_endTreaty_22 ⟨_, _, _, rfl, rfl, h⟩
def ww_clauseOf (post : Int32 → Off → (Nat → Int64) → Prop) (E : Off) (z : Nat → Int64) (p0 : Int32) (p1 : Int32) : Prop := wp_X4_clauseOf (fun (v1 : Int32) E1 => post 0 E1 (vp_updL z (0 : Int32).toNatClampNeg v1.toInt64)) (fun i E1 => (i = 3 ∧ post 1 E1 z) ∨ (i = 5 ∧ post 2 E1 z)) E p0 p1
set_option maxRecDepth 100000 in
set_option maxHeartbeats 4000000 in
theorem cw_clauseOf (l : Launch) (g : gE) (A : Nat → Nat → Nat) (u : Nat) (E : Off) (z : Nat → Int64) (p0 : Int32) (p1 : Int32) (post : Int32 → Off → (Nat → Int64) → Prop) (h : ww_clauseOf post E z p0 p1) : FnW l g yL_clauseOf cL_clauseOf 5 (some .int) [(0, 10, 13, 21), (0, 10, 17, 43)] 9 154 3 18 (outW g A u E z) [.ref (A 0 0), .int p0, .int p1, .ref u] (pO (outW g A u) post) := by
  refine FnW.of (by decide) (Nat.le_of_ble_eq_true rfl) (fun x hC hZ hNw hT hst => ?_)
  unfold ww_clauseOf at h
  show G x g 5 0 0 (outW g A u E z) 0 [(0, .ref (A 0 0)), (1, .int p0), (2, .int p1), (3, .ref u)] []
  refine g_aload_n hC dL_clauseOf_0 1 rfl rfl 3 rfl ?_
  refine g_iconst hC (0 : Int32) dL_clauseOf_1 2 rfl iconst_0 ?_
  refine g_aload_n hC dL_clauseOf_2 3 rfl rfl 0 rfl ?_
  refine g_iload_n hC dL_clauseOf_3 4 rfl rfl 1 rfl ?_
  refine g_iload_n hC dL_clauseOf_4 5 rfl rfl 2 rfl ?_
  refine g_callVC hC hNw hst (ct_X4_clauseOf l g A E p0 p1 _ _ h) gY_X4_clauseOf dL_clauseOf_5 8 rfl ml_L_121 [(u, .inl (g.2.1 4, 1, .inr (.inl z)))] [] (by rw [List.append_nil]; rfl) [.int (0 : Int32), .ref u] rfl rfl rfl 0 8 rfl rfl ⟨Nat.le_of_ble_eq_true rfl, Nat.le_of_ble_eq_true rfl⟩ (Nat.le_of_ble_eq_true rfl) ⟨Nat.le_of_ble_eq_true rfl, Nat.le_of_ble_eq_true rfl⟩ ?_ ?_
  · rintro E9 w9 ⟨i9, o9, hi9, rfl, h⟩
    rcases h with ⟨rfl, h⟩ | ⟨rfl, h⟩
    · obtain rfl := Option.some.inj (show some "java/lang/IndexOutOfBoundsException" = some E9 from hi9)
      refine g_catch hC hNw (by simp [gNwL]) [] ⟨0, 10, 13, 21⟩ [⟨0, 10, 17, 43⟩] hT (fun z9 hz9 => nomatch hz9) (by decide) (by decide) cl_L_21 (fun q9 => ?_)
      refine g_ws (ws2 := (outW g A u o9 z)) (by rw [List.append_nil]; rfl) ?_
      refine g_widen (k2 := 3) (n2 := 18) (Nat.le_of_ble_eq_true rfl) (Nat.le_of_ble_eq_true rfl) ?_
      show G x g 5 3 18 (outW g A u o9 z) 13 [(0, .ref (A 0 0)), (1, .int p0), (2, .int p1), (3, .ref u)] [.ref q9]
      refine g_astore (lv2 := [(4, .ref q9), (0, .ref (A 0 0)), (1, .int p0), (2, .int p1), (3, .ref u)]) hC dL_clauseOf_13 15 rfl (by decide) rfl ?_
      refine g_iconst hC (1 : Int32) dL_clauseOf_15 16 rfl iconst_1 ?_
      exact g_iret hC hZ dL_clauseOf_16 ⟨_, _, _, rfl, rfl, h⟩
    · obtain rfl := Option.some.inj (show some "java/util/NoSuchElementException" = some E9 from hi9)
      refine g_catch hC hNw (by simp [gNwL]) [⟨0, 10, 13, 21⟩] ⟨0, 10, 17, 43⟩ [] hT (fun z9 hz9 => by rcases List.mem_singleton.mp hz9 with rfl; exact Or.inr ⟨by decide, _, cl_L_21, g_nc hC 5 3 (by decide) rfl rfl⟩) (by decide) (by decide) cl_L_43 (fun q9 => ?_)
      refine g_ws (ws2 := (outW g A u o9 z)) (by rw [List.append_nil]; rfl) ?_
      refine g_widen (k2 := 3) (n2 := 18) (Nat.le_of_ble_eq_true rfl) (Nat.le_of_ble_eq_true rfl) ?_
      show G x g 5 3 18 (outW g A u o9 z) 17 [(0, .ref (A 0 0)), (1, .int p0), (2, .int p1), (3, .ref u)] [.ref q9]
      refine g_astore (lv2 := [(4, .ref q9), (0, .ref (A 0 0)), (1, .int p0), (2, .int p1), (3, .ref u)]) hC dL_clauseOf_17 19 rfl (by decide) rfl ?_
      refine g_iconst hC (2 : Int32) dL_clauseOf_19 20 rfl iconst_2 ?_
      exact g_iret hC hZ dL_clauseOf_20 ⟨_, _, _, rfl, rfl, h⟩
  · rintro r w1 ⟨v1, o1, rfl, rfl, h⟩
    refine g_ws (ws2 := (outW g A u o1 z)) (by rw [List.append_nil]; rfl) ?_
    refine g_widen (k2 := 3) (n2 := 18) (Nat.le_of_ble_eq_true rfl) (Nat.le_of_ble_eq_true rfl) ?_
    show G x g 5 3 18 (outW g A u o1 z) 8 [(0, .ref (A 0 0)), (1, .int p0), (2, .int p1), (3, .ref u)] [.int v1, .int (0 : Int32), .ref u]
    refine g_i2l hC dL_clauseOf_8 9 rfl ?_
    refine g_last (ws2 := (outW g A u o1 (vp_updL z (0 : Int32).toNatClampNeg v1.toInt64))) hC dL_clauseOf_9 10 rfl 0 rfl (vp_in_d (by decide)) rfl ?_
    refine g_goto hC dL_clauseOf_10 21 (by decide) ?_
    refine g_iconst hC (0 : Int32) dL_clauseOf_21 22 rfl iconst_0 ?_
    exact g_iret hC hZ dL_clauseOf_22 ⟨_, _, _, rfl, rfl, h⟩
def ww_quotaOf (post : Int32 → Off → (Nat → Int64) → Prop) (E : Off) (z : Nat → Int64) (p0 : Int32) : Prop := wp_X4_quotaOf (fun (v1 : Int32) E1 => post 0 E1 (vp_updL z (0 : Int32).toNatClampNeg v1.toInt64)) (fun i E1 => (i = 3 ∧ post 1 E1 z)) E p0
set_option maxRecDepth 100000 in
set_option maxHeartbeats 4000000 in
theorem cw_quotaOf (l : Launch) (g : gE) (A : Nat → Nat → Nat) (u : Nat) (E : Off) (z : Nat → Int64) (p0 : Int32) (post : Int32 → Off → (Nat → Int64) → Prop) (h : ww_quotaOf post E z p0) : FnW l g yL_quotaOf cL_quotaOf 4 (some .int) [(0, 9, 12, 21)] 9 153 1 6 (outW g A u E z) [.ref (A 0 0), .int p0, .ref u] (pO (outW g A u) post) := by
  refine FnW.of (by decide) (Nat.le_of_ble_eq_true rfl) (fun x hC hZ hNw hT hst => ?_)
  unfold ww_quotaOf at h
  show G x g 4 0 0 (outW g A u E z) 0 [(0, .ref (A 0 0)), (1, .int p0), (2, .ref u)] []
  refine g_aload_n hC dL_quotaOf_0 1 rfl rfl 2 rfl ?_
  refine g_iconst hC (0 : Int32) dL_quotaOf_1 2 rfl iconst_0 ?_
  refine g_aload_n hC dL_quotaOf_2 3 rfl rfl 0 rfl ?_
  refine g_iload_n hC dL_quotaOf_3 4 rfl rfl 1 rfl ?_
  refine g_callVC hC hNw hst (ct_X4_quotaOf l g A E p0 _ _ h) gY_X4_quotaOf dL_quotaOf_4 7 rfl ml_L_125 [(u, .inl (g.2.1 4, 1, .inr (.inl z)))] [] (by rw [List.append_nil]; rfl) [.int (0 : Int32), .ref u] rfl rfl rfl 0 8 rfl rfl ⟨Nat.le_of_ble_eq_true rfl, Nat.le_of_ble_eq_true rfl⟩ (Nat.le_of_ble_eq_true rfl) ⟨Nat.le_of_ble_eq_true rfl, Nat.le_of_ble_eq_true rfl⟩ ?_ ?_
  · rintro E9 w9 ⟨i9, o9, hi9, rfl, h⟩
    obtain ⟨rfl, h⟩ := h
    obtain rfl := Option.some.inj (show some "java/lang/IndexOutOfBoundsException" = some E9 from hi9)
    refine g_catch hC hNw (by simp [gNwL]) [] ⟨0, 9, 12, 21⟩ [] hT (fun z9 hz9 => nomatch hz9) (by decide) (by decide) cl_L_21 (fun q9 => ?_)
    refine g_ws (ws2 := (outW g A u o9 z)) (by rw [List.append_nil]; rfl) ?_
    refine g_widen (k2 := 1) (n2 := 6) (Nat.le_of_ble_eq_true rfl) (Nat.le_of_ble_eq_true rfl) ?_
    show G x g 4 1 6 (outW g A u o9 z) 12 [(0, .ref (A 0 0)), (1, .int p0), (2, .ref u)] [.ref q9]
    refine g_astore_n (lv2 := [(3, .ref q9), (0, .ref (A 0 0)), (1, .int p0), (2, .ref u)]) hC dL_quotaOf_12 13 rfl rfl (by decide) rfl ?_
    refine g_iconst hC (1 : Int32) dL_quotaOf_13 14 rfl iconst_1 ?_
    exact g_iret hC hZ dL_quotaOf_14 ⟨_, _, _, rfl, rfl, h⟩
  · rintro r w1 ⟨v1, o1, rfl, rfl, h⟩
    refine g_ws (ws2 := (outW g A u o1 z)) (by rw [List.append_nil]; rfl) ?_
    refine g_widen (k2 := 1) (n2 := 6) (Nat.le_of_ble_eq_true rfl) (Nat.le_of_ble_eq_true rfl) ?_
    show G x g 4 1 6 (outW g A u o1 z) 7 [(0, .ref (A 0 0)), (1, .int p0), (2, .ref u)] [.int v1, .int (0 : Int32), .ref u]
    refine g_i2l hC dL_quotaOf_7 8 rfl ?_
    refine g_last (ws2 := (outW g A u o1 (vp_updL z (0 : Int32).toNatClampNeg v1.toInt64))) hC dL_quotaOf_8 9 rfl 0 rfl (vp_in_d (by decide)) rfl ?_
    refine g_goto hC dL_quotaOf_9 15 (by decide) ?_
    refine g_iconst hC (0 : Int32) dL_quotaOf_15 16 rfl iconst_0 ?_
    exact g_iret hC hZ dL_quotaOf_16 ⟨_, _, _, rfl, rfl, h⟩
def ww_residents (post : Int32 → Off → (Nat → Int64) → Prop) (E : Off) (z : Nat → Int64) (p0 : Int32) : Prop := wp_X4_residents (fun (v1 : Int32) E1 => post 0 E1 (vp_updL z (0 : Int32).toNatClampNeg v1.toInt64)) (fun i E1 => (i = 3 ∧ post 1 E1 z)) E p0
set_option maxRecDepth 100000 in
set_option maxHeartbeats 4000000 in
theorem cw_residents (l : Launch) (g : gE) (A : Nat → Nat → Nat) (u : Nat) (E : Off) (z : Nat → Int64) (p0 : Int32) (post : Int32 → Off → (Nat → Int64) → Prop) (h : ww_residents post E z p0) : FnW l g yL_residents cL_residents 4 (some .int) [(0, 9, 12, 21)] 9 153 1 6 (outW g A u E z) [.ref (A 0 0), .int p0, .ref u] (pO (outW g A u) post) := by
  refine FnW.of (by decide) (Nat.le_of_ble_eq_true rfl) (fun x hC hZ hNw hT hst => ?_)
  unfold ww_residents at h
  show G x g 4 0 0 (outW g A u E z) 0 [(0, .ref (A 0 0)), (1, .int p0), (2, .ref u)] []
  refine g_aload_n hC dL_residents_0 1 rfl rfl 2 rfl ?_
  refine g_iconst hC (0 : Int32) dL_residents_1 2 rfl iconst_0 ?_
  refine g_aload_n hC dL_residents_2 3 rfl rfl 0 rfl ?_
  refine g_iload_n hC dL_residents_3 4 rfl rfl 1 rfl ?_
  refine g_callVC hC hNw hst (ct_X4_residents l g A E p0 _ _ h) gY_X4_residents dL_residents_4 7 rfl ml_L_128 [(u, .inl (g.2.1 4, 1, .inr (.inl z)))] [] (by rw [List.append_nil]; rfl) [.int (0 : Int32), .ref u] rfl rfl rfl 0 8 rfl rfl ⟨Nat.le_of_ble_eq_true rfl, Nat.le_of_ble_eq_true rfl⟩ (Nat.le_of_ble_eq_true rfl) ⟨Nat.le_of_ble_eq_true rfl, Nat.le_of_ble_eq_true rfl⟩ ?_ ?_
  · rintro E9 w9 ⟨i9, o9, hi9, rfl, h⟩
    obtain ⟨rfl, h⟩ := h
    obtain rfl := Option.some.inj (show some "java/lang/IndexOutOfBoundsException" = some E9 from hi9)
    refine g_catch hC hNw (by simp [gNwL]) [] ⟨0, 9, 12, 21⟩ [] hT (fun z9 hz9 => nomatch hz9) (by decide) (by decide) cl_L_21 (fun q9 => ?_)
    refine g_ws (ws2 := (outW g A u o9 z)) (by rw [List.append_nil]; rfl) ?_
    refine g_widen (k2 := 1) (n2 := 6) (Nat.le_of_ble_eq_true rfl) (Nat.le_of_ble_eq_true rfl) ?_
    show G x g 4 1 6 (outW g A u o9 z) 12 [(0, .ref (A 0 0)), (1, .int p0), (2, .ref u)] [.ref q9]
    refine g_astore_n (lv2 := [(3, .ref q9), (0, .ref (A 0 0)), (1, .int p0), (2, .ref u)]) hC dL_residents_12 13 rfl rfl (by decide) rfl ?_
    refine g_iconst hC (1 : Int32) dL_residents_13 14 rfl iconst_1 ?_
    exact g_iret hC hZ dL_residents_14 ⟨_, _, _, rfl, rfl, h⟩
  · rintro r w1 ⟨v1, o1, rfl, rfl, h⟩
    refine g_ws (ws2 := (outW g A u o1 z)) (by rw [List.append_nil]; rfl) ?_
    refine g_widen (k2 := 1) (n2 := 6) (Nat.le_of_ble_eq_true rfl) (Nat.le_of_ble_eq_true rfl) ?_
    show G x g 4 1 6 (outW g A u o1 z) 7 [(0, .ref (A 0 0)), (1, .int p0), (2, .ref u)] [.int v1, .int (0 : Int32), .ref u]
    refine g_i2l hC dL_residents_7 8 rfl ?_
    refine g_last (ws2 := (outW g A u o1 (vp_updL z (0 : Int32).toNatClampNeg v1.toInt64))) hC dL_residents_8 9 rfl 0 rfl (vp_in_d (by decide)) rfl ?_
    refine g_goto hC dL_residents_9 15 (by decide) ?_
    refine g_iconst hC (0 : Int32) dL_residents_15 16 rfl iconst_0 ?_
    exact g_iret hC hZ dL_residents_16 ⟨_, _, _, rfl, rfl, h⟩
def ww_residentAt (post : Int32 → Off → (Nat → Int64) → Prop) (E : Off) (z : Nat → Int64) (p0 : Int32) (p1 : Int32) : Prop := wp_X4_residentAt (fun (v1 : Int32) E1 => post 0 E1 (vp_updL z (0 : Int32).toNatClampNeg v1.toInt64)) (fun i E1 => (i = 3 ∧ post 1 E1 z) ∨ (i = 5 ∧ post 2 E1 z)) E p0 p1
set_option maxRecDepth 100000 in
set_option maxHeartbeats 4000000 in
theorem cw_residentAt (l : Launch) (g : gE) (A : Nat → Nat → Nat) (u : Nat) (E : Off) (z : Nat → Int64) (p0 : Int32) (p1 : Int32) (post : Int32 → Off → (Nat → Int64) → Prop) (h : ww_residentAt post E z p0 p1) : FnW l g yL_residentAt cL_residentAt 5 (some .int) [(0, 10, 13, 21), (0, 10, 17, 43)] 9 155 2 12 (outW g A u E z) [.ref (A 0 0), .int p0, .int p1, .ref u] (pO (outW g A u) post) := by
  refine FnW.of (by decide) (Nat.le_of_ble_eq_true rfl) (fun x hC hZ hNw hT hst => ?_)
  unfold ww_residentAt at h
  show G x g 5 0 0 (outW g A u E z) 0 [(0, .ref (A 0 0)), (1, .int p0), (2, .int p1), (3, .ref u)] []
  refine g_aload_n hC dL_residentAt_0 1 rfl rfl 3 rfl ?_
  refine g_iconst hC (0 : Int32) dL_residentAt_1 2 rfl iconst_0 ?_
  refine g_aload_n hC dL_residentAt_2 3 rfl rfl 0 rfl ?_
  refine g_iload_n hC dL_residentAt_3 4 rfl rfl 1 rfl ?_
  refine g_iload_n hC dL_residentAt_4 5 rfl rfl 2 rfl ?_
  refine g_callVC hC hNw hst (ct_X4_residentAt l g A E p0 p1 _ _ h) gY_X4_residentAt dL_residentAt_5 8 rfl ml_L_131 [(u, .inl (g.2.1 4, 1, .inr (.inl z)))] [] (by rw [List.append_nil]; rfl) [.int (0 : Int32), .ref u] rfl rfl rfl 0 8 rfl rfl ⟨Nat.le_of_ble_eq_true rfl, Nat.le_of_ble_eq_true rfl⟩ (Nat.le_of_ble_eq_true rfl) ⟨Nat.le_of_ble_eq_true rfl, Nat.le_of_ble_eq_true rfl⟩ ?_ ?_
  · rintro E9 w9 ⟨i9, o9, hi9, rfl, h⟩
    rcases h with ⟨rfl, h⟩ | ⟨rfl, h⟩
    · obtain rfl := Option.some.inj (show some "java/lang/IndexOutOfBoundsException" = some E9 from hi9)
      refine g_catch hC hNw (by simp [gNwL]) [] ⟨0, 10, 13, 21⟩ [⟨0, 10, 17, 43⟩] hT (fun z9 hz9 => nomatch hz9) (by decide) (by decide) cl_L_21 (fun q9 => ?_)
      refine g_ws (ws2 := (outW g A u o9 z)) (by rw [List.append_nil]; rfl) ?_
      refine g_widen (k2 := 2) (n2 := 12) (Nat.le_of_ble_eq_true rfl) (Nat.le_of_ble_eq_true rfl) ?_
      show G x g 5 2 12 (outW g A u o9 z) 13 [(0, .ref (A 0 0)), (1, .int p0), (2, .int p1), (3, .ref u)] [.ref q9]
      refine g_astore (lv2 := [(4, .ref q9), (0, .ref (A 0 0)), (1, .int p0), (2, .int p1), (3, .ref u)]) hC dL_residentAt_13 15 rfl (by decide) rfl ?_
      refine g_iconst hC (1 : Int32) dL_residentAt_15 16 rfl iconst_1 ?_
      exact g_iret hC hZ dL_residentAt_16 ⟨_, _, _, rfl, rfl, h⟩
    · obtain rfl := Option.some.inj (show some "java/util/NoSuchElementException" = some E9 from hi9)
      refine g_catch hC hNw (by simp [gNwL]) [⟨0, 10, 13, 21⟩] ⟨0, 10, 17, 43⟩ [] hT (fun z9 hz9 => by rcases List.mem_singleton.mp hz9 with rfl; exact Or.inr ⟨by decide, _, cl_L_21, g_nc hC 5 3 (by decide) rfl rfl⟩) (by decide) (by decide) cl_L_43 (fun q9 => ?_)
      refine g_ws (ws2 := (outW g A u o9 z)) (by rw [List.append_nil]; rfl) ?_
      refine g_widen (k2 := 2) (n2 := 12) (Nat.le_of_ble_eq_true rfl) (Nat.le_of_ble_eq_true rfl) ?_
      show G x g 5 2 12 (outW g A u o9 z) 17 [(0, .ref (A 0 0)), (1, .int p0), (2, .int p1), (3, .ref u)] [.ref q9]
      refine g_astore (lv2 := [(4, .ref q9), (0, .ref (A 0 0)), (1, .int p0), (2, .int p1), (3, .ref u)]) hC dL_residentAt_17 19 rfl (by decide) rfl ?_
      refine g_iconst hC (2 : Int32) dL_residentAt_19 20 rfl iconst_2 ?_
      exact g_iret hC hZ dL_residentAt_20 ⟨_, _, _, rfl, rfl, h⟩
  · rintro r w1 ⟨v1, o1, rfl, rfl, h⟩
    refine g_ws (ws2 := (outW g A u o1 z)) (by rw [List.append_nil]; rfl) ?_
    refine g_widen (k2 := 2) (n2 := 12) (Nat.le_of_ble_eq_true rfl) (Nat.le_of_ble_eq_true rfl) ?_
    show G x g 5 2 12 (outW g A u o1 z) 8 [(0, .ref (A 0 0)), (1, .int p0), (2, .int p1), (3, .ref u)] [.int v1, .int (0 : Int32), .ref u]
    refine g_i2l hC dL_residentAt_8 9 rfl ?_
    refine g_last (ws2 := (outW g A u o1 (vp_updL z (0 : Int32).toNatClampNeg v1.toInt64))) hC dL_residentAt_9 10 rfl 0 rfl (vp_in_d (by decide)) rfl ?_
    refine g_goto hC dL_residentAt_10 21 (by decide) ?_
    refine g_iconst hC (0 : Int32) dL_residentAt_21 22 rfl iconst_0 ?_
    exact g_iret hC hZ dL_residentAt_22 ⟨_, _, _, rfl, rfl, h⟩
def ww_isBanned (post : Int32 → Off → (Nat → Int64) → Prop) (E : Off) (z : Nat → Int64) (p0 : Int32) (p1 : Int32) : Prop := wp_X4_isBanned (fun (v1 : Int32) E1 => ((v1 = 0 → post 0 E1 (vp_updL z (0 : Int32).toNatClampNeg 0)) ∧ (¬ v1 = 0 → post 0 E1 (vp_updL z (0 : Int32).toNatClampNeg 1)))) (fun i E1 => (i = 3 ∧ post 1 E1 z) ∨ (i = 1 ∧ post 2 E1 z)) E p0 p1
set_option maxRecDepth 100000 in
set_option maxHeartbeats 4000000 in
theorem cw_isBanned (l : Launch) (g : gE) (A : Nat → Nat → Nat) (u : Nat) (E : Off) (z : Nat → Int64) (p0 : Int32) (p1 : Int32) (post : Int32 → Off → (Nat → Int64) → Prop) (h : ww_isBanned post E z p0 p1) : FnW l g yL_isBanned cL_isBanned 5 (some .int) [(0, 17, 20, 21), (0, 17, 24, 13)] 9 156 4 24 (outW g A u E z) [.ref (A 0 0), .int p0, .int p1, .ref u] (pO (outW g A u) post) := by
  refine FnW.of (by decide) (Nat.le_of_ble_eq_true rfl) (fun x hC hZ hNw hT hst => ?_)
  unfold ww_isBanned at h
  show G x g 5 0 0 (outW g A u E z) 0 [(0, .ref (A 0 0)), (1, .int p0), (2, .int p1), (3, .ref u)] []
  refine g_aload_n hC dL_isBanned_0 1 rfl rfl 3 rfl ?_
  refine g_iconst hC (0 : Int32) dL_isBanned_1 2 rfl iconst_0 ?_
  refine g_aload_n hC dL_isBanned_2 3 rfl rfl 0 rfl ?_
  refine g_iload_n hC dL_isBanned_3 4 rfl rfl 1 rfl ?_
  refine g_iload_n hC dL_isBanned_4 5 rfl rfl 2 rfl ?_
  refine g_callVC hC hNw hst (ct_X4_isBanned l g A E p0 p1 _ _ h) gY_X4_isBanned dL_isBanned_5 8 rfl ml_L_134 [(u, .inl (g.2.1 4, 1, .inr (.inl z)))] [] (by rw [List.append_nil]; rfl) [.int (0 : Int32), .ref u] rfl rfl rfl 0 8 rfl rfl ⟨Nat.le_of_ble_eq_true rfl, Nat.le_of_ble_eq_true rfl⟩ (Nat.le_of_ble_eq_true rfl) ⟨Nat.le_of_ble_eq_true rfl, Nat.le_of_ble_eq_true rfl⟩ ?_ ?_
  · rintro E9 w9 ⟨i9, o9, hi9, rfl, h⟩
    rcases h with ⟨rfl, h⟩ | ⟨rfl, h⟩
    · obtain rfl := Option.some.inj (show some "java/lang/IndexOutOfBoundsException" = some E9 from hi9)
      refine g_catch hC hNw (by simp [gNwL]) [] ⟨0, 17, 20, 21⟩ [⟨0, 17, 24, 13⟩] hT (fun z9 hz9 => nomatch hz9) (by decide) (by decide) cl_L_21 (fun q9 => ?_)
      refine g_ws (ws2 := (outW g A u o9 z)) (by rw [List.append_nil]; rfl) ?_
      refine g_widen (k2 := 4) (n2 := 24) (Nat.le_of_ble_eq_true rfl) (Nat.le_of_ble_eq_true rfl) ?_
      show G x g 5 4 24 (outW g A u o9 z) 20 [(0, .ref (A 0 0)), (1, .int p0), (2, .int p1), (3, .ref u)] [.ref q9]
      refine g_astore (lv2 := [(4, .ref q9), (0, .ref (A 0 0)), (1, .int p0), (2, .int p1), (3, .ref u)]) hC dL_isBanned_20 22 rfl (by decide) rfl ?_
      refine g_iconst hC (1 : Int32) dL_isBanned_22 23 rfl iconst_1 ?_
      exact g_iret hC hZ dL_isBanned_23 ⟨_, _, _, rfl, rfl, h⟩
    · obtain rfl := Option.some.inj (show some "java/lang/IllegalArgumentException" = some E9 from hi9)
      refine g_catch hC hNw (by simp [gNwL]) [⟨0, 17, 20, 21⟩] ⟨0, 17, 24, 13⟩ [] hT (fun z9 hz9 => by rcases List.mem_singleton.mp hz9 with rfl; exact Or.inr ⟨by decide, _, cl_L_21, g_nc hC 1 3 (by decide) rfl rfl⟩) (by decide) (by decide) cl_L_13 (fun q9 => ?_)
      refine g_ws (ws2 := (outW g A u o9 z)) (by rw [List.append_nil]; rfl) ?_
      refine g_widen (k2 := 4) (n2 := 24) (Nat.le_of_ble_eq_true rfl) (Nat.le_of_ble_eq_true rfl) ?_
      show G x g 5 4 24 (outW g A u o9 z) 24 [(0, .ref (A 0 0)), (1, .int p0), (2, .int p1), (3, .ref u)] [.ref q9]
      refine g_astore (lv2 := [(4, .ref q9), (0, .ref (A 0 0)), (1, .int p0), (2, .int p1), (3, .ref u)]) hC dL_isBanned_24 26 rfl (by decide) rfl ?_
      refine g_iconst hC (2 : Int32) dL_isBanned_26 27 rfl iconst_2 ?_
      exact g_iret hC hZ dL_isBanned_27 ⟨_, _, _, rfl, rfl, h⟩
  · rintro r w1 ⟨v1, o1, rfl, rfl, h⟩
    refine g_ws (ws2 := (outW g A u o1 z)) (by rw [List.append_nil]; rfl) ?_
    refine g_widen (k2 := 4) (n2 := 24) (Nat.le_of_ble_eq_true rfl) (Nat.le_of_ble_eq_true rfl) ?_
    show G x g 5 4 24 (outW g A u o1 z) 8 [(0, .ref (A 0 0)), (1, .int p0), (2, .int p1), (3, .ref u)] [.int v1, .int (0 : Int32), .ref u]
    refine g_if_eq hC dL_isBanned_8 15 (by decide) 11 rfl (fun c => ?_) (fun c => ?_)
    · have h := h.1 c
      refine g_lconst hC (0 : Int64) dL_isBanned_15 16 rfl rfl ?_
      refine g_last (ws2 := (outW g A u o1 (vp_updL z (0 : Int32).toNatClampNeg (0 : Int64)))) hC dL_isBanned_16 17 rfl 0 rfl (vp_in_d (by decide)) rfl ?_
      refine g_goto hC dL_isBanned_17 28 (by decide) ?_
      refine g_iconst hC (0 : Int32) dL_isBanned_28 29 rfl iconst_0 ?_
      exact g_iret hC hZ dL_isBanned_29 ⟨_, _, _, rfl, rfl, h⟩
    · have h := h.2 c
      refine g_lconst hC (1 : Int64) dL_isBanned_11 12 rfl rfl ?_
      refine g_goto hC dL_isBanned_12 16 (by decide) ?_
      refine g_last (ws2 := (outW g A u o1 (vp_updL z (0 : Int32).toNatClampNeg (1 : Int64)))) hC dL_isBanned_16 17 rfl 0 rfl (vp_in_d (by decide)) rfl ?_
      refine g_goto hC dL_isBanned_17 28 (by decide) ?_
      refine g_iconst hC (0 : Int32) dL_isBanned_28 29 rfl iconst_0 ?_
      exact g_iret hC hZ dL_isBanned_29 ⟨_, _, _, rfl, rfl, h⟩
def ww_canMove (post : Int32 → Off → (Nat → Int64) → Prop) (E : Off) (z : Nat → Int64) (p0 : Int32) (p1 : Int32) : Prop := wp_X4_canMove (fun (v1 : Int32) E1 => ((v1 = 0 → post 0 E1 (vp_updL z (0 : Int32).toNatClampNeg 0)) ∧ (¬ v1 = 0 → post 0 E1 (vp_updL z (0 : Int32).toNatClampNeg 1)))) (fun i E1 => (i = 3 ∧ post 1 E1 z)) E p0 p1
set_option maxRecDepth 100000 in
set_option maxHeartbeats 4000000 in
theorem cw_canMove (l : Launch) (g : gE) (A : Nat → Nat → Nat) (u : Nat) (E : Off) (z : Nat → Int64) (p0 : Int32) (p1 : Int32) (post : Int32 → Off → (Nat → Int64) → Prop) (h : ww_canMove post E z p0 p1) : FnW l g yL_canMove cL_canMove 5 (some .int) [(0, 17, 20, 21)] 9 183 2 12 (outW g A u E z) [.ref (A 0 0), .int p0, .int p1, .ref u] (pO (outW g A u) post) := by
  refine FnW.of (by decide) (Nat.le_of_ble_eq_true rfl) (fun x hC hZ hNw hT hst => ?_)
  unfold ww_canMove at h
  show G x g 5 0 0 (outW g A u E z) 0 [(0, .ref (A 0 0)), (1, .int p0), (2, .int p1), (3, .ref u)] []
  refine g_aload_n hC dL_canMove_0 1 rfl rfl 3 rfl ?_
  refine g_iconst hC (0 : Int32) dL_canMove_1 2 rfl iconst_0 ?_
  refine g_aload_n hC dL_canMove_2 3 rfl rfl 0 rfl ?_
  refine g_iload_n hC dL_canMove_3 4 rfl rfl 1 rfl ?_
  refine g_iload_n hC dL_canMove_4 5 rfl rfl 2 rfl ?_
  refine g_callVC hC hNw hst (ct_X4_canMove l g A E p0 p1 _ _ h) gY_X4_canMove dL_canMove_5 8 rfl ml_L_137 [(u, .inl (g.2.1 4, 1, .inr (.inl z)))] [] (by rw [List.append_nil]; rfl) [.int (0 : Int32), .ref u] rfl rfl rfl 0 8 rfl rfl ⟨Nat.le_of_ble_eq_true rfl, Nat.le_of_ble_eq_true rfl⟩ (Nat.le_of_ble_eq_true rfl) ⟨Nat.le_of_ble_eq_true rfl, Nat.le_of_ble_eq_true rfl⟩ ?_ ?_
  · rintro E9 w9 ⟨i9, o9, hi9, rfl, h⟩
    obtain ⟨rfl, h⟩ := h
    obtain rfl := Option.some.inj (show some "java/lang/IndexOutOfBoundsException" = some E9 from hi9)
    refine g_catch hC hNw (by simp [gNwL]) [] ⟨0, 17, 20, 21⟩ [] hT (fun z9 hz9 => nomatch hz9) (by decide) (by decide) cl_L_21 (fun q9 => ?_)
    refine g_ws (ws2 := (outW g A u o9 z)) (by rw [List.append_nil]; rfl) ?_
    refine g_widen (k2 := 2) (n2 := 12) (Nat.le_of_ble_eq_true rfl) (Nat.le_of_ble_eq_true rfl) ?_
    show G x g 5 2 12 (outW g A u o9 z) 20 [(0, .ref (A 0 0)), (1, .int p0), (2, .int p1), (3, .ref u)] [.ref q9]
    refine g_astore (lv2 := [(4, .ref q9), (0, .ref (A 0 0)), (1, .int p0), (2, .int p1), (3, .ref u)]) hC dL_canMove_20 22 rfl (by decide) rfl ?_
    refine g_iconst hC (1 : Int32) dL_canMove_22 23 rfl iconst_1 ?_
    exact g_iret hC hZ dL_canMove_23 ⟨_, _, _, rfl, rfl, h⟩
  · rintro r w1 ⟨v1, o1, rfl, rfl, h⟩
    refine g_ws (ws2 := (outW g A u o1 z)) (by rw [List.append_nil]; rfl) ?_
    refine g_widen (k2 := 2) (n2 := 12) (Nat.le_of_ble_eq_true rfl) (Nat.le_of_ble_eq_true rfl) ?_
    show G x g 5 2 12 (outW g A u o1 z) 8 [(0, .ref (A 0 0)), (1, .int p0), (2, .int p1), (3, .ref u)] [.int v1, .int (0 : Int32), .ref u]
    refine g_if_eq hC dL_canMove_8 15 (by decide) 11 rfl (fun c => ?_) (fun c => ?_)
    · have h := h.1 c
      refine g_lconst hC (0 : Int64) dL_canMove_15 16 rfl rfl ?_
      refine g_last (ws2 := (outW g A u o1 (vp_updL z (0 : Int32).toNatClampNeg (0 : Int64)))) hC dL_canMove_16 17 rfl 0 rfl (vp_in_d (by decide)) rfl ?_
      refine g_goto hC dL_canMove_17 24 (by decide) ?_
      refine g_iconst hC (0 : Int32) dL_canMove_24 25 rfl iconst_0 ?_
      exact g_iret hC hZ dL_canMove_25 ⟨_, _, _, rfl, rfl, h⟩
    · have h := h.2 c
      refine g_lconst hC (1 : Int64) dL_canMove_11 12 rfl rfl ?_
      refine g_goto hC dL_canMove_12 16 (by decide) ?_
      refine g_last (ws2 := (outW g A u o1 (vp_updL z (0 : Int32).toNatClampNeg (1 : Int64)))) hC dL_canMove_16 17 rfl 0 rfl (vp_in_d (by decide)) rfl ?_
      refine g_goto hC dL_canMove_17 24 (by decide) ?_
      refine g_iconst hC (0 : Int32) dL_canMove_24 25 rfl iconst_0 ?_
      exact g_iret hC hZ dL_canMove_25 ⟨_, _, _, rfl, rfl, h⟩
def ww_passDays (post : Int32 → Off → (Nat → Int64) → Prop) (E : Off) (z : Nat → Int64) (p0 : Int32) : Prop := wp_X4_passDays (fun (v1 : Int32) E1 => post 0 E1 (vp_updL z (0 : Int32).toNatClampNeg v1.toInt64)) (fun i E1 => (i = 1 ∧ post 1 E1 z)) E p0
set_option maxRecDepth 100000 in
set_option maxHeartbeats 4000000 in
theorem cw_passDays (l : Launch) (g : gE) (A : Nat → Nat → Nat) (u : Nat) (E : Off) (z : Nat → Int64) (p0 : Int32) (post : Int32 → Off → (Nat → Int64) → Prop) (h : ww_passDays post E z p0) : FnW l g yL_passDays cL_passDays 4 (some .int) [(0, 9, 12, 13)] 9 384 4 24 (outW g A u E z) [.ref (A 0 0), .int p0, .ref u] (pO (outW g A u) post) := by
  refine FnW.of (by decide) (Nat.le_of_ble_eq_true rfl) (fun x hC hZ hNw hT hst => ?_)
  unfold ww_passDays at h
  show G x g 4 0 0 (outW g A u E z) 0 [(0, .ref (A 0 0)), (1, .int p0), (2, .ref u)] []
  refine g_aload_n hC dL_passDays_0 1 rfl rfl 2 rfl ?_
  refine g_iconst hC (0 : Int32) dL_passDays_1 2 rfl iconst_0 ?_
  refine g_aload_n hC dL_passDays_2 3 rfl rfl 0 rfl ?_
  refine g_iload_n hC dL_passDays_3 4 rfl rfl 1 rfl ?_
  refine g_callVC hC hNw hst (ct_X4_passDays l g A E p0 _ _ h) gY_X4_passDays dL_passDays_4 7 rfl ml_L_140 [(u, .inl (g.2.1 4, 1, .inr (.inl z)))] [] (by rw [List.append_nil]; rfl) [.int (0 : Int32), .ref u] rfl rfl rfl 0 8 rfl rfl ⟨Nat.le_of_ble_eq_true rfl, Nat.le_of_ble_eq_true rfl⟩ (Nat.le_of_ble_eq_true rfl) ⟨Nat.le_of_ble_eq_true rfl, Nat.le_of_ble_eq_true rfl⟩ ?_ ?_
  · rintro E9 w9 ⟨i9, o9, hi9, rfl, h⟩
    obtain ⟨rfl, h⟩ := h
    obtain rfl := Option.some.inj (show some "java/lang/IllegalArgumentException" = some E9 from hi9)
    refine g_catch hC hNw (by simp [gNwL]) [] ⟨0, 9, 12, 13⟩ [] hT (fun z9 hz9 => nomatch hz9) (by decide) (by decide) cl_L_13 (fun q9 => ?_)
    refine g_ws (ws2 := (outW g A u o9 z)) (by rw [List.append_nil]; rfl) ?_
    refine g_widen (k2 := 4) (n2 := 24) (Nat.le_of_ble_eq_true rfl) (Nat.le_of_ble_eq_true rfl) ?_
    show G x g 4 4 24 (outW g A u o9 z) 12 [(0, .ref (A 0 0)), (1, .int p0), (2, .ref u)] [.ref q9]
    refine g_astore_n (lv2 := [(3, .ref q9), (0, .ref (A 0 0)), (1, .int p0), (2, .ref u)]) hC dL_passDays_12 13 rfl rfl (by decide) rfl ?_
    refine g_iconst hC (1 : Int32) dL_passDays_13 14 rfl iconst_1 ?_
    exact g_iret hC hZ dL_passDays_14 ⟨_, _, _, rfl, rfl, h⟩
  · rintro r w1 ⟨v1, o1, rfl, rfl, h⟩
    refine g_ws (ws2 := (outW g A u o1 z)) (by rw [List.append_nil]; rfl) ?_
    refine g_widen (k2 := 4) (n2 := 24) (Nat.le_of_ble_eq_true rfl) (Nat.le_of_ble_eq_true rfl) ?_
    show G x g 4 4 24 (outW g A u o1 z) 7 [(0, .ref (A 0 0)), (1, .int p0), (2, .ref u)] [.int v1, .int (0 : Int32), .ref u]
    refine g_i2l hC dL_passDays_7 8 rfl ?_
    refine g_last (ws2 := (outW g A u o1 (vp_updL z (0 : Int32).toNatClampNeg v1.toInt64))) hC dL_passDays_8 9 rfl 0 rfl (vp_in_d (by decide)) rfl ?_
    refine g_goto hC dL_passDays_9 15 (by decide) ?_
    refine g_iconst hC (0 : Int32) dL_passDays_15 16 rfl iconst_0 ?_
    exact g_iret hC hZ dL_passDays_16 ⟨_, _, _, rfl, rfl, h⟩
def ww_wouldExpel (post : Int32 → Off → (Nat → Int64) → Prop) (E : Off) (z : Nat → Int64) (p0 : Int32) : Prop := wp_X4_wouldExpel (fun (v1 : Int32) E1 => post 0 E1 (vp_updL z (0 : Int32).toNatClampNeg v1.toInt64)) (fun i E1 => (i = 1 ∧ post 1 E1 z)) E p0
set_option maxRecDepth 100000 in
set_option maxHeartbeats 4000000 in
theorem cw_wouldExpel (l : Launch) (g : gE) (A : Nat → Nat → Nat) (u : Nat) (E : Off) (z : Nat → Int64) (p0 : Int32) (post : Int32 → Off → (Nat → Int64) → Prop) (h : ww_wouldExpel post E z p0) : FnW l g yL_wouldExpel cL_wouldExpel 4 (some .int) [(0, 9, 12, 13)] 9 155 4 24 (outW g A u E z) [.ref (A 0 0), .int p0, .ref u] (pO (outW g A u) post) := by
  refine FnW.of (by decide) (Nat.le_of_ble_eq_true rfl) (fun x hC hZ hNw hT hst => ?_)
  unfold ww_wouldExpel at h
  show G x g 4 0 0 (outW g A u E z) 0 [(0, .ref (A 0 0)), (1, .int p0), (2, .ref u)] []
  refine g_aload_n hC dL_wouldExpel_0 1 rfl rfl 2 rfl ?_
  refine g_iconst hC (0 : Int32) dL_wouldExpel_1 2 rfl iconst_0 ?_
  refine g_aload_n hC dL_wouldExpel_2 3 rfl rfl 0 rfl ?_
  refine g_iload_n hC dL_wouldExpel_3 4 rfl rfl 1 rfl ?_
  refine g_callVC hC hNw hst (ct_X4_wouldExpel l g A E p0 _ _ h) gY_X4_wouldExpel dL_wouldExpel_4 7 rfl ml_L_143 [(u, .inl (g.2.1 4, 1, .inr (.inl z)))] [] (by rw [List.append_nil]; rfl) [.int (0 : Int32), .ref u] rfl rfl rfl 0 8 rfl rfl ⟨Nat.le_of_ble_eq_true rfl, Nat.le_of_ble_eq_true rfl⟩ (Nat.le_of_ble_eq_true rfl) ⟨Nat.le_of_ble_eq_true rfl, Nat.le_of_ble_eq_true rfl⟩ ?_ ?_
  · rintro E9 w9 ⟨i9, o9, hi9, rfl, h⟩
    obtain ⟨rfl, h⟩ := h
    obtain rfl := Option.some.inj (show some "java/lang/IllegalArgumentException" = some E9 from hi9)
    refine g_catch hC hNw (by simp [gNwL]) [] ⟨0, 9, 12, 13⟩ [] hT (fun z9 hz9 => nomatch hz9) (by decide) (by decide) cl_L_13 (fun q9 => ?_)
    refine g_ws (ws2 := (outW g A u o9 z)) (by rw [List.append_nil]; rfl) ?_
    refine g_widen (k2 := 4) (n2 := 24) (Nat.le_of_ble_eq_true rfl) (Nat.le_of_ble_eq_true rfl) ?_
    show G x g 4 4 24 (outW g A u o9 z) 12 [(0, .ref (A 0 0)), (1, .int p0), (2, .ref u)] [.ref q9]
    refine g_astore_n (lv2 := [(3, .ref q9), (0, .ref (A 0 0)), (1, .int p0), (2, .ref u)]) hC dL_wouldExpel_12 13 rfl rfl (by decide) rfl ?_
    refine g_iconst hC (1 : Int32) dL_wouldExpel_13 14 rfl iconst_1 ?_
    exact g_iret hC hZ dL_wouldExpel_14 ⟨_, _, _, rfl, rfl, h⟩
  · rintro r w1 ⟨v1, o1, rfl, rfl, h⟩
    refine g_ws (ws2 := (outW g A u o1 z)) (by rw [List.append_nil]; rfl) ?_
    refine g_widen (k2 := 4) (n2 := 24) (Nat.le_of_ble_eq_true rfl) (Nat.le_of_ble_eq_true rfl) ?_
    show G x g 4 4 24 (outW g A u o1 z) 7 [(0, .ref (A 0 0)), (1, .int p0), (2, .ref u)] [.int v1, .int (0 : Int32), .ref u]
    refine g_i2l hC dL_wouldExpel_7 8 rfl ?_
    refine g_last (ws2 := (outW g A u o1 (vp_updL z (0 : Int32).toNatClampNeg v1.toInt64))) hC dL_wouldExpel_8 9 rfl 0 rfl (vp_in_d (by decide)) rfl ?_
    refine g_goto hC dL_wouldExpel_9 15 (by decide) ?_
    refine g_iconst hC (0 : Int32) dL_wouldExpel_15 16 rfl iconst_0 ?_
    exact g_iret hC hZ dL_wouldExpel_16 ⟨_, _, _, rfl, rfl, h⟩
def ww_drawerByResidents (post : Int32 → Off → (Nat → Int64) → Prop) (E : Off) (z : Nat → Int64) (p0 : Int32) : Prop := wp_X4_drawerByResidents (fun (v1 : Int32) E1 => post 0 E1 (vp_updL z (0 : Int32).toNatClampNeg v1.toInt64)) (fun i E1 => (i = 5 ∧ post 1 E1 z)) E p0
set_option maxRecDepth 100000 in
set_option maxHeartbeats 4000000 in
theorem cw_drawerByResidents (l : Launch) (g : gE) (A : Nat → Nat → Nat) (u : Nat) (E : Off) (z : Nat → Int64) (p0 : Int32) (post : Int32 → Off → (Nat → Int64) → Prop) (h : ww_drawerByResidents post E z p0) : FnW l g yL_drawerByResidents cL_drawerByResidents 4 (some .int) [(0, 9, 12, 43)] 8 137 1 6 (outW g A u E z) [.ref (A 0 0), .int p0, .ref u] (pO (outW g A u) post) := by
  refine FnW.of (by decide) (Nat.le_of_ble_eq_true rfl) (fun x hC hZ hNw hT hst => ?_)
  unfold ww_drawerByResidents at h
  show G x g 4 0 0 (outW g A u E z) 0 [(0, .ref (A 0 0)), (1, .int p0), (2, .ref u)] []
  refine g_aload_n hC dL_drawerByResidents_0 1 rfl rfl 2 rfl ?_
  refine g_iconst hC (0 : Int32) dL_drawerByResidents_1 2 rfl iconst_0 ?_
  refine g_aload_n hC dL_drawerByResidents_2 3 rfl rfl 0 rfl ?_
  refine g_iload_n hC dL_drawerByResidents_3 4 rfl rfl 1 rfl ?_
  refine g_callVC hC hNw hst (ct_X4_drawerByResidents l g A E p0 _ _ h) gY_X4_drawerByResidents dL_drawerByResidents_4 7 rfl ml_L_146 [(u, .inl (g.2.1 4, 1, .inr (.inl z)))] [] (by rw [List.append_nil]; rfl) [.int (0 : Int32), .ref u] rfl rfl rfl 0 8 rfl rfl ⟨Nat.le_of_ble_eq_true rfl, Nat.le_of_ble_eq_true rfl⟩ (Nat.le_of_ble_eq_true rfl) ⟨Nat.le_of_ble_eq_true rfl, Nat.le_of_ble_eq_true rfl⟩ ?_ ?_
  · rintro E9 w9 ⟨i9, o9, hi9, rfl, h⟩
    obtain ⟨rfl, h⟩ := h
    obtain rfl := Option.some.inj (show some "java/util/NoSuchElementException" = some E9 from hi9)
    refine g_catch hC hNw (by simp [gNwL]) [] ⟨0, 9, 12, 43⟩ [] hT (fun z9 hz9 => nomatch hz9) (by decide) (by decide) cl_L_43 (fun q9 => ?_)
    refine g_ws (ws2 := (outW g A u o9 z)) (by rw [List.append_nil]; rfl) ?_
    refine g_widen (k2 := 1) (n2 := 6) (Nat.le_of_ble_eq_true rfl) (Nat.le_of_ble_eq_true rfl) ?_
    show G x g 4 1 6 (outW g A u o9 z) 12 [(0, .ref (A 0 0)), (1, .int p0), (2, .ref u)] [.ref q9]
    refine g_astore_n (lv2 := [(3, .ref q9), (0, .ref (A 0 0)), (1, .int p0), (2, .ref u)]) hC dL_drawerByResidents_12 13 rfl rfl (by decide) rfl ?_
    refine g_iconst hC (1 : Int32) dL_drawerByResidents_13 14 rfl iconst_1 ?_
    exact g_iret hC hZ dL_drawerByResidents_14 ⟨_, _, _, rfl, rfl, h⟩
  · rintro r w1 ⟨v1, o1, rfl, rfl, h⟩
    refine g_ws (ws2 := (outW g A u o1 z)) (by rw [List.append_nil]; rfl) ?_
    refine g_widen (k2 := 1) (n2 := 6) (Nat.le_of_ble_eq_true rfl) (Nat.le_of_ble_eq_true rfl) ?_
    show G x g 4 1 6 (outW g A u o1 z) 7 [(0, .ref (A 0 0)), (1, .int p0), (2, .ref u)] [.int v1, .int (0 : Int32), .ref u]
    refine g_i2l hC dL_drawerByResidents_7 8 rfl ?_
    refine g_last (ws2 := (outW g A u o1 (vp_updL z (0 : Int32).toNatClampNeg v1.toInt64))) hC dL_drawerByResidents_8 9 rfl 0 rfl (vp_in_d (by decide)) rfl ?_
    refine g_goto hC dL_drawerByResidents_9 15 (by decide) ?_
    refine g_iconst hC (0 : Int32) dL_drawerByResidents_15 16 rfl iconst_0 ?_
    exact g_iret hC hZ dL_drawerByResidents_16 ⟨_, _, _, rfl, rfl, h⟩
def ww_meanSize (post : Int32 → Off → (Nat → UInt64) → Prop) (E : Off) (z : Nat → UInt64) : Prop := wp_X4_meanSize (fun (v1 : UInt64) E1 => post 0 E1 (vf_upd z (0 : Int32).toNatClampNeg v1)) (fun i E1 => (i = 0 ∧ post 1 E1 z)) E 
set_option maxRecDepth 100000 in
set_option maxHeartbeats 4000000 in
theorem cw_meanSize (l : Launch) (g : gE) (A : Nat → Nat → Nat) (v u : Nat) (z0 : Nat → Int64) (E : Off) (z : Nat → UInt64) (post : Int32 → Off → (Nat → UInt64) → Prop) (h : ww_meanSize post E z ) : FnW l g yL_meanSize cL_meanSize 3 (some .int) [(0, 7, 10, 153)] 8 130 1 6 (dutW g A v u z0 E z) [.ref (A 0 0), .ref v] (pO (dutW g A v u z0) post) := by
  refine FnW.of (by decide) (Nat.le_of_ble_eq_true rfl) (fun x hC hZ hNw hT hst => ?_)
  unfold ww_meanSize at h
  show G x g 3 0 0 (dutW g A v u z0 E z) 0 [(0, .ref (A 0 0)), (1, .ref v)] []
  refine g_aload_n hC dL_meanSize_0 1 rfl rfl 1 rfl ?_
  refine g_iconst hC (0 : Int32) dL_meanSize_1 2 rfl iconst_0 ?_
  refine g_aload_n hC dL_meanSize_2 3 rfl rfl 0 rfl ?_
  refine g_callVC hC hNw hst (ct_X4_meanSize l g A E  _ _ h) gY_X4_meanSize dL_meanSize_3 6 rfl ml_L_149 [(v, .inl (g.2.1 5, 1, .inr (.inr (.inr (.inl z))))), (u, .inl (g.2.1 4, 1, .inr (.inl z0)))] [] (by rw [List.append_nil]; rfl) [.int (0 : Int32), .ref v] rfl rfl rfl 0 8 rfl rfl ⟨Nat.le_of_ble_eq_true rfl, Nat.le_of_ble_eq_true rfl⟩ (Nat.le_of_ble_eq_true rfl) ⟨Nat.le_of_ble_eq_true rfl, Nat.le_of_ble_eq_true rfl⟩ ?_ ?_
  · rintro E9 w9 ⟨i9, o9, hi9, rfl, h⟩
    obtain ⟨rfl, h⟩ := h
    obtain rfl := Option.some.inj (show some "java/lang/ArithmeticException" = some E9 from hi9)
    refine g_catch hC hNw (by simp [gNwL]) [] ⟨0, 7, 10, 153⟩ [] hT (fun z9 hz9 => nomatch hz9) (by decide) (by decide) cl_L_153 (fun q9 => ?_)
    refine g_ws (ws2 := (dutW g A v u z0 o9 z)) (by rw [List.append_nil]; rfl) ?_
    refine g_widen (k2 := 1) (n2 := 6) (Nat.le_of_ble_eq_true rfl) (Nat.le_of_ble_eq_true rfl) ?_
    show G x g 3 1 6 (dutW g A v u z0 o9 z) 10 [(0, .ref (A 0 0)), (1, .ref v)] [.ref q9]
    refine g_astore_n (lv2 := [(2, .ref q9), (0, .ref (A 0 0)), (1, .ref v)]) hC dL_meanSize_10 11 rfl rfl (by decide) rfl ?_
    refine g_iconst hC (1 : Int32) dL_meanSize_11 12 rfl iconst_1 ?_
    exact g_iret hC hZ dL_meanSize_12 ⟨_, _, _, rfl, rfl, h⟩
  · rintro r w1 ⟨v1, o1, rfl, rfl, h⟩
    refine g_ws (ws2 := (dutW g A v u z0 o1 z)) (by rw [List.append_nil]; rfl) ?_
    refine g_widen (k2 := 1) (n2 := 6) (Nat.le_of_ble_eq_true rfl) (Nat.le_of_ble_eq_true rfl) ?_
    show G x g 3 1 6 (dutW g A v u z0 o1 z) 6 [(0, .ref (A 0 0)), (1, .ref v)] [.double v1, .int (0 : Int32), .ref v]
    refine g_dast (ws2 := (dutW g A v u z0 o1 (vf_upd z (0 : Int32).toNatClampNeg v1))) hC dL_meanSize_6 7 rfl 0 rfl (vp_in_d (by decide)) rfl ?_
    refine g_goto hC dL_meanSize_7 13 (by decide) ?_
    refine g_iconst hC (0 : Int32) dL_meanSize_13 14 rfl iconst_0 ?_
    exact g_iret hC hZ dL_meanSize_14 ⟨_, _, _, rfl, rfl, h⟩
def ww_residentShare (post : Int32 → Off → (Nat → UInt64) → Prop) (E : Off) (z : Nat → UInt64) : Prop := wp_X4_residentShare (fun (v1 : UInt32) E1 => (vf_n64 (FP.f2d v1) ∧ post 0 E1 (vf_upd z (0 : Int32).toNatClampNeg (FP.f2d v1)))) (fun i E1 => (i = 0 ∧ post 1 E1 z)) E 
set_option maxRecDepth 100000 in
set_option maxHeartbeats 4000000 in
theorem cw_residentShare (l : Launch) (g : gE) (A : Nat → Nat → Nat) (v u : Nat) (z0 : Nat → Int64) (E : Off) (z : Nat → UInt64) (post : Int32 → Off → (Nat → UInt64) → Prop) (h : ww_residentShare post E z ) : FnW l g yL_residentShare cL_residentShare 3 (some .int) [(0, 8, 11, 153)] 8 130 1 6 (dutW g A v u z0 E z) [.ref (A 0 0), .ref v] (pO (dutW g A v u z0) post) := by
  refine FnW.of (by decide) (Nat.le_of_ble_eq_true rfl) (fun x hC hZ hNw hT hst => ?_)
  unfold ww_residentShare at h
  show G x g 3 0 0 (dutW g A v u z0 E z) 0 [(0, .ref (A 0 0)), (1, .ref v)] []
  refine g_aload_n hC dL_residentShare_0 1 rfl rfl 1 rfl ?_
  refine g_iconst hC (0 : Int32) dL_residentShare_1 2 rfl iconst_0 ?_
  refine g_aload_n hC dL_residentShare_2 3 rfl rfl 0 rfl ?_
  refine g_callVC hC hNw hst (ct_X4_residentShare l g A E  _ _ h) gY_X4_residentShare dL_residentShare_3 6 rfl ml_L_155 [(v, .inl (g.2.1 5, 1, .inr (.inr (.inr (.inl z))))), (u, .inl (g.2.1 4, 1, .inr (.inl z0)))] [] (by rw [List.append_nil]; rfl) [.int (0 : Int32), .ref v] rfl rfl rfl 0 8 rfl rfl ⟨Nat.le_of_ble_eq_true rfl, Nat.le_of_ble_eq_true rfl⟩ (Nat.le_of_ble_eq_true rfl) ⟨Nat.le_of_ble_eq_true rfl, Nat.le_of_ble_eq_true rfl⟩ ?_ ?_
  · rintro E9 w9 ⟨i9, o9, hi9, rfl, h⟩
    obtain ⟨rfl, h⟩ := h
    obtain rfl := Option.some.inj (show some "java/lang/ArithmeticException" = some E9 from hi9)
    refine g_catch hC hNw (by simp [gNwL]) [] ⟨0, 8, 11, 153⟩ [] hT (fun z9 hz9 => nomatch hz9) (by decide) (by decide) cl_L_153 (fun q9 => ?_)
    refine g_ws (ws2 := (dutW g A v u z0 o9 z)) (by rw [List.append_nil]; rfl) ?_
    refine g_widen (k2 := 1) (n2 := 6) (Nat.le_of_ble_eq_true rfl) (Nat.le_of_ble_eq_true rfl) ?_
    show G x g 3 1 6 (dutW g A v u z0 o9 z) 11 [(0, .ref (A 0 0)), (1, .ref v)] [.ref q9]
    refine g_astore_n (lv2 := [(2, .ref q9), (0, .ref (A 0 0)), (1, .ref v)]) hC dL_residentShare_11 12 rfl rfl (by decide) rfl ?_
    refine g_iconst hC (1 : Int32) dL_residentShare_12 13 rfl iconst_1 ?_
    exact g_iret hC hZ dL_residentShare_13 ⟨_, _, _, rfl, rfl, h⟩
  · rintro r w1 ⟨v1, o1, rfl, rfl, h⟩
    refine g_ws (ws2 := (dutW g A v u z0 o1 z)) (by rw [List.append_nil]; rfl) ?_
    refine g_widen (k2 := 1) (n2 := 6) (Nat.le_of_ble_eq_true rfl) (Nat.le_of_ble_eq_true rfl) ?_
    show G x g 3 1 6 (dutW g A v u z0 o1 z) 6 [(0, .ref (A 0 0)), (1, .ref v)] [.float v1, .int (0 : Int32), .ref v]
    obtain ⟨hn, h⟩ := h
    refine g_f2d hC dL_residentShare_6 7 rfl hn ?_
    refine g_dast (ws2 := (dutW g A v u z0 o1 (vf_upd z (0 : Int32).toNatClampNeg (FP.f2d v1)))) hC dL_residentShare_7 8 rfl 0 rfl (vp_in_d (by decide)) rfl ?_
    refine g_goto hC dL_residentShare_8 14 (by decide) ?_
    refine g_iconst hC (0 : Int32) dL_residentShare_14 15 rfl iconst_0 ?_
    exact g_iret hC hZ dL_residentShare_15 ⟨_, _, _, rfl, rfl, h⟩
def ww_writeSock (post : Int32 → Off → (Nat → Int64) → Prop) (E : Off) (z : Nat → Int64) (p0 : Int32) : Prop := wp_X4_writeSock (fun (v1 : Int32) E1 => post 0 E1 (vp_updL z (0 : Int32).toNatClampNeg v1.toInt64)) (fun i E1 => (i = 3 ∧ post 1 E1 z)) E p0
set_option maxRecDepth 100000 in
set_option maxHeartbeats 4000000 in
theorem cw_writeSock (l : Launch) (g : gE) (A : Nat → Nat → Nat) (u : Nat) (E : Off) (z : Nat → Int64) (p0 : Int32) (post : Int32 → Off → (Nat → Int64) → Prop) (h : ww_writeSock post E z p0) : FnW l g yL_writeSock cL_writeSock 4 (some .int) [(0, 9, 12, 21)] 9 153 1 6 (outW g A u E z) [.ref (A 0 0), .int p0, .ref u] (pO (outW g A u) post) := by
  refine FnW.of (by decide) (Nat.le_of_ble_eq_true rfl) (fun x hC hZ hNw hT hst => ?_)
  unfold ww_writeSock at h
  show G x g 4 0 0 (outW g A u E z) 0 [(0, .ref (A 0 0)), (1, .int p0), (2, .ref u)] []
  refine g_aload_n hC dL_writeSock_0 1 rfl rfl 2 rfl ?_
  refine g_iconst hC (0 : Int32) dL_writeSock_1 2 rfl iconst_0 ?_
  refine g_aload_n hC dL_writeSock_2 3 rfl rfl 0 rfl ?_
  refine g_iload_n hC dL_writeSock_3 4 rfl rfl 1 rfl ?_
  refine g_callVC hC hNw hst (ct_X4_writeSock l g A E p0 _ _ h) gY_X4_writeSock dL_writeSock_4 7 rfl ml_L_159 [(u, .inl (g.2.1 4, 1, .inr (.inl z)))] [] (by rw [List.append_nil]; rfl) [.int (0 : Int32), .ref u] rfl rfl rfl 0 8 rfl rfl ⟨Nat.le_of_ble_eq_true rfl, Nat.le_of_ble_eq_true rfl⟩ (Nat.le_of_ble_eq_true rfl) ⟨Nat.le_of_ble_eq_true rfl, Nat.le_of_ble_eq_true rfl⟩ ?_ ?_
  · rintro E9 w9 ⟨i9, o9, hi9, rfl, h⟩
    obtain ⟨rfl, h⟩ := h
    obtain rfl := Option.some.inj (show some "java/lang/IndexOutOfBoundsException" = some E9 from hi9)
    refine g_catch hC hNw (by simp [gNwL]) [] ⟨0, 9, 12, 21⟩ [] hT (fun z9 hz9 => nomatch hz9) (by decide) (by decide) cl_L_21 (fun q9 => ?_)
    refine g_ws (ws2 := (outW g A u o9 z)) (by rw [List.append_nil]; rfl) ?_
    refine g_widen (k2 := 1) (n2 := 6) (Nat.le_of_ble_eq_true rfl) (Nat.le_of_ble_eq_true rfl) ?_
    show G x g 4 1 6 (outW g A u o9 z) 12 [(0, .ref (A 0 0)), (1, .int p0), (2, .ref u)] [.ref q9]
    refine g_astore_n (lv2 := [(3, .ref q9), (0, .ref (A 0 0)), (1, .int p0), (2, .ref u)]) hC dL_writeSock_12 13 rfl rfl (by decide) rfl ?_
    refine g_iconst hC (1 : Int32) dL_writeSock_13 14 rfl iconst_1 ?_
    exact g_iret hC hZ dL_writeSock_14 ⟨_, _, _, rfl, rfl, h⟩
  · rintro r w1 ⟨v1, o1, rfl, rfl, h⟩
    refine g_ws (ws2 := (outW g A u o1 z)) (by rw [List.append_nil]; rfl) ?_
    refine g_widen (k2 := 1) (n2 := 6) (Nat.le_of_ble_eq_true rfl) (Nat.le_of_ble_eq_true rfl) ?_
    show G x g 4 1 6 (outW g A u o1 z) 7 [(0, .ref (A 0 0)), (1, .int p0), (2, .ref u)] [.int v1, .int (0 : Int32), .ref u]
    refine g_i2l hC dL_writeSock_7 8 rfl ?_
    refine g_last (ws2 := (outW g A u o1 (vp_updL z (0 : Int32).toNatClampNeg v1.toInt64))) hC dL_writeSock_8 9 rfl 0 rfl (vp_in_d (by decide)) rfl ?_
    refine g_goto hC dL_writeSock_9 15 (by decide) ?_
    refine g_iconst hC (0 : Int32) dL_writeSock_15 16 rfl iconst_0 ?_
    exact g_iret hC hZ dL_writeSock_16 ⟨_, _, _, rfl, rfl, h⟩
def ww_outputAt (post : Int32 → Off → (Nat → Int64) → Prop) (E : Off) (z : Nat → Int64) (p0 : Int32) : Prop := wp_X4_outputAt (fun (v1 : Int32) E1 => post 0 E1 (vp_updL z (0 : Int32).toNatClampNeg v1.toInt64)) (fun i E1 => (i = 3 ∧ post 1 E1 z)) E p0
set_option maxRecDepth 100000 in
set_option maxHeartbeats 4000000 in
theorem cw_outputAt (l : Launch) (g : gE) (A : Nat → Nat → Nat) (u : Nat) (E : Off) (z : Nat → Int64) (p0 : Int32) (post : Int32 → Off → (Nat → Int64) → Prop) (h : ww_outputAt post E z p0) : FnW l g yL_outputAt cL_outputAt 4 (some .int) [(0, 9, 12, 21)] 8 132 1 6 (outW g A u E z) [.ref (A 0 0), .int p0, .ref u] (pO (outW g A u) post) := by
  refine FnW.of (by decide) (Nat.le_of_ble_eq_true rfl) (fun x hC hZ hNw hT hst => ?_)
  unfold ww_outputAt at h
  show G x g 4 0 0 (outW g A u E z) 0 [(0, .ref (A 0 0)), (1, .int p0), (2, .ref u)] []
  refine g_aload_n hC dL_outputAt_0 1 rfl rfl 2 rfl ?_
  refine g_iconst hC (0 : Int32) dL_outputAt_1 2 rfl iconst_0 ?_
  refine g_aload_n hC dL_outputAt_2 3 rfl rfl 0 rfl ?_
  refine g_iload_n hC dL_outputAt_3 4 rfl rfl 1 rfl ?_
  refine g_callVC hC hNw hst (ct_X4_outputAt l g A E p0 _ _ h) gY_X4_outputAt dL_outputAt_4 7 rfl ml_L_162 [(u, .inl (g.2.1 4, 1, .inr (.inl z)))] [] (by rw [List.append_nil]; rfl) [.int (0 : Int32), .ref u] rfl rfl rfl 0 8 rfl rfl ⟨Nat.le_of_ble_eq_true rfl, Nat.le_of_ble_eq_true rfl⟩ (Nat.le_of_ble_eq_true rfl) ⟨Nat.le_of_ble_eq_true rfl, Nat.le_of_ble_eq_true rfl⟩ ?_ ?_
  · rintro E9 w9 ⟨i9, o9, hi9, rfl, h⟩
    obtain ⟨rfl, h⟩ := h
    obtain rfl := Option.some.inj (show some "java/lang/IndexOutOfBoundsException" = some E9 from hi9)
    refine g_catch hC hNw (by simp [gNwL]) [] ⟨0, 9, 12, 21⟩ [] hT (fun z9 hz9 => nomatch hz9) (by decide) (by decide) cl_L_21 (fun q9 => ?_)
    refine g_ws (ws2 := (outW g A u o9 z)) (by rw [List.append_nil]; rfl) ?_
    refine g_widen (k2 := 1) (n2 := 6) (Nat.le_of_ble_eq_true rfl) (Nat.le_of_ble_eq_true rfl) ?_
    show G x g 4 1 6 (outW g A u o9 z) 12 [(0, .ref (A 0 0)), (1, .int p0), (2, .ref u)] [.ref q9]
    refine g_astore_n (lv2 := [(3, .ref q9), (0, .ref (A 0 0)), (1, .int p0), (2, .ref u)]) hC dL_outputAt_12 13 rfl rfl (by decide) rfl ?_
    refine g_iconst hC (1 : Int32) dL_outputAt_13 14 rfl iconst_1 ?_
    exact g_iret hC hZ dL_outputAt_14 ⟨_, _, _, rfl, rfl, h⟩
  · rintro r w1 ⟨v1, o1, rfl, rfl, h⟩
    refine g_ws (ws2 := (outW g A u o1 z)) (by rw [List.append_nil]; rfl) ?_
    refine g_widen (k2 := 1) (n2 := 6) (Nat.le_of_ble_eq_true rfl) (Nat.le_of_ble_eq_true rfl) ?_
    show G x g 4 1 6 (outW g A u o1 z) 7 [(0, .ref (A 0 0)), (1, .int p0), (2, .ref u)] [.int v1, .int (0 : Int32), .ref u]
    refine g_i2l hC dL_outputAt_7 8 rfl ?_
    refine g_last (ws2 := (outW g A u o1 (vp_updL z (0 : Int32).toNatClampNeg v1.toInt64))) hC dL_outputAt_8 9 rfl 0 rfl (vp_in_d (by decide)) rfl ?_
    refine g_goto hC dL_outputAt_9 15 (by decide) ?_
    refine g_iconst hC (0 : Int32) dL_outputAt_15 16 rfl iconst_0 ?_
    exact g_iret hC hZ dL_outputAt_16 ⟨_, _, _, rfl, rfl, h⟩
def ww_appendInput (post : Int32 → Off → (Nat → Int64) → Prop) (E : Off) (z : Nat → Int64) (p0 : Int32) : Prop := wp_X4_appendInput (fun (v1 : Int32) E1 => post 0 E1 (vp_updL z (0 : Int32).toNatClampNeg v1.toInt64)) (fun i E1 => (i = 1 ∧ post 1 E1 z) ∨ (i = 2 ∧ post 2 E1 z)) E p0
set_option maxRecDepth 100000 in
set_option maxHeartbeats 4000000 in
theorem cw_appendInput (l : Launch) (g : gE) (A : Nat → Nat → Nat) (u : Nat) (E : Off) (z : Nat → Int64) (p0 : Int32) (post : Int32 → Off → (Nat → Int64) → Prop) (h : ww_appendInput post E z p0) : FnW l g yL_appendInput cL_appendInput 4 (some .int) [(0, 9, 12, 13), (0, 9, 15, 169)] 8 132 2 12 (outW g A u E z) [.ref (A 0 0), .int p0, .ref u] (pO (outW g A u) post) := by
  refine FnW.of (by decide) (Nat.le_of_ble_eq_true rfl) (fun x hC hZ hNw hT hst => ?_)
  unfold ww_appendInput at h
  show G x g 4 0 0 (outW g A u E z) 0 [(0, .ref (A 0 0)), (1, .int p0), (2, .ref u)] []
  refine g_aload_n hC dL_appendInput_0 1 rfl rfl 2 rfl ?_
  refine g_iconst hC (0 : Int32) dL_appendInput_1 2 rfl iconst_0 ?_
  refine g_aload_n hC dL_appendInput_2 3 rfl rfl 0 rfl ?_
  refine g_iload_n hC dL_appendInput_3 4 rfl rfl 1 rfl ?_
  refine g_callVC hC hNw hst (ct_X4_appendInput l g A E p0 _ _ h) gY_X4_appendInput dL_appendInput_4 7 rfl ml_L_165 [(u, .inl (g.2.1 4, 1, .inr (.inl z)))] [] (by rw [List.append_nil]; rfl) [.int (0 : Int32), .ref u] rfl rfl rfl 0 8 rfl rfl ⟨Nat.le_of_ble_eq_true rfl, Nat.le_of_ble_eq_true rfl⟩ (Nat.le_of_ble_eq_true rfl) ⟨Nat.le_of_ble_eq_true rfl, Nat.le_of_ble_eq_true rfl⟩ ?_ ?_
  · rintro E9 w9 ⟨i9, o9, hi9, rfl, h⟩
    rcases h with ⟨rfl, h⟩ | ⟨rfl, h⟩
    · obtain rfl := Option.some.inj (show some "java/lang/IllegalArgumentException" = some E9 from hi9)
      refine g_catch hC hNw (by simp [gNwL]) [] ⟨0, 9, 12, 13⟩ [⟨0, 9, 15, 169⟩] hT (fun z9 hz9 => nomatch hz9) (by decide) (by decide) cl_L_13 (fun q9 => ?_)
      refine g_ws (ws2 := (outW g A u o9 z)) (by rw [List.append_nil]; rfl) ?_
      refine g_widen (k2 := 2) (n2 := 12) (Nat.le_of_ble_eq_true rfl) (Nat.le_of_ble_eq_true rfl) ?_
      show G x g 4 2 12 (outW g A u o9 z) 12 [(0, .ref (A 0 0)), (1, .int p0), (2, .ref u)] [.ref q9]
      refine g_astore_n (lv2 := [(3, .ref q9), (0, .ref (A 0 0)), (1, .int p0), (2, .ref u)]) hC dL_appendInput_12 13 rfl rfl (by decide) rfl ?_
      refine g_iconst hC (1 : Int32) dL_appendInput_13 14 rfl iconst_1 ?_
      exact g_iret hC hZ dL_appendInput_14 ⟨_, _, _, rfl, rfl, h⟩
    · obtain rfl := Option.some.inj (show some "java/lang/IllegalStateException" = some E9 from hi9)
      refine g_catch hC hNw (by simp [gNwL]) [⟨0, 9, 12, 13⟩] ⟨0, 9, 15, 169⟩ [] hT (fun z9 hz9 => by rcases List.mem_singleton.mp hz9 with rfl; exact Or.inr ⟨by decide, _, cl_L_13, g_nc hC 2 1 (by decide) rfl rfl⟩) (by decide) (by decide) cl_L_169 (fun q9 => ?_)
      refine g_ws (ws2 := (outW g A u o9 z)) (by rw [List.append_nil]; rfl) ?_
      refine g_widen (k2 := 2) (n2 := 12) (Nat.le_of_ble_eq_true rfl) (Nat.le_of_ble_eq_true rfl) ?_
      show G x g 4 2 12 (outW g A u o9 z) 15 [(0, .ref (A 0 0)), (1, .int p0), (2, .ref u)] [.ref q9]
      refine g_astore_n (lv2 := [(3, .ref q9), (0, .ref (A 0 0)), (1, .int p0), (2, .ref u)]) hC dL_appendInput_15 16 rfl rfl (by decide) rfl ?_
      refine g_iconst hC (2 : Int32) dL_appendInput_16 17 rfl iconst_2 ?_
      exact g_iret hC hZ dL_appendInput_17 ⟨_, _, _, rfl, rfl, h⟩
  · rintro r w1 ⟨v1, o1, rfl, rfl, h⟩
    refine g_ws (ws2 := (outW g A u o1 z)) (by rw [List.append_nil]; rfl) ?_
    refine g_widen (k2 := 2) (n2 := 12) (Nat.le_of_ble_eq_true rfl) (Nat.le_of_ble_eq_true rfl) ?_
    show G x g 4 2 12 (outW g A u o1 z) 7 [(0, .ref (A 0 0)), (1, .int p0), (2, .ref u)] [.int v1, .int (0 : Int32), .ref u]
    refine g_i2l hC dL_appendInput_7 8 rfl ?_
    refine g_last (ws2 := (outW g A u o1 (vp_updL z (0 : Int32).toNatClampNeg v1.toInt64))) hC dL_appendInput_8 9 rfl 0 rfl (vp_in_d (by decide)) rfl ?_
    refine g_goto hC dL_appendInput_9 18 (by decide) ?_
    refine g_iconst hC (0 : Int32) dL_appendInput_18 19 rfl iconst_0 ?_
    exact g_iret hC hZ dL_appendInput_19 ⟨_, _, _, rfl, rfl, h⟩
def ww_execute (post : Int32 → Off → (Nat → Int64) → Prop) (E : Off) (z : Nat → Int64) : Prop := wp_X4_execute (fun (v1 : Int32) E1 => post 0 E1 (vp_updL z (0 : Int32).toNatClampNeg v1.toInt64)) (fun i E1 => (i = 1 ∧ post 1 E1 z) ∨ (i = 2 ∧ post 2 E1 z) ∨ (i = 4 ∧ post 3 E1 z)) E 
set_option maxRecDepth 100000 in
set_option maxHeartbeats 4000000 in
theorem cw_execute (l : Launch) (g : gE) (A : Nat → Nat → Nat) (u : Nat) (E : Off) (z : Nat → Int64) (post : Int32 → Off → (Nat → Int64) → Prop) (h : ww_execute post E z ) : FnW l g yL_execute cL_execute 3 (some .int) [(0, 8, 11, 13), (0, 8, 14, 169), (0, 8, 17, 15)] 10 386 3 18 (outW g A u E z) [.ref (A 0 0), .ref u] (pO (outW g A u) post) := by
  refine FnW.of (by decide) (Nat.le_of_ble_eq_true rfl) (fun x hC hZ hNw hT hst => ?_)
  unfold ww_execute at h
  show G x g 3 0 0 (outW g A u E z) 0 [(0, .ref (A 0 0)), (1, .ref u)] []
  refine g_aload_n hC dL_execute_0 1 rfl rfl 1 rfl ?_
  refine g_iconst hC (0 : Int32) dL_execute_1 2 rfl iconst_0 ?_
  refine g_aload_n hC dL_execute_2 3 rfl rfl 0 rfl ?_
  refine g_callVC hC hNw hst (ct_X4_execute l g A E  _ _ h) gY_X4_execute dL_execute_3 6 rfl ml_L_171 [(u, .inl (g.2.1 4, 1, .inr (.inl z)))] [] (by rw [List.append_nil]; rfl) [.int (0 : Int32), .ref u] rfl rfl rfl 0 8 rfl rfl ⟨Nat.le_of_ble_eq_true rfl, Nat.le_of_ble_eq_true rfl⟩ (Nat.le_of_ble_eq_true rfl) ⟨Nat.le_of_ble_eq_true rfl, Nat.le_of_ble_eq_true rfl⟩ ?_ ?_
  · rintro E9 w9 ⟨i9, o9, hi9, rfl, h⟩
    rcases h with ⟨rfl, h⟩ | ⟨rfl, h⟩ | ⟨rfl, h⟩
    · obtain rfl := Option.some.inj (show some "java/lang/IllegalArgumentException" = some E9 from hi9)
      refine g_catch hC hNw (by simp [gNwL]) [] ⟨0, 8, 11, 13⟩ [⟨0, 8, 14, 169⟩, ⟨0, 8, 17, 15⟩] hT (fun z9 hz9 => nomatch hz9) (by decide) (by decide) cl_L_13 (fun q9 => ?_)
      refine g_ws (ws2 := (outW g A u o9 z)) (by rw [List.append_nil]; rfl) ?_
      refine g_widen (k2 := 3) (n2 := 18) (Nat.le_of_ble_eq_true rfl) (Nat.le_of_ble_eq_true rfl) ?_
      show G x g 3 3 18 (outW g A u o9 z) 11 [(0, .ref (A 0 0)), (1, .ref u)] [.ref q9]
      refine g_astore_n (lv2 := [(2, .ref q9), (0, .ref (A 0 0)), (1, .ref u)]) hC dL_execute_11 12 rfl rfl (by decide) rfl ?_
      refine g_iconst hC (1 : Int32) dL_execute_12 13 rfl iconst_1 ?_
      exact g_iret hC hZ dL_execute_13 ⟨_, _, _, rfl, rfl, h⟩
    · obtain rfl := Option.some.inj (show some "java/lang/IllegalStateException" = some E9 from hi9)
      refine g_catch hC hNw (by simp [gNwL]) [⟨0, 8, 11, 13⟩] ⟨0, 8, 14, 169⟩ [⟨0, 8, 17, 15⟩] hT (fun z9 hz9 => by rcases List.mem_singleton.mp hz9 with rfl; exact Or.inr ⟨by decide, _, cl_L_13, g_nc hC 2 1 (by decide) rfl rfl⟩) (by decide) (by decide) cl_L_169 (fun q9 => ?_)
      refine g_ws (ws2 := (outW g A u o9 z)) (by rw [List.append_nil]; rfl) ?_
      refine g_widen (k2 := 3) (n2 := 18) (Nat.le_of_ble_eq_true rfl) (Nat.le_of_ble_eq_true rfl) ?_
      show G x g 3 3 18 (outW g A u o9 z) 14 [(0, .ref (A 0 0)), (1, .ref u)] [.ref q9]
      refine g_astore_n (lv2 := [(2, .ref q9), (0, .ref (A 0 0)), (1, .ref u)]) hC dL_execute_14 15 rfl rfl (by decide) rfl ?_
      refine g_iconst hC (2 : Int32) dL_execute_15 16 rfl iconst_2 ?_
      exact g_iret hC hZ dL_execute_16 ⟨_, _, _, rfl, rfl, h⟩
    · obtain rfl := Option.some.inj (show some "java/lang/UnsupportedOperationException" = some E9 from hi9)
      have hp9 : ∀ z9 ∈ ([⟨0, 8, 11, 13⟩, ⟨0, 8, 14, 169⟩] : List ExceptionTableEntry), covers z9 3 = false ∨ (z9.catchType ≠ 0 ∧ ∃ nm : String, Cond.classLink RL z9.catchType nm ∈ lw_all ∧ va_Nc "java/lang/UnsupportedOperationException" nm (x_s x)) := by
        intro z9 hz9
        rcases List.mem_cons.mp hz9 with rfl | hz9
        · exact Or.inr ⟨by decide, _, cl_L_13, g_nc hC 4 1 (by decide) rfl rfl⟩
        · rcases List.mem_singleton.mp hz9 with rfl; exact Or.inr ⟨by decide, _, cl_L_169, g_nc hC 4 2 (by decide) rfl rfl⟩
      refine g_catch hC hNw (by simp [gNwL]) [⟨0, 8, 11, 13⟩, ⟨0, 8, 14, 169⟩] ⟨0, 8, 17, 15⟩ [] hT hp9 (by decide) (by decide) cl_L_15 (fun q9 => ?_)
      refine g_ws (ws2 := (outW g A u o9 z)) (by rw [List.append_nil]; rfl) ?_
      refine g_widen (k2 := 3) (n2 := 18) (Nat.le_of_ble_eq_true rfl) (Nat.le_of_ble_eq_true rfl) ?_
      show G x g 3 3 18 (outW g A u o9 z) 17 [(0, .ref (A 0 0)), (1, .ref u)] [.ref q9]
      refine g_astore_n (lv2 := [(2, .ref q9), (0, .ref (A 0 0)), (1, .ref u)]) hC dL_execute_17 18 rfl rfl (by decide) rfl ?_
      refine g_iconst hC (3 : Int32) dL_execute_18 19 rfl iconst_3 ?_
      exact g_iret hC hZ dL_execute_19 ⟨_, _, _, rfl, rfl, h⟩
  · rintro r w1 ⟨v1, o1, rfl, rfl, h⟩
    refine g_ws (ws2 := (outW g A u o1 z)) (by rw [List.append_nil]; rfl) ?_
    refine g_widen (k2 := 3) (n2 := 18) (Nat.le_of_ble_eq_true rfl) (Nat.le_of_ble_eq_true rfl) ?_
    show G x g 3 3 18 (outW g A u o1 z) 6 [(0, .ref (A 0 0)), (1, .ref u)] [.int v1, .int (0 : Int32), .ref u]
    refine g_i2l hC dL_execute_6 7 rfl ?_
    refine g_last (ws2 := (outW g A u o1 (vp_updL z (0 : Int32).toNatClampNeg v1.toInt64))) hC dL_execute_7 8 rfl 0 rfl (vp_in_d (by decide)) rfl ?_
    refine g_goto hC dL_execute_8 20 (by decide) ?_
    refine g_iconst hC (0 : Int32) dL_execute_20 21 rfl iconst_0 ?_
    exact g_iret hC hZ dL_execute_21 ⟨_, _, _, rfl, rfl, h⟩
def ww_syntaxErrorOffset (post : Int32 → Off → (Nat → Int64) → Prop) (E : Off) (z : Nat → Int64) : Prop := wp_X4_syntaxErrorOffset (fun (v1 : Int32) E1 => post 0 E1 (vp_updL z (0 : Int32).toNatClampNeg v1.toInt64)) (fun i E1 => (i = 5 ∧ post 1 E1 z)) E 
set_option maxRecDepth 100000 in
set_option maxHeartbeats 4000000 in
theorem cw_syntaxErrorOffset (l : Launch) (g : gE) (A : Nat → Nat → Nat) (u : Nat) (E : Off) (z : Nat → Int64) (post : Int32 → Off → (Nat → Int64) → Prop) (h : ww_syntaxErrorOffset post E z ) : FnW l g yL_syntaxErrorOffset cL_syntaxErrorOffset 3 (some .int) [(0, 8, 11, 43)] 8 131 1 6 (outW g A u E z) [.ref (A 0 0), .ref u] (pO (outW g A u) post) := by
  refine FnW.of (by decide) (Nat.le_of_ble_eq_true rfl) (fun x hC hZ hNw hT hst => ?_)
  unfold ww_syntaxErrorOffset at h
  show G x g 3 0 0 (outW g A u E z) 0 [(0, .ref (A 0 0)), (1, .ref u)] []
  refine g_aload_n hC dL_syntaxErrorOffset_0 1 rfl rfl 1 rfl ?_
  refine g_iconst hC (0 : Int32) dL_syntaxErrorOffset_1 2 rfl iconst_0 ?_
  refine g_aload_n hC dL_syntaxErrorOffset_2 3 rfl rfl 0 rfl ?_
  refine g_callVC hC hNw hst (ct_X4_syntaxErrorOffset l g A E  _ _ h) gY_X4_syntaxErrorOffset dL_syntaxErrorOffset_3 6 rfl ml_L_175 [(u, .inl (g.2.1 4, 1, .inr (.inl z)))] [] (by rw [List.append_nil]; rfl) [.int (0 : Int32), .ref u] rfl rfl rfl 0 8 rfl rfl ⟨Nat.le_of_ble_eq_true rfl, Nat.le_of_ble_eq_true rfl⟩ (Nat.le_of_ble_eq_true rfl) ⟨Nat.le_of_ble_eq_true rfl, Nat.le_of_ble_eq_true rfl⟩ ?_ ?_
  · rintro E9 w9 ⟨i9, o9, hi9, rfl, h⟩
    obtain ⟨rfl, h⟩ := h
    obtain rfl := Option.some.inj (show some "java/util/NoSuchElementException" = some E9 from hi9)
    refine g_catch hC hNw (by simp [gNwL]) [] ⟨0, 8, 11, 43⟩ [] hT (fun z9 hz9 => nomatch hz9) (by decide) (by decide) cl_L_43 (fun q9 => ?_)
    refine g_ws (ws2 := (outW g A u o9 z)) (by rw [List.append_nil]; rfl) ?_
    refine g_widen (k2 := 1) (n2 := 6) (Nat.le_of_ble_eq_true rfl) (Nat.le_of_ble_eq_true rfl) ?_
    show G x g 3 1 6 (outW g A u o9 z) 11 [(0, .ref (A 0 0)), (1, .ref u)] [.ref q9]
    refine g_astore_n (lv2 := [(2, .ref q9), (0, .ref (A 0 0)), (1, .ref u)]) hC dL_syntaxErrorOffset_11 12 rfl rfl (by decide) rfl ?_
    refine g_iconst hC (1 : Int32) dL_syntaxErrorOffset_12 13 rfl iconst_1 ?_
    exact g_iret hC hZ dL_syntaxErrorOffset_13 ⟨_, _, _, rfl, rfl, h⟩
  · rintro r w1 ⟨v1, o1, rfl, rfl, h⟩
    refine g_ws (ws2 := (outW g A u o1 z)) (by rw [List.append_nil]; rfl) ?_
    refine g_widen (k2 := 1) (n2 := 6) (Nat.le_of_ble_eq_true rfl) (Nat.le_of_ble_eq_true rfl) ?_
    show G x g 3 1 6 (outW g A u o1 z) 6 [(0, .ref (A 0 0)), (1, .ref u)] [.int v1, .int (0 : Int32), .ref u]
    refine g_i2l hC dL_syntaxErrorOffset_6 7 rfl ?_
    refine g_last (ws2 := (outW g A u o1 (vp_updL z (0 : Int32).toNatClampNeg v1.toInt64))) hC dL_syntaxErrorOffset_7 8 rfl 0 rfl (vp_in_d (by decide)) rfl ?_
    refine g_goto hC dL_syntaxErrorOffset_8 14 (by decide) ?_
    refine g_iconst hC (0 : Int32) dL_syntaxErrorOffset_14 15 rfl iconst_0 ?_
    exact g_iret hC hZ dL_syntaxErrorOffset_15 ⟨_, _, _, rfl, rfl, h⟩
def ww_rejectionReason (post : Int32 → Off → (Nat → Int64) → Prop) (E : Off) (z : Nat → Int64) : Prop := wp_X4_rejectionReason (fun (v1 : Int32) E1 => post 0 E1 (vp_updL z (0 : Int32).toNatClampNeg v1.toInt64)) (fun i E1 => (i = 5 ∧ post 1 E1 z)) E 
set_option maxRecDepth 100000 in
set_option maxHeartbeats 4000000 in
theorem cw_rejectionReason (l : Launch) (g : gE) (A : Nat → Nat → Nat) (u : Nat) (E : Off) (z : Nat → Int64) (post : Int32 → Off → (Nat → Int64) → Prop) (h : ww_rejectionReason post E z ) : FnW l g yL_rejectionReason cL_rejectionReason 3 (some .int) [(0, 8, 11, 43)] 8 131 1 6 (outW g A u E z) [.ref (A 0 0), .ref u] (pO (outW g A u) post) := by
  refine FnW.of (by decide) (Nat.le_of_ble_eq_true rfl) (fun x hC hZ hNw hT hst => ?_)
  unfold ww_rejectionReason at h
  show G x g 3 0 0 (outW g A u E z) 0 [(0, .ref (A 0 0)), (1, .ref u)] []
  refine g_aload_n hC dL_rejectionReason_0 1 rfl rfl 1 rfl ?_
  refine g_iconst hC (0 : Int32) dL_rejectionReason_1 2 rfl iconst_0 ?_
  refine g_aload_n hC dL_rejectionReason_2 3 rfl rfl 0 rfl ?_
  refine g_callVC hC hNw hst (ct_X4_rejectionReason l g A E  _ _ h) gY_X4_rejectionReason dL_rejectionReason_3 6 rfl ml_L_178 [(u, .inl (g.2.1 4, 1, .inr (.inl z)))] [] (by rw [List.append_nil]; rfl) [.int (0 : Int32), .ref u] rfl rfl rfl 0 8 rfl rfl ⟨Nat.le_of_ble_eq_true rfl, Nat.le_of_ble_eq_true rfl⟩ (Nat.le_of_ble_eq_true rfl) ⟨Nat.le_of_ble_eq_true rfl, Nat.le_of_ble_eq_true rfl⟩ ?_ ?_
  · rintro E9 w9 ⟨i9, o9, hi9, rfl, h⟩
    obtain ⟨rfl, h⟩ := h
    obtain rfl := Option.some.inj (show some "java/util/NoSuchElementException" = some E9 from hi9)
    refine g_catch hC hNw (by simp [gNwL]) [] ⟨0, 8, 11, 43⟩ [] hT (fun z9 hz9 => nomatch hz9) (by decide) (by decide) cl_L_43 (fun q9 => ?_)
    refine g_ws (ws2 := (outW g A u o9 z)) (by rw [List.append_nil]; rfl) ?_
    refine g_widen (k2 := 1) (n2 := 6) (Nat.le_of_ble_eq_true rfl) (Nat.le_of_ble_eq_true rfl) ?_
    show G x g 3 1 6 (outW g A u o9 z) 11 [(0, .ref (A 0 0)), (1, .ref u)] [.ref q9]
    refine g_astore_n (lv2 := [(2, .ref q9), (0, .ref (A 0 0)), (1, .ref u)]) hC dL_rejectionReason_11 12 rfl rfl (by decide) rfl ?_
    refine g_iconst hC (1 : Int32) dL_rejectionReason_12 13 rfl iconst_1 ?_
    exact g_iret hC hZ dL_rejectionReason_13 ⟨_, _, _, rfl, rfl, h⟩
  · rintro r w1 ⟨v1, o1, rfl, rfl, h⟩
    refine g_ws (ws2 := (outW g A u o1 z)) (by rw [List.append_nil]; rfl) ?_
    refine g_widen (k2 := 1) (n2 := 6) (Nat.le_of_ble_eq_true rfl) (Nat.le_of_ble_eq_true rfl) ?_
    show G x g 3 1 6 (outW g A u o1 z) 6 [(0, .ref (A 0 0)), (1, .ref u)] [.int v1, .int (0 : Int32), .ref u]
    refine g_i2l hC dL_rejectionReason_6 7 rfl ?_
    refine g_last (ws2 := (outW g A u o1 (vp_updL z (0 : Int32).toNatClampNeg v1.toInt64))) hC dL_rejectionReason_7 8 rfl 0 rfl (vp_in_d (by decide)) rfl ?_
    refine g_goto hC dL_rejectionReason_8 14 (by decide) ?_
    refine g_iconst hC (0 : Int32) dL_rejectionReason_14 15 rfl iconst_0 ?_
    exact g_iret hC hZ dL_rejectionReason_15 ⟨_, _, _, rfl, rfl, h⟩
def ww_rejectionDetail (post : Int32 → Off → (Nat → Int64) → Prop) (E : Off) (z : Nat → Int64) : Prop := wp_X4_rejectionDetail (fun (v1 : Int32) E1 => post 0 E1 (vp_updL z (0 : Int32).toNatClampNeg v1.toInt64)) (fun i E1 => (i = 5 ∧ post 1 E1 z)) E 
set_option maxRecDepth 100000 in
set_option maxHeartbeats 4000000 in
theorem cw_rejectionDetail (l : Launch) (g : gE) (A : Nat → Nat → Nat) (u : Nat) (E : Off) (z : Nat → Int64) (post : Int32 → Off → (Nat → Int64) → Prop) (h : ww_rejectionDetail post E z ) : FnW l g yL_rejectionDetail cL_rejectionDetail 3 (some .int) [(0, 8, 11, 43)] 8 131 1 6 (outW g A u E z) [.ref (A 0 0), .ref u] (pO (outW g A u) post) := by
  refine FnW.of (by decide) (Nat.le_of_ble_eq_true rfl) (fun x hC hZ hNw hT hst => ?_)
  unfold ww_rejectionDetail at h
  show G x g 3 0 0 (outW g A u E z) 0 [(0, .ref (A 0 0)), (1, .ref u)] []
  refine g_aload_n hC dL_rejectionDetail_0 1 rfl rfl 1 rfl ?_
  refine g_iconst hC (0 : Int32) dL_rejectionDetail_1 2 rfl iconst_0 ?_
  refine g_aload_n hC dL_rejectionDetail_2 3 rfl rfl 0 rfl ?_
  refine g_callVC hC hNw hst (ct_X4_rejectionDetail l g A E  _ _ h) gY_X4_rejectionDetail dL_rejectionDetail_3 6 rfl ml_L_181 [(u, .inl (g.2.1 4, 1, .inr (.inl z)))] [] (by rw [List.append_nil]; rfl) [.int (0 : Int32), .ref u] rfl rfl rfl 0 8 rfl rfl ⟨Nat.le_of_ble_eq_true rfl, Nat.le_of_ble_eq_true rfl⟩ (Nat.le_of_ble_eq_true rfl) ⟨Nat.le_of_ble_eq_true rfl, Nat.le_of_ble_eq_true rfl⟩ ?_ ?_
  · rintro E9 w9 ⟨i9, o9, hi9, rfl, h⟩
    obtain ⟨rfl, h⟩ := h
    obtain rfl := Option.some.inj (show some "java/util/NoSuchElementException" = some E9 from hi9)
    refine g_catch hC hNw (by simp [gNwL]) [] ⟨0, 8, 11, 43⟩ [] hT (fun z9 hz9 => nomatch hz9) (by decide) (by decide) cl_L_43 (fun q9 => ?_)
    refine g_ws (ws2 := (outW g A u o9 z)) (by rw [List.append_nil]; rfl) ?_
    refine g_widen (k2 := 1) (n2 := 6) (Nat.le_of_ble_eq_true rfl) (Nat.le_of_ble_eq_true rfl) ?_
    show G x g 3 1 6 (outW g A u o9 z) 11 [(0, .ref (A 0 0)), (1, .ref u)] [.ref q9]
    refine g_astore_n (lv2 := [(2, .ref q9), (0, .ref (A 0 0)), (1, .ref u)]) hC dL_rejectionDetail_11 12 rfl rfl (by decide) rfl ?_
    refine g_iconst hC (1 : Int32) dL_rejectionDetail_12 13 rfl iconst_1 ?_
    exact g_iret hC hZ dL_rejectionDetail_13 ⟨_, _, _, rfl, rfl, h⟩
  · rintro r w1 ⟨v1, o1, rfl, rfl, h⟩
    refine g_ws (ws2 := (outW g A u o1 z)) (by rw [List.append_nil]; rfl) ?_
    refine g_widen (k2 := 1) (n2 := 6) (Nat.le_of_ble_eq_true rfl) (Nat.le_of_ble_eq_true rfl) ?_
    show G x g 3 1 6 (outW g A u o1 z) 6 [(0, .ref (A 0 0)), (1, .ref u)] [.int v1, .int (0 : Int32), .ref u]
    refine g_i2l hC dL_rejectionDetail_6 7 rfl ?_
    refine g_last (ws2 := (outW g A u o1 (vp_updL z (0 : Int32).toNatClampNeg v1.toInt64))) hC dL_rejectionDetail_7 8 rfl 0 rfl (vp_in_d (by decide)) rfl ?_
    refine g_goto hC dL_rejectionDetail_8 14 (by decide) ?_
    refine g_iconst hC (0 : Int32) dL_rejectionDetail_14 15 rfl iconst_0 ?_
    exact g_iret hC hZ dL_rejectionDetail_15 ⟨_, _, _, rfl, rfl, h⟩
def ww_causeReason (post : Int32 → Off → (Nat → Int64) → Prop) (E : Off) (z : Nat → Int64) : Prop := wp_X4_causeReason (fun (v1 : Int32) E1 => post 0 E1 (vp_updL z (0 : Int32).toNatClampNeg v1.toInt64)) (fun i E1 => (i = 5 ∧ post 1 E1 z)) E 
set_option maxRecDepth 100000 in
set_option maxHeartbeats 4000000 in
theorem cw_causeReason (l : Launch) (g : gE) (A : Nat → Nat → Nat) (u : Nat) (E : Off) (z : Nat → Int64) (post : Int32 → Off → (Nat → Int64) → Prop) (h : ww_causeReason post E z ) : FnW l g yL_causeReason cL_causeReason 3 (some .int) [(0, 8, 11, 43)] 8 131 1 6 (outW g A u E z) [.ref (A 0 0), .ref u] (pO (outW g A u) post) := by
  refine FnW.of (by decide) (Nat.le_of_ble_eq_true rfl) (fun x hC hZ hNw hT hst => ?_)
  unfold ww_causeReason at h
  show G x g 3 0 0 (outW g A u E z) 0 [(0, .ref (A 0 0)), (1, .ref u)] []
  refine g_aload_n hC dL_causeReason_0 1 rfl rfl 1 rfl ?_
  refine g_iconst hC (0 : Int32) dL_causeReason_1 2 rfl iconst_0 ?_
  refine g_aload_n hC dL_causeReason_2 3 rfl rfl 0 rfl ?_
  refine g_callVC hC hNw hst (ct_X4_causeReason l g A E  _ _ h) gY_X4_causeReason dL_causeReason_3 6 rfl ml_L_184 [(u, .inl (g.2.1 4, 1, .inr (.inl z)))] [] (by rw [List.append_nil]; rfl) [.int (0 : Int32), .ref u] rfl rfl rfl 0 8 rfl rfl ⟨Nat.le_of_ble_eq_true rfl, Nat.le_of_ble_eq_true rfl⟩ (Nat.le_of_ble_eq_true rfl) ⟨Nat.le_of_ble_eq_true rfl, Nat.le_of_ble_eq_true rfl⟩ ?_ ?_
  · rintro E9 w9 ⟨i9, o9, hi9, rfl, h⟩
    obtain ⟨rfl, h⟩ := h
    obtain rfl := Option.some.inj (show some "java/util/NoSuchElementException" = some E9 from hi9)
    refine g_catch hC hNw (by simp [gNwL]) [] ⟨0, 8, 11, 43⟩ [] hT (fun z9 hz9 => nomatch hz9) (by decide) (by decide) cl_L_43 (fun q9 => ?_)
    refine g_ws (ws2 := (outW g A u o9 z)) (by rw [List.append_nil]; rfl) ?_
    refine g_widen (k2 := 1) (n2 := 6) (Nat.le_of_ble_eq_true rfl) (Nat.le_of_ble_eq_true rfl) ?_
    show G x g 3 1 6 (outW g A u o9 z) 11 [(0, .ref (A 0 0)), (1, .ref u)] [.ref q9]
    refine g_astore_n (lv2 := [(2, .ref q9), (0, .ref (A 0 0)), (1, .ref u)]) hC dL_causeReason_11 12 rfl rfl (by decide) rfl ?_
    refine g_iconst hC (1 : Int32) dL_causeReason_12 13 rfl iconst_1 ?_
    exact g_iret hC hZ dL_causeReason_13 ⟨_, _, _, rfl, rfl, h⟩
  · rintro r w1 ⟨v1, o1, rfl, rfl, h⟩
    refine g_ws (ws2 := (outW g A u o1 z)) (by rw [List.append_nil]; rfl) ?_
    refine g_widen (k2 := 1) (n2 := 6) (Nat.le_of_ble_eq_true rfl) (Nat.le_of_ble_eq_true rfl) ?_
    show G x g 3 1 6 (outW g A u o1 z) 6 [(0, .ref (A 0 0)), (1, .ref u)] [.int v1, .int (0 : Int32), .ref u]
    refine g_i2l hC dL_causeReason_6 7 rfl ?_
    refine g_last (ws2 := (outW g A u o1 (vp_updL z (0 : Int32).toNatClampNeg v1.toInt64))) hC dL_causeReason_7 8 rfl 0 rfl (vp_in_d (by decide)) rfl ?_
    refine g_goto hC dL_causeReason_8 14 (by decide) ?_
    refine g_iconst hC (0 : Int32) dL_causeReason_14 15 rfl iconst_0 ?_
    exact g_iret hC hZ dL_causeReason_15 ⟨_, _, _, rfl, rfl, h⟩
def ww_undo (post : Int32 → Off → (Nat → Int64) → Prop) (E : Off) (z : Nat → Int64) : Prop := wp_X4_undo (fun (v1 : Int32) E1 => post 0 E1 (vp_updL z (0 : Int32).toNatClampNeg v1.toInt64)) (fun i E1 => (i = 2 ∧ post 1 E1 z)) E 
set_option maxRecDepth 100000 in
set_option maxHeartbeats 4000000 in
theorem cw_undo (l : Launch) (g : gE) (A : Nat → Nat → Nat) (u : Nat) (E : Off) (z : Nat → Int64) (post : Int32 → Off → (Nat → Int64) → Prop) (h : ww_undo post E z ) : FnW l g yL_undo cL_undo 3 (some .int) [(0, 8, 11, 169)] 8 383 1 6 (outW g A u E z) [.ref (A 0 0), .ref u] (pO (outW g A u) post) := by
  refine FnW.of (by decide) (Nat.le_of_ble_eq_true rfl) (fun x hC hZ hNw hT hst => ?_)
  unfold ww_undo at h
  show G x g 3 0 0 (outW g A u E z) 0 [(0, .ref (A 0 0)), (1, .ref u)] []
  refine g_aload_n hC dL_undo_0 1 rfl rfl 1 rfl ?_
  refine g_iconst hC (0 : Int32) dL_undo_1 2 rfl iconst_0 ?_
  refine g_aload_n hC dL_undo_2 3 rfl rfl 0 rfl ?_
  refine g_callVC hC hNw hst (ct_X4_undo l g A E  _ _ h) gY_X4_undo dL_undo_3 6 rfl ml_L_187 [(u, .inl (g.2.1 4, 1, .inr (.inl z)))] [] (by rw [List.append_nil]; rfl) [.int (0 : Int32), .ref u] rfl rfl rfl 0 8 rfl rfl ⟨Nat.le_of_ble_eq_true rfl, Nat.le_of_ble_eq_true rfl⟩ (Nat.le_of_ble_eq_true rfl) ⟨Nat.le_of_ble_eq_true rfl, Nat.le_of_ble_eq_true rfl⟩ ?_ ?_
  · rintro E9 w9 ⟨i9, o9, hi9, rfl, h⟩
    obtain ⟨rfl, h⟩ := h
    obtain rfl := Option.some.inj (show some "java/lang/IllegalStateException" = some E9 from hi9)
    refine g_catch hC hNw (by simp [gNwL]) [] ⟨0, 8, 11, 169⟩ [] hT (fun z9 hz9 => nomatch hz9) (by decide) (by decide) cl_L_169 (fun q9 => ?_)
    refine g_ws (ws2 := (outW g A u o9 z)) (by rw [List.append_nil]; rfl) ?_
    refine g_widen (k2 := 1) (n2 := 6) (Nat.le_of_ble_eq_true rfl) (Nat.le_of_ble_eq_true rfl) ?_
    show G x g 3 1 6 (outW g A u o9 z) 11 [(0, .ref (A 0 0)), (1, .ref u)] [.ref q9]
    refine g_astore_n (lv2 := [(2, .ref q9), (0, .ref (A 0 0)), (1, .ref u)]) hC dL_undo_11 12 rfl rfl (by decide) rfl ?_
    refine g_iconst hC (1 : Int32) dL_undo_12 13 rfl iconst_1 ?_
    exact g_iret hC hZ dL_undo_13 ⟨_, _, _, rfl, rfl, h⟩
  · rintro r w1 ⟨v1, o1, rfl, rfl, h⟩
    refine g_ws (ws2 := (outW g A u o1 z)) (by rw [List.append_nil]; rfl) ?_
    refine g_widen (k2 := 1) (n2 := 6) (Nat.le_of_ble_eq_true rfl) (Nat.le_of_ble_eq_true rfl) ?_
    show G x g 3 1 6 (outW g A u o1 z) 6 [(0, .ref (A 0 0)), (1, .ref u)] [.int v1, .int (0 : Int32), .ref u]
    refine g_i2l hC dL_undo_6 7 rfl ?_
    refine g_last (ws2 := (outW g A u o1 (vp_updL z (0 : Int32).toNatClampNeg v1.toInt64))) hC dL_undo_7 8 rfl 0 rfl (vp_in_d (by decide)) rfl ?_
    refine g_goto hC dL_undo_8 14 (by decide) ?_
    refine g_iconst hC (0 : Int32) dL_undo_14 15 rfl iconst_0 ?_
    exact g_iret hC hZ dL_undo_15 ⟨_, _, _, rfl, rfl, h⟩
def ww_restoreSnapshot (post : Int32 → Off → (Nat → Int64) → Prop) (E : Off) (z : Nat → Int64) : Prop := wp_X4_restoreSnapshot (fun (v1 : Int32) E1 => post 0 E1 (vp_updL z (0 : Int32).toNatClampNeg v1.toInt64)) (fun i E1 => (i = 2 ∧ post 1 E1 z)) E 
set_option maxRecDepth 100000 in
set_option maxHeartbeats 4000000 in
theorem cw_restoreSnapshot (l : Launch) (g : gE) (A : Nat → Nat → Nat) (u : Nat) (E : Off) (z : Nat → Int64) (post : Int32 → Off → (Nat → Int64) → Prop) (h : ww_restoreSnapshot post E z ) : FnW l g yL_restoreSnapshot cL_restoreSnapshot 3 (some .int) [(0, 8, 11, 169)] 8 383 1 6 (outW g A u E z) [.ref (A 0 0), .ref u] (pO (outW g A u) post) := by
  refine FnW.of (by decide) (Nat.le_of_ble_eq_true rfl) (fun x hC hZ hNw hT hst => ?_)
  unfold ww_restoreSnapshot at h
  show G x g 3 0 0 (outW g A u E z) 0 [(0, .ref (A 0 0)), (1, .ref u)] []
  refine g_aload_n hC dL_restoreSnapshot_0 1 rfl rfl 1 rfl ?_
  refine g_iconst hC (0 : Int32) dL_restoreSnapshot_1 2 rfl iconst_0 ?_
  refine g_aload_n hC dL_restoreSnapshot_2 3 rfl rfl 0 rfl ?_
  refine g_callVC hC hNw hst (ct_X4_restoreSnapshot l g A E  _ _ h) gY_X4_restoreSnapshot dL_restoreSnapshot_3 6 rfl ml_L_190 [(u, .inl (g.2.1 4, 1, .inr (.inl z)))] [] (by rw [List.append_nil]; rfl) [.int (0 : Int32), .ref u] rfl rfl rfl 0 8 rfl rfl ⟨Nat.le_of_ble_eq_true rfl, Nat.le_of_ble_eq_true rfl⟩ (Nat.le_of_ble_eq_true rfl) ⟨Nat.le_of_ble_eq_true rfl, Nat.le_of_ble_eq_true rfl⟩ ?_ ?_
  · rintro E9 w9 ⟨i9, o9, hi9, rfl, h⟩
    obtain ⟨rfl, h⟩ := h
    obtain rfl := Option.some.inj (show some "java/lang/IllegalStateException" = some E9 from hi9)
    refine g_catch hC hNw (by simp [gNwL]) [] ⟨0, 8, 11, 169⟩ [] hT (fun z9 hz9 => nomatch hz9) (by decide) (by decide) cl_L_169 (fun q9 => ?_)
    refine g_ws (ws2 := (outW g A u o9 z)) (by rw [List.append_nil]; rfl) ?_
    refine g_widen (k2 := 1) (n2 := 6) (Nat.le_of_ble_eq_true rfl) (Nat.le_of_ble_eq_true rfl) ?_
    show G x g 3 1 6 (outW g A u o9 z) 11 [(0, .ref (A 0 0)), (1, .ref u)] [.ref q9]
    refine g_astore_n (lv2 := [(2, .ref q9), (0, .ref (A 0 0)), (1, .ref u)]) hC dL_restoreSnapshot_11 12 rfl rfl (by decide) rfl ?_
    refine g_iconst hC (1 : Int32) dL_restoreSnapshot_12 13 rfl iconst_1 ?_
    exact g_iret hC hZ dL_restoreSnapshot_13 ⟨_, _, _, rfl, rfl, h⟩
  · rintro r w1 ⟨v1, o1, rfl, rfl, h⟩
    refine g_ws (ws2 := (outW g A u o1 z)) (by rw [List.append_nil]; rfl) ?_
    refine g_widen (k2 := 1) (n2 := 6) (Nat.le_of_ble_eq_true rfl) (Nat.le_of_ble_eq_true rfl) ?_
    show G x g 3 1 6 (outW g A u o1 z) 6 [(0, .ref (A 0 0)), (1, .ref u)] [.int v1, .int (0 : Int32), .ref u]
    refine g_i2l hC dL_restoreSnapshot_6 7 rfl ?_
    refine g_last (ws2 := (outW g A u o1 (vp_updL z (0 : Int32).toNatClampNeg v1.toInt64))) hC dL_restoreSnapshot_7 8 rfl 0 rfl (vp_in_d (by decide)) rfl ?_
    refine g_goto hC dL_restoreSnapshot_8 14 (by decide) ?_
    refine g_iconst hC (0 : Int32) dL_restoreSnapshot_14 15 rfl iconst_0 ?_
    exact g_iret hC hZ dL_restoreSnapshot_15 ⟨_, _, _, rfl, rfl, h⟩
