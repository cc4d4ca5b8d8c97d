theorem lw_b1 {w : Cond} (h : w ∈ tables_1_1) (hg : goodWord w = true) : w ∈ lw_all := lw_in (List.mem_append_right _ (show w ∈ tables_1 from List.mem_append_left _ h)) hg
theorem lw_b2 {w : Cond} (h : w ∈ tables_1_2) (hg : goodWord w = true) : w ∈ lw_all := lw_in (List.mem_append_right _ (show w ∈ tables_1 from List.mem_append_right _ (List.mem_append_left _ h))) hg
theorem lw_b3 {w : Cond} (h : w ∈ tables_1_3) (hg : goodWord w = true) : w ∈ lw_all := lw_in (List.mem_append_right _ (show w ∈ tables_1 from List.mem_append_right _ (List.mem_append_right _ (List.mem_append_left _ h)))) hg
theorem lw_b4 {w : Cond} (h : w ∈ tables_1_4) (hg : goodWord w = true) : w ∈ lw_all := lw_in (List.mem_append_right _ (show w ∈ tables_1 from List.mem_append_right _ (List.mem_append_right _ (List.mem_append_right _ (List.mem_append_left _ h))))) hg
theorem lw_b5 {w : Cond} (h : w ∈ tables_1_5) (hg : goodWord w = true) : w ∈ lw_all := lw_in (List.mem_append_right _ (show w ∈ tables_1 from List.mem_append_right _ (List.mem_append_right _ (List.mem_append_right _ (List.mem_append_right _ (List.mem_append_left _ h)))))) hg
theorem lw_b6 {w : Cond} (h : w ∈ tables_1_6) (hg : goodWord w = true) : w ∈ lw_all := lw_in (List.mem_append_right _ (show w ∈ tables_1 from List.mem_append_right _ (List.mem_append_right _ (List.mem_append_right _ (List.mem_append_right _ (List.mem_append_right _ (List.mem_append_left _ h))))))) hg
theorem lw_b7 {w : Cond} (h : w ∈ tables_1_7) (hg : goodWord w = true) : w ∈ lw_all := lw_in (List.mem_append_right _ (show w ∈ tables_1 from List.mem_append_right _ (List.mem_append_right _ (List.mem_append_right _ (List.mem_append_right _ (List.mem_append_right _ (List.mem_append_right _ (List.mem_append_left _ h)))))))) hg
theorem lw_b8 {w : Cond} (h : w ∈ tables_1_8) (hg : goodWord w = true) : w ∈ lw_all := lw_in (List.mem_append_right _ (show w ∈ tables_1 from List.mem_append_right _ (List.mem_append_right _ (List.mem_append_right _ (List.mem_append_right _ (List.mem_append_right _ (List.mem_append_right _ (List.mem_append_right _ (List.mem_append_left _ h))))))))) hg
theorem lw_b9 {w : Cond} (h : w ∈ tables_1_9) (hg : goodWord w = true) : w ∈ lw_all := lw_in (List.mem_append_right _ (show w ∈ tables_1 from List.mem_append_right _ (List.mem_append_right _ (List.mem_append_right _ (List.mem_append_right _ (List.mem_append_right _ (List.mem_append_right _ (List.mem_append_right _ (List.mem_append_right _ (List.mem_append_left _ h)))))))))) hg
theorem lw_b10 {w : Cond} (h : w ∈ tables_1_10) (hg : goodWord w = true) : w ∈ lw_all := lw_in (List.mem_append_right _ (show w ∈ tables_1 from List.mem_append_right _ (List.mem_append_right _ (List.mem_append_right _ (List.mem_append_right _ (List.mem_append_right _ (List.mem_append_right _ (List.mem_append_right _ (List.mem_append_right _ (List.mem_append_right _ (h))))))))))) hg
set_option maxRecDepth 100000 in
theorem gY_X4_carryOut : gYv yX4_carryOut cX4_carryOut 4 none 1 := ⟨⟨lw_inT 1 (by decide +kernel) rfl, lw_b7 (List.mem_of_getElem? (i := 173) rfl) rfl, by decide +kernel, by decide +kernel, by decide +kernel⟩, lw_inT 1612 (by decide +kernel) rfl, lw_inS (n := 10) 37 (by decide +kernel)⟩
set_option maxRecDepth 100000 in
theorem gY_X4_carryOutCommands : gYv yX4_carryOutCommands cX4_carryOutCommands 2 (some .int) 0 := ⟨⟨lw_inT 1 (by decide +kernel) rfl, lw_b7 (List.mem_of_getElem? (i := 157) rfl) rfl, by decide +kernel, by decide +kernel, by decide +kernel⟩, lw_inT 1596 (by decide +kernel) rfl, lw_inS (n := 10) 35 (by decide +kernel)⟩
set_option maxRecDepth 100000 in
theorem gY_X4_faultOf : gYv yX4_faultOf cX4_faultOf 4 (some .int) 1 := ⟨⟨lw_inT 1 (by decide +kernel) rfl, lw_b7 (List.mem_of_getElem? (i := 161) rfl) rfl, by decide +kernel, by decide +kernel, by decide +kernel⟩, lw_inT 1600 (by decide +kernel) rfl, lw_inS (n := 10) 36 (by decide +kernel)⟩
set_option maxRecDepth 100000 in
theorem gY_X4_reject : gYv yX4_reject cX4_reject 4 none 3 := ⟨⟨lw_inT 1 (by decide +kernel) rfl, lw_b3 (List.mem_of_getElem? (i := 127) rfl) rfl, by decide +kernel, by decide +kernel, by decide +kernel⟩, lw_inT 606 (by decide +kernel) rfl, lw_inS (n := 10) 10 (by decide +kernel)⟩
set_option maxRecDepth 100000 in
theorem gY_X4_require : gYv yX4_require cX4_require 2 none 1 := ⟨⟨lw_inT 1 (by decide +kernel) rfl, lw_b3 (List.mem_of_getElem? (i := 7) rfl) rfl, by decide +kernel, by decide +kernel, by decide +kernel⟩, lw_inT 486 (by decide +kernel) rfl, lw_inS (n := 10) 5 (by decide +kernel)⟩
set_option maxRecDepth 100000 in
theorem gY_X4_requireArgument : gYv yX4_requireArgument cX4_requireArgument 2 none 1 := ⟨⟨lw_inT 1 (by decide +kernel) rfl, lw_b3 (List.mem_of_getElem? (i := 87) rfl) rfl, by decide +kernel, by decide +kernel, by decide +kernel⟩, lw_inT 566 (by decide +kernel) rfl, lw_inS (n := 10) 8 (by decide +kernel)⟩
set_option maxRecDepth 100000 in
theorem gY_X4_requireDrawer : gYv yX4_requireDrawer cX4_requireDrawer 2 none 1 := ⟨⟨lw_inT 1 (by decide +kernel) rfl, lw_b4 (List.mem_of_getElem? (i := 131) rfl) rfl, by decide +kernel, by decide +kernel, by decide +kernel⟩, lw_inT 850 (by decide +kernel) rfl, lw_inS (n := 10) 15 (by decide +kernel)⟩
set_option maxRecDepth 100000 in
theorem gY_X4_requireElement : gYv yX4_requireElement cX4_requireElement 2 none 1 := ⟨⟨lw_inT 1 (by decide +kernel) rfl, lw_b3 (List.mem_of_getElem? (i := 107) rfl) rfl, by decide +kernel, by decide +kernel, by decide +kernel⟩, lw_inT 586 (by decide +kernel) rfl, lw_inS (n := 10) 9 (by decide +kernel)⟩
set_option maxRecDepth 100000 in
theorem gY_X4_requireIndex : gYv yX4_requireIndex cX4_requireIndex 2 none 1 := ⟨⟨lw_inT 1 (by decide +kernel) rfl, lw_b3 (List.mem_of_getElem? (i := 11) rfl) rfl, by decide +kernel, by decide +kernel, by decide +kernel⟩, lw_inT 490 (by decide +kernel) rfl, lw_inS (n := 10) 6 (by decide +kernel)⟩
set_option maxRecDepth 100000 in
theorem gY_X4_requireSock : gYv yX4_requireSock cX4_requireSock 2 none 1 := ⟨⟨lw_inT 1 (by decide +kernel) rfl, lw_b3 (List.mem_of_getElem? (i := 184) rfl) rfl, by decide +kernel, by decide +kernel, by decide +kernel⟩, lw_inT 663 (by decide +kernel) rfl, lw_inS (n := 10) 11 (by decide +kernel)⟩
set_option maxRecDepth 100000 in
theorem gY_X4_requireSocks : gYv yX4_requireSocks cX4_requireSocks 1 none 0 := ⟨⟨lw_inT 1 (by decide +kernel) rfl, lw_b6 (List.mem_of_getElem? (i := 2) rfl) rfl, by decide +kernel, by decide +kernel, by decide +kernel⟩, lw_inT 1201 (by decide +kernel) rfl, lw_inS (n := 10) 22 (by decide +kernel)⟩
set_option maxRecDepth 100000 in
theorem gY_X4_requireState : gYv yX4_requireState cX4_requireState 2 none 1 := ⟨⟨lw_inT 1 (by decide +kernel) rfl, lw_b7 (List.mem_of_getElem? (i := 59) rfl) rfl, by decide +kernel, by decide +kernel, by decide +kernel⟩, lw_inT 1498 (by decide +kernel) rfl, lw_inS (n := 10) 25 (by decide +kernel)⟩
set_option maxRecDepth 100000 in
theorem gY_X4_writeApplication : gYv yX4_writeApplication cX4_writeApplication 2 none 1 := ⟨⟨lw_inT 1 (by decide +kernel) rfl, lw_b7 (List.mem_of_getElem? (i := 29) rfl) rfl, by decide +kernel, by decide +kernel, by decide +kernel⟩, lw_inT 1468 (by decide +kernel) rfl, lw_inS (n := 10) 24 (by decide +kernel)⟩
set_option maxRecDepth 100000 in
theorem gY_X4_writeVisa : gYv yX4_writeVisa cX4_writeVisa 2 none 1 := ⟨⟨lw_inT 1 (by decide +kernel) rfl, lw_b7 (List.mem_of_getElem? (i := 25) rfl) rfl, by decide +kernel, by decide +kernel, by decide +kernel⟩, lw_inT 1464 (by decide +kernel) rfl, lw_inS (n := 10) 23 (by decide +kernel)⟩
set_option maxRecDepth 100000 in
theorem gY_X0_init : gYi yX0_init cX0_init 1 0 := ⟨⟨lw_inT 2 (by decide +kernel) rfl, lw_b1 (List.mem_of_getElem? (i := 43) rfl) rfl, by decide +kernel, by decide +kernel, by decide +kernel⟩, lw_inT 42 (by decide +kernel) rfl, rfl⟩
set_option maxRecDepth 100000 in
theorem gY_X0_adding : gYv yX0_adding cX0_adding 3 (some .int) 2 := ⟨⟨lw_inT 2 (by decide +kernel) rfl, lw_b2 (List.mem_of_getElem? (i := 183) rfl) rfl, by decide +kernel, by decide +kernel, by decide +kernel⟩, lw_inT 421 (by decide +kernel) rfl, lw_inT 422 (by decide +kernel) rfl⟩
set_option maxRecDepth 100000 in
theorem gY_X0_appealing : gYv yX0_appealing cX0_appealing 2 (some .int) 1 := ⟨⟨lw_inT 2 (by decide +kernel) rfl, lw_b4 (List.mem_of_getElem? (i := 75) rfl) rfl, by decide +kernel, by decide +kernel, by decide +kernel⟩, lw_inT 793 (by decide +kernel) rfl, lw_inT 794 (by decide +kernel) rfl⟩
set_option maxRecDepth 100000 in
theorem gY_X0_applying : gYv yX0_applying cX0_applying 3 (some .int) 2 := ⟨⟨lw_inT 2 (by decide +kernel) rfl, lw_b4 (List.mem_of_getElem? (i := 36) rfl) rfl, by decide +kernel, by decide +kernel, by decide +kernel⟩, lw_inT 754 (by decide +kernel) rfl, lw_inT 755 (by decide +kernel) rfl⟩
set_option maxRecDepth 100000 in
theorem gY_X0_banning : gYv yX0_banning cX0_banning 3 (some .int) 2 := ⟨⟨lw_inT 2 (by decide +kernel) rfl, lw_b5 (List.mem_of_getElem? (i := 60) rfl) rfl, by decide +kernel, by decide +kernel, by decide +kernel⟩, lw_inT 1018 (by decide +kernel) rfl, lw_inT 1019 (by decide +kernel) rfl⟩
set_option maxRecDepth 100000 in
theorem gY_X0_because : gYv yX0_because cX0_because 3 (some .int) 2 := ⟨⟨lw_inT 2 (by decide +kernel) rfl, lw_b3 (List.mem_of_getElem? (i := 3) rfl) rfl, by decide +kernel, by decide +kernel, by decide +kernel⟩, lw_inT 482 (by decide +kernel) rfl, lw_inS (n := 2) 4 (by decide +kernel)⟩
set_option maxRecDepth 100000 in
theorem gY_X0_crossing : gYv yX0_crossing cX0_crossing 6 (some .int) 3 := ⟨⟨lw_inT 2 (by decide +kernel) rfl, lw_b4 (List.mem_of_getElem? (i := 198) rfl) rfl, by decide +kernel, by decide +kernel, by decide +kernel⟩, lw_inT 917 (by decide +kernel) rfl, lw_inS (n := 2) 16 (by decide +kernel)⟩
set_option maxRecDepth 100000 in
theorem gY_X0_deciding : gYv yX0_deciding cX0_deciding 2 (some .int) 1 := ⟨⟨lw_inT 2 (by decide +kernel) rfl, lw_b4 (List.mem_of_getElem? (i := 90) rfl) rfl, by decide +kernel, by decide +kernel, by decide +kernel⟩, lw_inT 808 (by decide +kernel) rfl, lw_inT 809 (by decide +kernel) rfl⟩
set_option maxRecDepth 100000 in
theorem gY_X0_endingTreaty : gYv yX0_endingTreaty cX0_endingTreaty 3 (some .int) 2 := ⟨⟨lw_inT 2 (by decide +kernel) rfl, lw_b5 (List.mem_of_getElem? (i := 111) rfl) rfl, by decide +kernel, by decide +kernel, by decide +kernel⟩, lw_inT 1069 (by decide +kernel) rfl, lw_inT 1070 (by decide +kernel) rfl⟩
set_option maxRecDepth 100000 in
theorem gY_X0_joining : gYv yX0_joining cX0_joining 3 (some .int) 2 := ⟨⟨lw_inT 2 (by decide +kernel) rfl, lw_b4 (List.mem_of_getElem? (i := 226) rfl) rfl, by decide +kernel, by decide +kernel, by decide +kernel⟩, lw_inT 945 (by decide +kernel) rfl, lw_inS (n := 2) 17 (by decide +kernel)⟩
set_option maxRecDepth 100000 in
theorem gY_X0_leaving : gYv yX0_leaving cX0_leaving 3 (some .int) 1 := ⟨⟨lw_inT 2 (by decide +kernel) rfl, lw_b4 (List.mem_of_getElem? (i := 178) rfl) rfl, by decide +kernel, by decide +kernel, by decide +kernel⟩, lw_inT 896 (by decide +kernel) rfl, lw_inT 897 (by decide +kernel) rfl⟩
set_option maxRecDepth 100000 in
theorem gY_X0_moving : gYv yX0_moving cX0_moving 4 (some .int) 2 := ⟨⟨lw_inT 2 (by decide +kernel) rfl, lw_b4 (List.mem_of_getElem? (i := 193) rfl) rfl, by decide +kernel, by decide +kernel, by decide +kernel⟩, lw_inT 911 (by decide +kernel) rfl, lw_inT 912 (by decide +kernel) rfl⟩
set_option maxRecDepth 100000 in
theorem gY_X0_pairing : gYv yX0_pairing cX0_pairing 3 (some .int) 2 := ⟨⟨lw_inT 2 (by decide +kernel) rfl, lw_b4 (List.mem_of_getElem? (i := 222) rfl) rfl, by decide +kernel, by decide +kernel, by decide +kernel⟩, lw_inT 940 (by decide +kernel) rfl, lw_inT 941 (by decide +kernel) rfl⟩
set_option maxRecDepth 100000 in
theorem gY_X0_passing : gYv yX0_passing cX0_passing 2 (some .int) 1 := ⟨⟨lw_inT 2 (by decide +kernel) rfl, lw_b5 (List.mem_of_getElem? (i := 175) rfl) rfl, by decide +kernel, by decide +kernel, by decide +kernel⟩, lw_inT 1133 (by decide +kernel) rfl, lw_inT 1134 (by decide +kernel) rfl⟩
set_option maxRecDepth 100000 in
theorem gY_X0_renewing : gYv yX0_renewing cX0_renewing 4 (some .int) 2 := ⟨⟨lw_inT 2 (by decide +kernel) rfl, lw_b4 (List.mem_of_getElem? (i := 163) rfl) rfl, by decide +kernel, by decide +kernel, by decide +kernel⟩, lw_inT 881 (by decide +kernel) rfl, lw_inT 882 (by decide +kernel) rfl⟩
set_option maxRecDepth 100000 in
theorem gY_X0_separating : gYv yX0_separating cX0_separating 2 (some .int) 1 := ⟨⟨lw_inT 2 (by decide +kernel) rfl, lw_b5 (List.mem_of_getElem? (i := 6) rfl) rfl, by decide +kernel, by decide +kernel, by decide +kernel⟩, lw_inT 964 (by decide +kernel) rfl, lw_inT 965 (by decide +kernel) rfl⟩
set_option maxRecDepth 100000 in
theorem gY_X0_settingQuota : gYv yX0_settingQuota cX0_settingQuota 3 (some .int) 2 := ⟨⟨lw_inT 2 (by decide +kernel) rfl, lw_b5 (List.mem_of_getElem? (i := 45) rfl) rfl, by decide +kernel, by decide +kernel, by decide +kernel⟩, lw_inT 1003 (by decide +kernel) rfl, lw_inT 1004 (by decide +kernel) rfl⟩
set_option maxRecDepth 100000 in
theorem gY_X0_signing : gYv yX0_signing cX0_signing 4 (some .int) 3 := ⟨⟨lw_inT 2 (by decide +kernel) rfl, lw_b5 (List.mem_of_getElem? (i := 86) rfl) rfl, by decide +kernel, by decide +kernel, by decide +kernel⟩, lw_inT 1044 (by decide +kernel) rfl, lw_inT 1045 (by decide +kernel) rfl⟩
set_option maxRecDepth 100000 in
theorem gY_X0_withdrawing : gYv yX0_withdrawing cX0_withdrawing 2 (some .int) 1 := ⟨⟨lw_inT 2 (by decide +kernel) rfl, lw_b4 (List.mem_of_getElem? (i := 59) rfl) rfl, by decide +kernel, by decide +kernel, by decide +kernel⟩, lw_inT 777 (by decide +kernel) rfl, lw_inT 778 (by decide +kernel) rfl⟩
set_option maxRecDepth 100000 in
theorem gY_X1_init : gYi yX1_init cX1_init 1 0 := ⟨⟨lw_inT 5 (by decide +kernel) rfl, lw_b1 (List.mem_of_getElem? (i := 164) rfl) rfl, by decide +kernel, by decide +kernel, by decide +kernel⟩, lw_inT 163 (by decide +kernel) rfl, rfl⟩
set_option maxRecDepth 100000 in
theorem gY_X1_append : gYv yX1_append cX1_append 2 (some .int) 1 := ⟨⟨lw_inT 5 (by decide +kernel) rfl, lw_b7 (List.mem_of_getElem? (i := 79) rfl) rfl, by decide +kernel, by decide +kernel, by decide +kernel⟩, lw_inT 1517 (by decide +kernel) rfl, lw_inT 1518 (by decide +kernel) rfl⟩
set_option maxRecDepth 100000 in
theorem gY_X1_formOf : gYs yX1_formOf cX1_formOf 1 (some (.object "java/lang/String")) 1 := ⟨⟨lw_inT 5 (by decide +kernel) rfl, lw_b7 (List.mem_of_getElem? (i := 105) rfl) rfl, by decide +kernel, by decide +kernel, by decide +kernel⟩, lw_inT 1544 (by decide +kernel) rfl⟩
set_option maxRecDepth 100000 in
theorem gY_X1_here : gYv yX1_here cX1_here 1 (some .char) 0 := ⟨⟨lw_inT 5 (by decide +kernel) rfl, lw_b7 (List.mem_of_getElem? (i := 102) rfl) rfl, by decide +kernel, by decide +kernel, by decide +kernel⟩, lw_inT 1541 (by decide +kernel) rfl, lw_inS (n := 7) 28 (by decide +kernel)⟩
set_option maxRecDepth 100000 in
theorem gY_X1_isDigit : gYs yX1_isDigit cX1_isDigit 1 (some .boolean) 1 := ⟨⟨lw_inT 5 (by decide +kernel) rfl, lw_b7 (List.mem_of_getElem? (i := 133) rfl) rfl, by decide +kernel, by decide +kernel, by decide +kernel⟩, lw_inT 1572 (by decide +kernel) rfl⟩
set_option maxRecDepth 100000 in
theorem gY_X1_letter : gYv yX1_letter cX1_letter 2 (some .int) 1 := ⟨⟨lw_inT 5 (by decide +kernel) rfl, lw_b7 (List.mem_of_getElem? (i := 169) rfl) rfl, by decide +kernel, by decide +kernel, by decide +kernel⟩, lw_inT 1607 (by decide +kernel) rfl, lw_inT 1608 (by decide +kernel) rfl⟩
set_option maxRecDepth 100000 in
theorem gY_X1_put : gYv yX1_put cX1_put 2 none 1 := ⟨⟨lw_inT 5 (by decide +kernel) rfl, lw_b7 (List.mem_of_getElem? (i := 137) rfl) rfl, by decide +kernel, by decide +kernel, by decide +kernel⟩, lw_inT 1576 (by decide +kernel) rfl, lw_inS (n := 7) 31 (by decide +kernel)⟩
set_option maxRecDepth 100000 in
theorem gY_X1_read : gYv yX1_read cX1_read 2 (some .int) 0 := ⟨⟨lw_inT 5 (by decide +kernel) rfl, lw_b7 (List.mem_of_getElem? (i := 90) rfl) rfl, by decide +kernel, by decide +kernel, by decide +kernel⟩, lw_inT 1528 (by decide +kernel) rfl, lw_inT 1529 (by decide +kernel) rfl⟩
set_option maxRecDepth 100000 in
theorem gY_X1_readAll : gYv yX1_readAll cX1_readAll 2 (some .int) 0 := ⟨⟨lw_inT 5 (by decide +kernel) rfl, lw_b7 (List.mem_of_getElem? (i := 94) rfl) rfl, by decide +kernel, by decide +kernel, by decide +kernel⟩, lw_inT 1533 (by decide +kernel) rfl, lw_inS (n := 7) 26 (by decide +kernel)⟩
set_option maxRecDepth 100000 in
theorem gY_X1_readCommand : gYv yX1_readCommand cX1_readCommand 3 (some .boolean) 0 := ⟨⟨lw_inT 5 (by decide +kernel) rfl, lw_b7 (List.mem_of_getElem? (i := 98) rfl) rfl, by decide +kernel, by decide +kernel, by decide +kernel⟩, lw_inT 1537 (by decide +kernel) rfl, lw_inS (n := 7) 27 (by decide +kernel)⟩
set_option maxRecDepth 100000 in
theorem gY_X1_readDigit : gYv yX1_readDigit cX1_readDigit 1 (some .boolean) 0 := ⟨⟨lw_inT 5 (by decide +kernel) rfl, lw_b7 (List.mem_of_getElem? (i := 141) rfl) rfl, by decide +kernel, by decide +kernel, by decide +kernel⟩, lw_inT 1580 (by decide +kernel) rfl, lw_inS (n := 7) 32 (by decide +kernel)⟩
set_option maxRecDepth 100000 in
theorem gY_X1_readNumber : gYv yX1_readNumber cX1_readNumber 2 (some .boolean) 0 := ⟨⟨lw_inT 5 (by decide +kernel) rfl, lw_b7 (List.mem_of_getElem? (i := 130) rfl) rfl, by decide +kernel, by decide +kernel, by decide +kernel⟩, lw_inT 1569 (by decide +kernel) rfl, lw_inS (n := 7) 30 (by decide +kernel)⟩
set_option maxRecDepth 100000 in
theorem gY_X1_readOneOf : gYv yX1_readOneOf cX1_readOneOf 2 (some .boolean) 1 := ⟨⟨lw_inT 5 (by decide +kernel) rfl, lw_b7 (List.mem_of_getElem? (i := 146) rfl) rfl, by decide +kernel, by decide +kernel, by decide +kernel⟩, lw_inT 1585 (by decide +kernel) rfl, lw_inS (n := 7) 33 (by decide +kernel)⟩
set_option maxRecDepth 100000 in
theorem gY_X1_readPart : gYv yX1_readPart cX1_readPart 2 (some .boolean) 1 := ⟨⟨lw_inT 5 (by decide +kernel) rfl, lw_b7 (List.mem_of_getElem? (i := 126) rfl) rfl, by decide +kernel, by decide +kernel, by decide +kernel⟩, lw_inT 1565 (by decide +kernel) rfl, lw_inS (n := 7) 29 (by decide +kernel)⟩
set_option maxRecDepth 100000 in
theorem gY_X1_readSign : gYv yX1_readSign cX1_readSign 2 (some .boolean) 1 := ⟨⟨lw_inT 5 (by decide +kernel) rfl, lw_b7 (List.mem_of_getElem? (i := 152) rfl) rfl, by decide +kernel, by decide +kernel, by decide +kernel⟩, lw_inT 1591 (by decide +kernel) rfl, lw_inS (n := 7) 34 (by decide +kernel)⟩
set_option maxRecDepth 100000 in
theorem gY_X1_value : gYv yX1_value cX1_value 3 (some .int) 2 := ⟨⟨lw_inT 5 (by decide +kernel) rfl, lw_b7 (List.mem_of_getElem? (i := 165) rfl) rfl, by decide +kernel, by decide +kernel, by decide +kernel⟩, lw_inT 1603 (by decide +kernel) rfl, lw_inT 1604 (by decide +kernel) rfl⟩
set_option maxRecDepth 100000 in
theorem gY_X2_init : gYi yX2_init cX2_init 2 0 := ⟨⟨lw_inT 4 (by decide +kernel) rfl, lw_b1 (List.mem_of_getElem? (i := 137) rfl) rfl, by decide +kernel, by decide +kernel, by decide +kernel⟩, lw_inT 136 (by decide +kernel) rfl, rfl⟩
set_option maxRecDepth 100000 in
theorem gY_X2_keep : gYv yX2_keep cX2_keep 2 none 1 := ⟨⟨lw_inT 4 (by decide +kernel) rfl, lw_b3 (List.mem_of_getElem? (i := 147) rfl) rfl, by decide +kernel, by decide +kernel, by decide +kernel⟩, lw_inT 625 (by decide +kernel) rfl, lw_inT 626 (by decide +kernel) rfl⟩
set_option maxRecDepth 100000 in
theorem gY_X2_restore : gYv yX2_restore cX2_restore 2 none 1 := ⟨⟨lw_inT 4 (by decide +kernel) rfl, lw_b7 (List.mem_of_getElem? (i := 223) rfl) rfl, by decide +kernel, by decide +kernel, by decide +kernel⟩, lw_inT 1661 (by decide +kernel) rfl, lw_inT 1662 (by decide +kernel) rfl⟩
set_option maxRecDepth 100000 in
theorem gY_X2_save : gYv yX2_save cX2_save 2 none 1 := ⟨⟨lw_inT 4 (by decide +kernel) rfl, lw_b2 (List.mem_of_getElem? (i := 160) rfl) rfl, by decide +kernel, by decide +kernel, by decide +kernel⟩, lw_inT 398 (by decide +kernel) rfl, lw_inT 399 (by decide +kernel) rfl⟩
set_option maxRecDepth 100000 in
theorem gY_X2_takeBack : gYv yX2_takeBack cX2_takeBack 2 (some .int) 1 := ⟨⟨lw_inT 4 (by decide +kernel) rfl, lw_b7 (List.mem_of_getElem? (i := 212) rfl) rfl, by decide +kernel, by decide +kernel, by decide +kernel⟩, lw_inT 1650 (by decide +kernel) rfl, lw_inT 1651 (by decide +kernel) rfl⟩
set_option maxRecDepth 100000 in
theorem gY_X3_init : gYi yX3_init cX3_init 2 0 := ⟨⟨lw_inT 3 (by decide +kernel) rfl, lw_b1 (List.mem_of_getElem? (i := 49) rfl) rfl, by decide +kernel, by decide +kernel, by decide +kernel⟩, lw_inT 48 (by decide +kernel) rfl, rfl⟩
set_option maxRecDepth 100000 in
theorem gY_X3_add : gYv yX3_add cX3_add 4 (some .int) 2 := ⟨⟨lw_inT 3 (by decide +kernel) rfl, lw_b3 (List.mem_of_getElem? (i := 152) rfl) rfl, by decide +kernel, by decide +kernel, by decide +kernel⟩, lw_inT 630 (by decide +kernel) rfl, lw_inT 631 (by decide +kernel) rfl⟩
set_option maxRecDepth 100000 in
theorem gY_X3_admissible : gYv yX3_admissible cX3_admissible 4 (some .int) 1 := ⟨⟨lw_inT 3 (by decide +kernel) rfl, lw_b4 (List.mem_of_getElem? (i := 136) rfl) rfl, by decide +kernel, by decide +kernel, by decide +kernel⟩, lw_inT 854 (by decide +kernel) rfl, lw_inT 855 (by decide +kernel) rfl⟩
set_option maxRecDepth 100000 in
theorem gY_X3_advance : gYv yX3_advance cX3_advance 4 (some .int) 1 := ⟨⟨lw_inT 3 (by decide +kernel) rfl, lw_b5 (List.mem_of_getElem? (i := 179) rfl) rfl, by decide +kernel, by decide +kernel, by decide +kernel⟩, lw_inT 1137 (by decide +kernel) rfl, lw_inT 1138 (by decide +kernel) rfl⟩
set_option maxRecDepth 100000 in
theorem gY_X3_bans : gYv yX3_bans cX3_bans 3 (some .boolean) 2 := ⟨⟨lw_inT 3 (by decide +kernel) rfl, lw_b4 (List.mem_of_getElem? (i := 119) rfl) rfl, by decide +kernel, by decide +kernel, by decide +kernel⟩, lw_inT 837 (by decide +kernel) rfl, lw_inT 838 (by decide +kernel) rfl⟩
set_option maxRecDepth 100000 in
theorem gY_X3_cancel : gYv yX3_cancel cX3_cancel 3 (some .int) 2 := ⟨⟨lw_inT 3 (by decide +kernel) rfl, lw_b5 (List.mem_of_getElem? (i := 115) rfl) rfl, by decide +kernel, by decide +kernel, by decide +kernel⟩, lw_inT 1073 (by decide +kernel) rfl, lw_inT 1074 (by decide +kernel) rfl⟩
set_option maxRecDepth 100000 in
theorem gY_X3_changeQuota : gYv yX3_changeQuota cX3_changeQuota 4 (some .int) 2 := ⟨⟨lw_inT 3 (by decide +kernel) rfl, lw_b5 (List.mem_of_getElem? (i := 49) rfl) rfl, by decide +kernel, by decide +kernel, by decide +kernel⟩, lw_inT 1007 (by decide +kernel) rfl, lw_inT 1008 (by decide +kernel) rfl⟩
set_option maxRecDepth 100000 in
theorem gY_X3_clauseBetween : gYv yX3_clauseBetween cX3_clauseBetween 3 (some .int) 2 := ⟨⟨lw_inT 3 (by decide +kernel) rfl, lw_b4 (List.mem_of_getElem? (i := 202) rfl) rfl, by decide +kernel, by decide +kernel, by decide +kernel⟩, lw_inT 920 (by decide +kernel) rfl, lw_inT 921 (by decide +kernel) rfl⟩
set_option maxRecDepth 100000 in
theorem gY_X3_colourAt : gYv yX3_colourAt cX3_colourAt 2 (some .char) 1 := ⟨⟨lw_inT 3 (by decide +kernel) rfl, lw_b3 (List.mem_of_getElem? (i := 189) rfl) rfl, by decide +kernel, by decide +kernel, by decide +kernel⟩, lw_inT 667 (by decide +kernel) rfl, lw_inT 668 (by decide +kernel) rfl⟩
set_option maxRecDepth 100000 in
theorem gY_X3_copyFrom : gYv yX3_copyFrom cX3_copyFrom 2 none 1 := ⟨⟨lw_inT 3 (by decide +kernel) rfl, lw_b2 (List.mem_of_getElem? (i := 164) rfl) rfl, by decide +kernel, by decide +kernel, by decide +kernel⟩, lw_inT 402 (by decide +kernel) rfl, lw_inT 403 (by decide +kernel) rfl⟩
set_option maxRecDepth 100000 in
theorem gY_X3_copyRow : gYs yX3_copyRow cX3_copyRow 2 none 2 := ⟨⟨lw_inT 3 (by decide +kernel) rfl, lw_b2 (List.mem_of_getElem? (i := 167) rfl) rfl, by decide +kernel, by decide +kernel, by decide +kernel⟩, lw_inT 406 (by decide +kernel) rfl⟩
set_option maxRecDepth 100000 in
theorem gY_X3_countOf : gYv yX3_countOf cX3_countOf 5 (some .int) 2 := ⟨⟨lw_inT 3 (by decide +kernel) rfl, lw_b4 (List.mem_of_getElem? (i := 48) rfl) rfl, by decide +kernel, by decide +kernel, by decide +kernel⟩, lw_inT 766 (by decide +kernel) rfl, lw_inT 767 (by decide +kernel) rfl⟩
set_option maxRecDepth 100000 in
theorem gY_X3_countsAgree : gYv yX3_countsAgree cX3_countsAgree 2 (some .boolean) 0 := ⟨⟨lw_inT 3 (by decide +kernel) rfl, lw_b2 (List.mem_of_getElem? (i := 46) rfl) rfl, by decide +kernel, by decide +kernel, by decide +kernel⟩, lw_inT 284 (by decide +kernel) rfl, lw_inT 285 (by decide +kernel) rfl⟩
set_option maxRecDepth 100000 in
theorem gY_X3_decideAll : gYv yX3_decideAll cX3_decideAll 6 (some .int) 1 := ⟨⟨lw_inT 3 (by decide +kernel) rfl, lw_b4 (List.mem_of_getElem? (i := 94) rfl) rfl, by decide +kernel, by decide +kernel, by decide +kernel⟩, lw_inT 812 (by decide +kernel) rfl, lw_inT 813 (by decide +kernel) rfl⟩
set_option maxRecDepth 100000 in
theorem gY_X3_decideOne : gYv yX3_decideOne cX3_decideOne 3 none 2 := ⟨⟨lw_inT 3 (by decide +kernel) rfl, lw_b4 (List.mem_of_getElem? (i := 110) rfl) rfl, by decide +kernel, by decide +kernel, by decide +kernel⟩, lw_inT 829 (by decide +kernel) rfl, lw_inS (n := 16) 14 (by decide +kernel)⟩
set_option maxRecDepth 100000 in
theorem gY_X3_dropApplication : gYv yX3_dropApplication cX3_dropApplication 2 (some .int) 1 := ⟨⟨lw_inT 3 (by decide +kernel) rfl, lw_b4 (List.mem_of_getElem? (i := 64) rfl) rfl, by decide +kernel, by decide +kernel, by decide +kernel⟩, lw_inT 782 (by decide +kernel) rfl, lw_inT 783 (by decide +kernel) rfl⟩
set_option maxRecDepth 100000 in
theorem gY_X3_expelAll : gYv yX3_expelAll cX3_expelAll 2 none 0 := ⟨⟨lw_inT 3 (by decide +kernel) rfl, lw_b5 (List.mem_of_getElem? (i := 183) rfl) rfl, by decide +kernel, by decide +kernel, by decide +kernel⟩, lw_inT 1142 (by decide +kernel) rfl, lw_inS (n := 16) 18 (by decide +kernel)⟩
set_option maxRecDepth 100000 in
theorem gY_X3_expires : gYv yX3_expires cX3_expires 3 (some .boolean) 2 := ⟨⟨lw_inT 3 (by decide +kernel) rfl, lw_b5 (List.mem_of_getElem? (i := 187) rfl) rfl, by decide +kernel, by decide +kernel, by decide +kernel⟩, lw_inT 1146 (by decide +kernel) rfl, lw_inS (n := 16) 19 (by decide +kernel)⟩
set_option maxRecDepth 100000 in
theorem gY_X3_expiring : gYv yX3_expiring cX3_expiring 4 (some .int) 1 := ⟨⟨lw_inT 3 (by decide +kernel) rfl, lw_b5 (List.mem_of_getElem? (i := 198) rfl) rfl, by decide +kernel, by decide +kernel, by decide +kernel⟩, lw_inT 1156 (by decide +kernel) rfl, lw_inT 1157 (by decide +kernel) rfl⟩
set_option maxRecDepth 100000 in
theorem gY_X3_extend : gYv yX3_extend cX3_extend 3 (some .int) 2 := ⟨⟨lw_inT 3 (by decide +kernel) rfl, lw_b4 (List.mem_of_getElem? (i := 167) rfl) rfl, by decide +kernel, by decide +kernel, by decide +kernel⟩, lw_inT 885 (by decide +kernel) rfl, lw_inT 886 (by decide +kernel) rfl⟩
set_option maxRecDepth 100000 in
theorem gY_X3_file : gYv yX3_file cX3_file 3 (some .int) 2 := ⟨⟨lw_inT 3 (by decide +kernel) rfl, lw_b4 (List.mem_of_getElem? (i := 44) rfl) rfl, by decide +kernel, by decide +kernel, by decide +kernel⟩, lw_inT 762 (by decide +kernel) rfl, lw_inT 763 (by decide +kernel) rfl⟩
set_option maxRecDepth 100000 in
theorem gY_X3_forbid : gYv yX3_forbid cX3_forbid 4 (some .boolean) 2 := ⟨⟨lw_inT 3 (by decide +kernel) rfl, lw_b5 (List.mem_of_getElem? (i := 64) rfl) rfl, by decide +kernel, by decide +kernel, by decide +kernel⟩, lw_inT 1022 (by decide +kernel) rfl, lw_inT 1023 (by decide +kernel) rfl⟩
set_option maxRecDepth 100000 in
theorem gY_X3_hasApplication : gYv yX3_hasApplication cX3_hasApplication 2 (some .boolean) 1 := ⟨⟨lw_inT 3 (by decide +kernel) rfl, lw_b4 (List.mem_of_getElem? (i := 3) rfl) rfl, by decide +kernel, by decide +kernel, by decide +kernel⟩, lw_inT 721 (by decide +kernel) rfl, lw_inT 722 (by decide +kernel) rfl⟩
set_option maxRecDepth 100000 in
theorem gY_X3_hasBit : gYs yX3_hasBit cX3_hasBit 2 (some .boolean) 2 := ⟨⟨lw_inT 3 (by decide +kernel) rfl, lw_b2 (List.mem_of_getElem? (i := 64) rfl) rfl, by decide +kernel, by decide +kernel, by decide +kernel⟩, lw_inT 303 (by decide +kernel) rfl⟩
set_option maxRecDepth 100000 in
theorem gY_X3_hasRoom : gYv yX3_hasRoom cX3_hasRoom 2 (some .boolean) 1 := ⟨⟨lw_inT 3 (by decide +kernel) rfl, lw_b4 (List.mem_of_getElem? (i := 114) rfl) rfl, by decide +kernel, by decide +kernel, by decide +kernel⟩, lw_inT 832 (by decide +kernel) rfl, lw_inT 833 (by decide +kernel) rfl⟩
set_option maxRecDepth 100000 in
theorem gY_X3_hasTreaty : gYv yX3_hasTreaty cX3_hasTreaty 3 (some .boolean) 2 := ⟨⟨lw_inT 3 (by decide +kernel) rfl, lw_b5 (List.mem_of_getElem? (i := 91) rfl) rfl, by decide +kernel, by decide +kernel, by decide +kernel⟩, lw_inT 1049 (by decide +kernel) rfl, lw_inT 1050 (by decide +kernel) rfl⟩
set_option maxRecDepth 100000 in
theorem gY_X3_is : gYv yX3_is cX3_is 4 (some .boolean) 3 := ⟨⟨lw_inT 3 (by decide +kernel) rfl, lw_b2 (List.mem_of_getElem? (i := 58) rfl) rfl, by decide +kernel, by decide +kernel, by decide +kernel⟩, lw_inT 296 (by decide +kernel) rfl, lw_inT 297 (by decide +kernel) rfl⟩
set_option maxRecDepth 100000 in
theorem gY_X3_isDecidedAhead : gYv yX3_isDecidedAhead cX3_isDecidedAhead 3 (some .boolean) 2 := ⟨⟨lw_inT 3 (by decide +kernel) rfl, lw_b4 (List.mem_of_getElem? (i := 106) rfl) rfl, by decide +kernel, by decide +kernel, by decide +kernel⟩, lw_inT 825 (by decide +kernel) rfl, lw_inS (n := 16) 13 (by decide +kernel)⟩
set_option maxRecDepth 100000 in
theorem gY_X3_isDrawer : gYs yX3_isDrawer cX3_isDrawer 1 (some .boolean) 1 := ⟨⟨lw_inT 3 (by decide +kernel) rfl, lw_b4 (List.mem_of_getElem? (i := 40) rfl) rfl, by decide +kernel, by decide +kernel, by decide +kernel⟩, lw_inT 759 (by decide +kernel) rfl⟩
set_option maxRecDepth 100000 in
theorem gY_X3_isSingle : gYv yX3_isSingle cX3_isSingle 3 (some .boolean) 2 := ⟨⟨lw_inT 3 (by decide +kernel) rfl, lw_b2 (List.mem_of_getElem? (i := 54) rfl) rfl, by decide +kernel, by decide +kernel, by decide +kernel⟩, lw_inT 293 (by decide +kernel) rfl, lw_inS (n := 16) 0 (by decide +kernel)⟩
set_option maxRecDepth 100000 in
theorem gY_X3_isSock : gYv yX3_isSock cX3_isSock 2 (some .boolean) 1 := ⟨⟨lw_inT 3 (by decide +kernel) rfl, lw_b2 (List.mem_of_getElem? (i := 152) rfl) rfl, by decide +kernel, by decide +kernel, by decide +kernel⟩, lw_inT 390 (by decide +kernel) rfl, lw_inT 391 (by decide +kernel) rfl⟩
set_option maxRecDepth 100000 in
theorem gY_X3_isSoundPair : gYv yX3_isSoundPair cX3_isSoundPair 3 (some .boolean) 2 := ⟨⟨lw_inT 3 (by decide +kernel) rfl, lw_b2 (List.mem_of_getElem? (i := 148) rfl) rfl, by decide +kernel, by decide +kernel, by decide +kernel⟩, lw_inT 387 (by decide +kernel) rfl, lw_inS (n := 16) 3 (by decide +kernel)⟩
set_option maxRecDepth 100000 in
theorem gY_X3_join : gYv yX3_join cX3_join 3 (some .int) 2 := ⟨⟨lw_inT 3 (by decide +kernel) rfl, lw_b4 (List.mem_of_getElem? (i := 231) rfl) rfl, by decide +kernel, by decide +kernel, by decide +kernel⟩, lw_inT 949 (by decide +kernel) rfl, lw_inT 950 (by decide +kernel) rfl⟩
set_option maxRecDepth 100000 in
theorem gY_X3_match : gYv yX3_match cX3_match 4 (some .boolean) 2 := ⟨⟨lw_inT 3 (by decide +kernel) rfl, lw_b2 (List.mem_of_getElem? (i := 74) rfl) rfl, by decide +kernel, by decide +kernel, by decide +kernel⟩, lw_inT 312 (by decide +kernel) rfl, lw_inT 313 (by decide +kernel) rfl⟩
set_option maxRecDepth 100000 in
theorem gY_X3_mostPairs : gYs yX3_mostPairs cX3_mostPairs 7 (some .int) 3 := ⟨⟨lw_inT 3 (by decide +kernel) rfl, lw_b2 (List.mem_of_getElem? (i := 61) rfl) rfl, by decide +kernel, by decide +kernel, by decide +kernel⟩, lw_inT 300 (by decide +kernel) rfl⟩
set_option maxRecDepth 100000 in
theorem gY_X3_pairsAreSound : gYv yX3_pairsAreSound cX3_pairsAreSound 2 (some .boolean) 0 := ⟨⟨lw_inT 3 (by decide +kernel) rfl, lw_b2 (List.mem_of_getElem? (i := 144) rfl) rfl, by decide +kernel, by decide +kernel, by decide +kernel⟩, lw_inT 382 (by decide +kernel) rfl, lw_inT 383 (by decide +kernel) rfl⟩
set_option maxRecDepth 100000 in
theorem gY_X3_pairsByCounting : gYv yX3_pairsByCounting cX3_pairsByCounting 4 (some .int) 1 := ⟨⟨lw_inT 3 (by decide +kernel) rfl, lw_b2 (List.mem_of_getElem? (i := 81) rfl) rfl, by decide +kernel, by decide +kernel, by decide +kernel⟩, lw_inT 319 (by decide +kernel) rfl, lw_inT 320 (by decide +kernel) rfl⟩
set_option maxRecDepth 100000 in
theorem gY_X3_pairsByTrying : gYv yX3_pairsByTrying cX3_pairsByTrying 4 (some .int) 1 := ⟨⟨lw_inT 3 (by decide +kernel) rfl, lw_b2 (List.mem_of_getElem? (i := 50) rfl) rfl, by decide +kernel, by decide +kernel, by decide +kernel⟩, lw_inT 288 (by decide +kernel) rfl, lw_inT 289 (by decide +kernel) rfl⟩
set_option maxRecDepth 100000 in
theorem gY_X3_pairsIn : gYv yX3_pairsIn cX3_pairsIn 4 (some .int) 1 := ⟨⟨lw_inT 3 (by decide +kernel) rfl, lw_b4 (List.mem_of_getElem? (i := 235) rfl) rfl, by decide +kernel, by decide +kernel, by decide +kernel⟩, lw_inT 953 (by decide +kernel) rfl, lw_inT 954 (by decide +kernel) rfl⟩
set_option maxRecDepth 100000 in
theorem gY_X3_pairsOfSize : gYv yX3_pairsOfSize cX3_pairsOfSize 7 (some .int) 2 := ⟨⟨lw_inT 3 (by decide +kernel) rfl, lw_b2 (List.mem_of_getElem? (i := 85) rfl) rfl, by decide +kernel, by decide +kernel, by decide +kernel⟩, lw_inT 324 (by decide +kernel) rfl, lw_inS (n := 16) 1 (by decide +kernel)⟩
set_option maxRecDepth 100000 in
theorem gY_X3_part : gYv yX3_part cX3_part 3 (some .int) 1 := ⟨⟨lw_inT 3 (by decide +kernel) rfl, lw_b5 (List.mem_of_getElem? (i := 10) rfl) rfl, by decide +kernel, by decide +kernel, by decide +kernel⟩, lw_inT 968 (by decide +kernel) rfl, lw_inT 969 (by decide +kernel) rfl⟩
set_option maxRecDepth 100000 in
theorem gY_X3_permit : gYv yX3_permit cX3_permit 4 (some .boolean) 2 := ⟨⟨lw_inT 3 (by decide +kernel) rfl, lw_b5 (List.mem_of_getElem? (i := 75) rfl) rfl, by decide +kernel, by decide +kernel, by decide +kernel⟩, lw_inT 1033 (by decide +kernel) rfl, lw_inT 1034 (by decide +kernel) rfl⟩
set_option maxRecDepth 100000 in
theorem gY_X3_queued : gYv yX3_queued cX3_queued 4 (some .int) 2 := ⟨⟨lw_inT 3 (by decide +kernel) rfl, lw_b4 (List.mem_of_getElem? (i := 98) rfl) rfl, by decide +kernel, by decide +kernel, by decide +kernel⟩, lw_inT 816 (by decide +kernel) rfl, lw_inT 817 (by decide +kernel) rfl⟩
set_option maxRecDepth 100000 in
theorem gY_X3_queuedAhead : gYv yX3_queuedAhead cX3_queuedAhead 5 (some .int) 2 := ⟨⟨lw_inT 3 (by decide +kernel) rfl, lw_b4 (List.mem_of_getElem? (i := 102) rfl) rfl, by decide +kernel, by decide +kernel, by decide +kernel⟩, lw_inT 821 (by decide +kernel) rfl, lw_inS (n := 16) 12 (by decide +kernel)⟩
set_option maxRecDepth 100000 in
theorem gY_X3_raise : gYv yX3_raise cX3_raise 2 (some .int) 1 := ⟨⟨lw_inT 3 (by decide +kernel) rfl, lw_b4 (List.mem_of_getElem? (i := 79) rfl) rfl, by decide +kernel, by decide +kernel, by decide +kernel⟩, lw_inT 797 (by decide +kernel) rfl, lw_inT 798 (by decide +kernel) rfl⟩
set_option maxRecDepth 100000 in
theorem gY_X3_rankedAhead : gYv yX3_rankedAhead cX3_rankedAhead 4 (some .int) 1 := ⟨⟨lw_inT 3 (by decide +kernel) rfl, lw_b5 (List.mem_of_getElem? (i := 213) rfl) rfl, by decide +kernel, by decide +kernel, by decide +kernel⟩, lw_inT 1172 (by decide +kernel) rfl, lw_inS (n := 16) 20 (by decide +kernel)⟩
set_option maxRecDepth 100000 in
theorem gY_X3_rankedDrawer : gYv yX3_rankedDrawer cX3_rankedDrawer 3 (some .int) 1 := ⟨⟨lw_inT 3 (by decide +kernel) rfl, lw_b5 (List.mem_of_getElem? (i := 209) rfl) rfl, by decide +kernel, by decide +kernel, by decide +kernel⟩, lw_inT 1167 (by decide +kernel) rfl, lw_inT 1168 (by decide +kernel) rfl⟩
set_option maxRecDepth 100000 in
theorem gY_X3_ranksAhead : gYv yX3_ranksAhead cX3_ranksAhead 5 (some .boolean) 2 := ⟨⟨lw_inT 3 (by decide +kernel) rfl, lw_b5 (List.mem_of_getElem? (i := 217) rfl) rfl, by decide +kernel, by decide +kernel, by decide +kernel⟩, lw_inT 1176 (by decide +kernel) rfl, lw_inS (n := 16) 21 (by decide +kernel)⟩
set_option maxRecDepth 100000 in
theorem gY_X3_release : gYv yX3_release cX3_release 2 (some .int) 1 := ⟨⟨lw_inT 3 (by decide +kernel) rfl, lw_b4 (List.mem_of_getElem? (i := 182) rfl) rfl, by decide +kernel, by decide +kernel, by decide +kernel⟩, lw_inT 900 (by decide +kernel) rfl, lw_inT 901 (by decide +kernel) rfl⟩
set_option maxRecDepth 100000 in
theorem gY_X3_resident : gYv yX3_resident cX3_resident 5 (some .int) 2 := ⟨⟨lw_inT 3 (by decide +kernel) rfl, lw_b5 (List.mem_of_getElem? (i := 149) rfl) rfl, by decide +kernel, by decide +kernel, by decide +kernel⟩, lw_inT 1107 (by decide +kernel) rfl, lw_inT 1108 (by decide +kernel) rfl⟩
set_option maxRecDepth 100000 in
theorem gY_X3_residentSum : gYv yX3_residentSum cX3_residentSum 3 (some .int) 0 := ⟨⟨lw_inT 3 (by decide +kernel) rfl, lw_b6 (List.mem_of_getElem? (i := 20) rfl) rfl, by decide +kernel, by decide +kernel, by decide +kernel⟩, lw_inT 1218 (by decide +kernel) rfl, lw_inT 1219 (by decide +kernel) rfl⟩
set_option maxRecDepth 100000 in
theorem gY_X3_sign : gYv yX3_sign cX3_sign 4 (some .int) 3 := ⟨⟨lw_inT 3 (by decide +kernel) rfl, lw_b5 (List.mem_of_getElem? (i := 99) rfl) rfl, by decide +kernel, by decide +kernel, by decide +kernel⟩, lw_inT 1057 (by decide +kernel) rfl, lw_inT 1058 (by decide +kernel) rfl⟩
set_option maxRecDepth 100000 in
theorem gY_X3_singles : gYv yX3_singles cX3_singles 6 (some .int) 3 := ⟨⟨lw_inT 3 (by decide +kernel) rfl, lw_b2 (List.mem_of_getElem? (i := 137) rfl) rfl, by decide +kernel, by decide +kernel, by decide +kernel⟩, lw_inT 376 (by decide +kernel) rfl, lw_inS (n := 16) 2 (by decide +kernel)⟩
set_option maxRecDepth 100000 in
theorem gY_X3_sizeSum : gYv yX3_sizeSum cX3_sizeSum 3 (some .int) 0 := ⟨⟨lw_inT 3 (by decide +kernel) rfl, lw_b6 (List.mem_of_getElem? (i := 9) rfl) rfl, by decide +kernel, by decide +kernel, by decide +kernel⟩, lw_inT 1207 (by decide +kernel) rfl, lw_inT 1208 (by decide +kernel) rfl⟩
set_option maxRecDepth 100000 in
theorem gY_X3_transfer : gYv yX3_transfer cX3_transfer 3 (some .int) 2 := ⟨⟨lw_inT 3 (by decide +kernel) rfl, lw_b4 (List.mem_of_getElem? (i := 210) rfl) rfl, by decide +kernel, by decide +kernel, by decide +kernel⟩, lw_inT 928 (by decide +kernel) rfl, lw_inT 929 (by decide +kernel) rfl⟩
set_option maxRecDepth 100000 in
theorem gY_X3_treaties : gYv yX3_treaties cX3_treaties 3 (some .int) 0 := ⟨⟨lw_inT 3 (by decide +kernel) rfl, lw_b5 (List.mem_of_getElem? (i := 95) rfl) rfl, by decide +kernel, by decide +kernel, by decide +kernel⟩, lw_inT 1053 (by decide +kernel) rfl, lw_inT 1054 (by decide +kernel) rfl⟩
set_option maxRecDepth 100000 in
theorem gY_X5_adds : gYv yX5_adds cX5_adds 4 (some .int) 2 := ⟨⟨lw_inT 10 (by decide +kernel) rfl, lw_b8 (List.mem_of_getElem? (i := 106) rfl) rfl, by decide +kernel, by decide +kernel, by decide +kernel⟩, lw_inT 1785 (by decide +kernel) rfl, lw_inS (n := 24) 43 (by decide +kernel)⟩
set_option maxRecDepth 100000 in
theorem gY_X5_appeals : gYv yX5_appeals cX5_appeals 2 (some .int) 1 := ⟨⟨lw_inT 10 (by decide +kernel) rfl, lw_b9 (List.mem_of_getElem? (i := 5) rfl) rfl, by decide +kernel, by decide +kernel, by decide +kernel⟩, lw_inT 1924 (by decide +kernel) rfl, lw_inS (n := 24) 62 (by decide +kernel)⟩
set_option maxRecDepth 100000 in
theorem gY_X5_applies : gYv yX5_applies cX5_applies 3 (some .int) 2 := ⟨⟨lw_inT 10 (by decide +kernel) rfl, lw_b8 (List.mem_of_getElem? (i := 213) rfl) rfl, by decide +kernel, by decide +kernel, by decide +kernel⟩, lw_inT 1892 (by decide +kernel) rfl, lw_inS (n := 24) 56 (by decide +kernel)⟩
set_option maxRecDepth 100000 in
theorem gY_X5_askingFor : gYv yX5_askingFor cX5_askingFor 4 (some .int) 1 := ⟨⟨lw_inT 10 (by decide +kernel) rfl, lw_b8 (List.mem_of_getElem? (i := 217) rfl) rfl, by decide +kernel, by decide +kernel, by decide +kernel⟩, lw_inT 1896 (by decide +kernel) rfl, lw_inS (n := 24) 57 (by decide +kernel)⟩
set_option maxRecDepth 100000 in
theorem gY_X5_asksFor : gYv yX5_asksFor cX5_asksFor 3 (some .boolean) 2 := ⟨⟨lw_inT 10 (by decide +kernel) rfl, lw_b8 (List.mem_of_getElem? (i := 221) rfl) rfl, by decide +kernel, by decide +kernel, by decide +kernel⟩, lw_inT 1900 (by decide +kernel) rfl, lw_inS (n := 24) 58 (by decide +kernel)⟩
set_option maxRecDepth 100000 in
theorem gY_X5_banned : gYv yX5_banned cX5_banned 4 (some .int) 3 := ⟨⟨lw_inT 10 (by decide +kernel) rfl, lw_b9 (List.mem_of_getElem? (i := 156) rfl) rfl, by decide +kernel, by decide +kernel, by decide +kernel⟩, lw_inT 2075 (by decide +kernel) rfl, lw_inS (n := 24) 85 (by decide +kernel)⟩
set_option maxRecDepth 100000 in
theorem gY_X5_bans : gYv yX5_bans cX5_bans 5 (some .int) 3 := ⟨⟨lw_inT 10 (by decide +kernel) rfl, lw_b9 (List.mem_of_getElem? (i := 160) rfl) rfl, by decide +kernel, by decide +kernel, by decide +kernel⟩, lw_inT 2079 (by decide +kernel) rfl, lw_inS (n := 24) 86 (by decide +kernel)⟩
set_option maxRecDepth 100000 in
theorem gY_X5_begin : gYv yX5_begin cX5_begin 1 none 0 := ⟨⟨lw_inT 10 (by decide +kernel) rfl, lw_b8 (List.mem_of_getElem? (i := 74) rfl) rfl, by decide +kernel, by decide +kernel, by decide +kernel⟩, lw_inT 1753 (by decide +kernel) rfl, lw_inS (n := 24) 38 (by decide +kernel)⟩
set_option maxRecDepth 100000 in
theorem gY_X5_bitOf : gYs yX5_bitOf cX5_bitOf 1 (some .int) 1 := ⟨⟨lw_inT 10 (by decide +kernel) rfl, lw_b8 (List.mem_of_getElem? (i := 83) rfl) rfl, by decide +kernel, by decide +kernel, by decide +kernel⟩, lw_inT 1762 (by decide +kernel) rfl⟩
set_option maxRecDepth 100000 in
theorem gY_X5_cannotAppeal : gYv yX5_cannotAppeal cX5_cannotAppeal 2 (some .boolean) 1 := ⟨⟨lw_inT 10 (by decide +kernel) rfl, lw_b9 (List.mem_of_getElem? (i := 1) rfl) rfl, by decide +kernel, by decide +kernel, by decide +kernel⟩, lw_inT 1920 (by decide +kernel) rfl, lw_inS (n := 24) 61 (by decide +kernel)⟩
set_option maxRecDepth 100000 in
theorem gY_X5_cannotApply : gYv yX5_cannotApply cX5_cannotApply 2 (some .boolean) 1 := ⟨⟨lw_inT 10 (by decide +kernel) rfl, lw_b8 (List.mem_of_getElem? (i := 209) rfl) rfl, by decide +kernel, by decide +kernel, by decide +kernel⟩, lw_inT 1888 (by decide +kernel) rfl, lw_inS (n := 24) 55 (by decide +kernel)⟩
set_option maxRecDepth 100000 in
theorem gY_X5_cannotLeave : gYv yX5_cannotLeave cX5_cannotLeave 2 (some .boolean) 1 := ⟨⟨lw_inT 10 (by decide +kernel) rfl, lw_b9 (List.mem_of_getElem? (i := 69) rfl) rfl, by decide +kernel, by decide +kernel, by decide +kernel⟩, lw_inT 1988 (by decide +kernel) rfl, lw_inS (n := 24) 72 (by decide +kernel)⟩
set_option maxRecDepth 100000 in
theorem gY_X5_cannotMove : gYv yX5_cannotMove cX5_cannotMove 5 (some .boolean) 2 := ⟨⟨lw_inT 10 (by decide +kernel) rfl, lw_b9 (List.mem_of_getElem? (i := 85) rfl) rfl, by decide +kernel, by decide +kernel, by decide +kernel⟩, lw_inT 2004 (by decide +kernel) rfl, lw_inS (n := 24) 75 (by decide +kernel)⟩
set_option maxRecDepth 100000 in
theorem gY_X5_cannotPair : gYv yX5_cannotPair cX5_cannotPair 3 (some .boolean) 2 := ⟨⟨lw_inT 10 (by decide +kernel) rfl, lw_b9 (List.mem_of_getElem? (i := 100) rfl) rfl, by decide +kernel, by decide +kernel, by decide +kernel⟩, lw_inT 2019 (by decide +kernel) rfl, lw_inS (n := 24) 77 (by decide +kernel)⟩
set_option maxRecDepth 100000 in
theorem gY_X5_cannotRenew : gYv yX5_cannotRenew cX5_cannotRenew 3 (some .boolean) 2 := ⟨⟨lw_inT 10 (by decide +kernel) rfl, lw_b9 (List.mem_of_getElem? (i := 53) rfl) rfl, by decide +kernel, by decide +kernel, by decide +kernel⟩, lw_inT 1972 (by decide +kernel) rfl, lw_inS (n := 24) 69 (by decide +kernel)⟩
set_option maxRecDepth 100000 in
theorem gY_X5_cannotSeparate : gYv yX5_cannotSeparate cX5_cannotSeparate 2 (some .boolean) 1 := ⟨⟨lw_inT 10 (by decide +kernel) rfl, lw_b9 (List.mem_of_getElem? (i := 116) rfl) rfl, by decide +kernel, by decide +kernel, by decide +kernel⟩, lw_inT 2035 (by decide +kernel) rfl, lw_inS (n := 24) 80 (by decide +kernel)⟩
set_option maxRecDepth 100000 in
theorem gY_X5_cannotSign : gYv yX5_cannotSign cX5_cannotSign 3 (some .boolean) 2 := ⟨⟨lw_inT 10 (by decide +kernel) rfl, lw_b9 (List.mem_of_getElem? (i := 175) rfl) rfl, by decide +kernel, by decide +kernel, by decide +kernel⟩, lw_inT 2094 (by decide +kernel) rfl, lw_inS (n := 24) 87 (by decide +kernel)⟩
set_option maxRecDepth 100000 in
theorem gY_X5_cannotWithdraw : gYv yX5_cannotWithdraw cX5_cannotWithdraw 2 (some .boolean) 1 := ⟨⟨lw_inT 10 (by decide +kernel) rfl, lw_b8 (List.mem_of_getElem? (i := 229) rfl) rfl, by decide +kernel, by decide +kernel, by decide +kernel⟩, lw_inT 1908 (by decide +kernel) rfl, lw_inS (n := 24) 59 (by decide +kernel)⟩
set_option maxRecDepth 100000 in
theorem gY_X5_carries : gYv yX5_carries cX5_carries 6 (some .int) 1 := ⟨⟨lw_inT 10 (by decide +kernel) rfl, lw_b10 (List.mem_of_getElem? (i := 95) rfl) rfl, by decide +kernel, by decide +kernel, by decide +kernel⟩, lw_inT 2254 (by decide +kernel) rfl, lw_inS (n := 24) 105 (by decide +kernel)⟩
set_option maxRecDepth 100000 in
theorem gY_X5_checked : gYv yX5_checked cX5_checked 2 (some .int) 1 := ⟨⟨lw_inT 10 (by decide +kernel) rfl, lw_b8 (List.mem_of_getElem? (i := 138) rfl) rfl, by decide +kernel, by decide +kernel, by decide +kernel⟩, lw_inT 1817 (by decide +kernel) rfl, lw_inS (n := 24) 49 (by decide +kernel)⟩
set_option maxRecDepth 100000 in
theorem gY_X5_clause : gYv yX5_clause cX5_clause 1 (some .int) 0 := ⟨⟨lw_inT 10 (by decide +kernel) rfl, lw_b10 (List.mem_of_getElem? (i := 91) rfl) rfl, by decide +kernel, by decide +kernel, by decide +kernel⟩, lw_inT 2250 (by decide +kernel) rfl, lw_inS (n := 24) 104 (by decide +kernel)⟩
set_option maxRecDepth 100000 in
theorem gY_X5_colour : gYv yX5_colour cX5_colour 1 (some .int) 0 := ⟨⟨lw_inT 10 (by decide +kernel) rfl, lw_b10 (List.mem_of_getElem? (i := 71) rfl) rfl, by decide +kernel, by decide +kernel, by decide +kernel⟩, lw_inT 2230 (by decide +kernel) rfl, lw_inS (n := 24) 99 (by decide +kernel)⟩
set_option maxRecDepth 100000 in
theorem gY_X5_command : gYv yX5_command cX5_command 4 none 0 := ⟨⟨lw_inT 10 (by decide +kernel) rfl, lw_b10 (List.mem_of_getElem? (i := 59) rfl) rfl, by decide +kernel, by decide +kernel, by decide +kernel⟩, lw_inT 2218 (by decide +kernel) rfl, lw_inS (n := 24) 96 (by decide +kernel)⟩
set_option maxRecDepth 100000 in
theorem gY_X5_commit : gYv yX5_commit cX5_commit 3 (some .int) 1 := ⟨⟨lw_inT 10 (by decide +kernel) rfl, lw_b8 (List.mem_of_getElem? (i := 118) rfl) rfl, by decide +kernel, by decide +kernel, by decide +kernel⟩, lw_inT 1797 (by decide +kernel) rfl, lw_inS (n := 24) 46 (by decide +kernel)⟩
set_option maxRecDepth 100000 in
theorem gY_X5_copy : gYs yX5_copy cX5_copy 5 none 4 := ⟨⟨lw_inT 10 (by decide +kernel) rfl, lw_b8 (List.mem_of_getElem? (i := 77) rfl) rfl, by decide +kernel, by decide +kernel, by decide +kernel⟩, lw_inT 1756 (by decide +kernel) rfl⟩
set_option maxRecDepth 100000 in
theorem gY_X5_decides : gYv yX5_decides cX5_decides 4 (some .int) 1 := ⟨⟨lw_inT 10 (by decide +kernel) rfl, lw_b9 (List.mem_of_getElem? (i := 13) rfl) rfl, by decide +kernel, by decide +kernel, by decide +kernel⟩, lw_inT 1932 (by decide +kernel) rfl, lw_inS (n := 24) 63 (by decide +kernel)⟩
set_option maxRecDepth 100000 in
theorem gY_X5_digit : gYv yX5_digit cX5_digit 1 (some .int) 0 := ⟨⟨lw_inT 10 (by decide +kernel) rfl, lw_b10 (List.mem_of_getElem? (i := 75) rfl) rfl, by decide +kernel, by decide +kernel, by decide +kernel⟩, lw_inT 2234 (by decide +kernel) rfl, lw_inS (n := 24) 100 (by decide +kernel)⟩
set_option maxRecDepth 100000 in
theorem gY_X5_fail : gYv yX5_fail cX5_fail 2 (some .int) 1 := ⟨⟨lw_inT 10 (by decide +kernel) rfl, lw_b8 (List.mem_of_getElem? (i := 90) rfl) rfl, by decide +kernel, by decide +kernel, by decide +kernel⟩, lw_inT 1769 (by decide +kernel) rfl, lw_inS (n := 24) 39 (by decide +kernel)⟩
set_option maxRecDepth 100000 in
theorem gY_X5_fits : gYv yX5_fits cX5_fits 3 (some .boolean) 2 := ⟨⟨lw_inT 10 (by decide +kernel) rfl, lw_b8 (List.mem_of_getElem? (i := 198) rfl) rfl, by decide +kernel, by decide +kernel, by decide +kernel⟩, lw_inT 1877 (by decide +kernel) rfl, lw_inS (n := 24) 54 (by decide +kernel)⟩
set_option maxRecDepth 100000 in
theorem gY_X5_in : gYs yX5_in cX5_in 3 (some .boolean) 3 := ⟨⟨lw_inT 10 (by decide +kernel) rfl, lw_b8 (List.mem_of_getElem? (i := 86) rfl) rfl, by decide +kernel, by decide +kernel, by decide +kernel⟩, lw_inT 1765 (by decide +kernel) rfl⟩
set_option maxRecDepth 100000 in
theorem gY_X5_inQueue : gYv yX5_inQueue cX5_inQueue 6 (some .int) 2 := ⟨⟨lw_inT 10 (by decide +kernel) rfl, lw_b9 (List.mem_of_getElem? (i := 17) rfl) rfl, by decide +kernel, by decide +kernel, by decide +kernel⟩, lw_inT 1936 (by decide +kernel) rfl, lw_inS (n := 24) 64 (by decide +kernel)⟩
set_option maxRecDepth 100000 in
theorem gY_X5_is : gYv yX5_is cX5_is 3 (some .boolean) 2 := ⟨⟨lw_inT 10 (by decide +kernel) rfl, lw_b8 (List.mem_of_getElem? (i := 154) rfl) rfl, by decide +kernel, by decide +kernel, by decide +kernel⟩, lw_inT 1833 (by decide +kernel) rfl, lw_inS (n := 24) 51 (by decide +kernel)⟩
set_option maxRecDepth 100000 in
theorem gY_X5_isBound : gYv yX5_isBound cX5_isBound 2 (some .boolean) 1 := ⟨⟨lw_inT 10 (by decide +kernel) rfl, lw_b9 (List.mem_of_getElem? (i := 73) rfl) rfl, by decide +kernel, by decide +kernel, by decide +kernel⟩, lw_inT 1992 (by decide +kernel) rfl, lw_inS (n := 24) 73 (by decide +kernel)⟩
set_option maxRecDepth 100000 in
theorem gY_X5_isClause : gYs yX5_isClause cX5_isClause 1 (some .boolean) 1 := ⟨⟨lw_inT 10 (by decide +kernel) rfl, lw_b9 (List.mem_of_getElem? (i := 171) rfl) rfl, by decide +kernel, by decide +kernel, by decide +kernel⟩, lw_inT 2090 (by decide +kernel) rfl⟩
set_option maxRecDepth 100000 in
theorem gY_X5_isDrawer : gYs yX5_isDrawer cX5_isDrawer 1 (some .boolean) 1 := ⟨⟨lw_inT 10 (by decide +kernel) rfl, lw_b8 (List.mem_of_getElem? (i := 205) rfl) rfl, by decide +kernel, by decide +kernel, by decide +kernel⟩, lw_inT 1884 (by decide +kernel) rfl⟩
set_option maxRecDepth 100000 in
theorem gY_X5_isFuller : gYv yX5_isFuller cX5_isFuller 3 (some .boolean) 2 := ⟨⟨lw_inT 10 (by decide +kernel) rfl, lw_b10 (List.mem_of_getElem? (i := 15) rfl) rfl, by decide +kernel, by decide +kernel, by decide +kernel⟩, lw_inT 2174 (by decide +kernel) rfl, lw_inS (n := 24) 92 (by decide +kernel)⟩
set_option maxRecDepth 100000 in
theorem gY_X5_isKind : gYs yX5_isKind cX5_isKind 2 (some .boolean) 2 := ⟨⟨lw_inT 10 (by decide +kernel) rfl, lw_b8 (List.mem_of_getElem? (i := 80) rfl) rfl, by decide +kernel, by decide +kernel, by decide +kernel⟩, lw_inT 1759 (by decide +kernel) rfl⟩
set_option maxRecDepth 100000 in
theorem gY_X5_isNoResident : gYv yX5_isNoResident cX5_isNoResident 2 (some .boolean) 1 := ⟨⟨lw_inT 10 (by decide +kernel) rfl, lw_b9 (List.mem_of_getElem? (i := 57) rfl) rfl, by decide +kernel, by decide +kernel, by decide +kernel⟩, lw_inT 1976 (by decide +kernel) rfl, lw_inS (n := 24) 70 (by decide +kernel)⟩
set_option maxRecDepth 100000 in
theorem gY_X5_isPaired : gYv yX5_isPaired cX5_isPaired 2 (some .boolean) 1 := ⟨⟨lw_inT 10 (by decide +kernel) rfl, lw_b8 (List.mem_of_getElem? (i := 190) rfl) rfl, by decide +kernel, by decide +kernel, by decide +kernel⟩, lw_inT 1869 (by decide +kernel) rfl, lw_inS (n := 24) 53 (by decide +kernel)⟩
set_option maxRecDepth 100000 in
theorem gY_X5_isShut : gYv yX5_isShut cX5_isShut 3 (some .boolean) 2 := ⟨⟨lw_inT 10 (by decide +kernel) rfl, lw_b9 (List.mem_of_getElem? (i := 33) rfl) rfl, by decide +kernel, by decide +kernel, by decide +kernel⟩, lw_inT 1952 (by decide +kernel) rfl, lw_inS (n := 24) 68 (by decide +kernel)⟩
set_option maxRecDepth 100000 in
theorem gY_X5_isSock : gYv yX5_isSock cX5_isSock 2 (some .boolean) 1 := ⟨⟨lw_inT 10 (by decide +kernel) rfl, lw_b8 (List.mem_of_getElem? (i := 134) rfl) rfl, by decide +kernel, by decide +kernel, by decide +kernel⟩, lw_inT 1813 (by decide +kernel) rfl, lw_inS (n := 24) 48 (by decide +kernel)⟩
set_option maxRecDepth 100000 in
theorem gY_X5_isSooner : gYv yX5_isSooner cX5_isSooner 3 (some .boolean) 2 := ⟨⟨lw_inT 10 (by decide +kernel) rfl, lw_b9 (List.mem_of_getElem? (i := 21) rfl) rfl, by decide +kernel, by decide +kernel, by decide +kernel⟩, lw_inT 1940 (by decide +kernel) rfl, lw_inS (n := 24) 65 (by decide +kernel)⟩
set_option maxRecDepth 100000 in
theorem gY_X5_keeps : gYv yX5_keeps cX5_keeps 4 none 3 := ⟨⟨lw_inT 10 (by decide +kernel) rfl, lw_b10 (List.mem_of_getElem? (i := 79) rfl) rfl, by decide +kernel, by decide +kernel, by decide +kernel⟩, lw_inT 2238 (by decide +kernel) rfl, lw_inS (n := 24) 101 (by decide +kernel)⟩
set_option maxRecDepth 100000 in
theorem gY_X5_known : gYv yX5_known cX5_known 4 (some .int) 3 := ⟨⟨lw_inT 10 (by decide +kernel) rfl, lw_b8 (List.mem_of_getElem? (i := 174) rfl) rfl, by decide +kernel, by decide +kernel, by decide +kernel⟩, lw_inT 1853 (by decide +kernel) rfl, lw_inS (n := 24) 52 (by decide +kernel)⟩
set_option maxRecDepth 100000 in
theorem gY_X5_leaves : gYv yX5_leaves cX5_leaves 3 (some .int) 1 := ⟨⟨lw_inT 10 (by decide +kernel) rfl, lw_b9 (List.mem_of_getElem? (i := 77) rfl) rfl, by decide +kernel, by decide +kernel, by decide +kernel⟩, lw_inT 1996 (by decide +kernel) rfl, lw_inS (n := 24) 74 (by decide +kernel)⟩
set_option maxRecDepth 100000 in
theorem gY_X5_limits : gYv yX5_limits cX5_limits 4 (some .int) 2 := ⟨⟨lw_inT 10 (by decide +kernel) rfl, lw_b9 (List.mem_of_getElem? (i := 148) rfl) rfl, by decide +kernel, by decide +kernel, by decide +kernel⟩, lw_inT 2067 (by decide +kernel) rfl, lw_inS (n := 24) 84 (by decide +kernel)⟩
set_option maxRecDepth 100000 in
theorem gY_X5_livesIn : gYv yX5_livesIn cX5_livesIn 3 (some .boolean) 2 := ⟨⟨lw_inT 10 (by decide +kernel) rfl, lw_b9 (List.mem_of_getElem? (i := 29) rfl) rfl, by decide +kernel, by decide +kernel, by decide +kernel⟩, lw_inT 1948 (by decide +kernel) rfl, lw_inS (n := 24) 67 (by decide +kernel)⟩
set_option maxRecDepth 100000 in
theorem gY_X5_livingIn : gYv yX5_livingIn cX5_livingIn 4 (some .int) 1 := ⟨⟨lw_inT 10 (by decide +kernel) rfl, lw_b9 (List.mem_of_getElem? (i := 25) rfl) rfl, by decide +kernel, by decide +kernel, by decide +kernel⟩, lw_inT 1944 (by decide +kernel) rfl, lw_inS (n := 24) 66 (by decide +kernel)⟩
set_option maxRecDepth 100000 in
theorem gY_X5_mark : gYv yX5_mark cX5_mark 1 (some .int) 0 := ⟨⟨lw_inT 10 (by decide +kernel) rfl, lw_b10 (List.mem_of_getElem? (i := 63) rfl) rfl, by decide +kernel, by decide +kernel, by decide +kernel⟩, lw_inT 2222 (by decide +kernel) rfl, lw_inS (n := 24) 97 (by decide +kernel)⟩
set_option maxRecDepth 100000 in
theorem gY_X5_moves : gYv yX5_moves cX5_moves 4 (some .int) 2 := ⟨⟨lw_inT 10 (by decide +kernel) rfl, lw_b9 (List.mem_of_getElem? (i := 92) rfl) rfl, by decide +kernel, by decide +kernel, by decide +kernel⟩, lw_inT 2011 (by decide +kernel) rfl, lw_inS (n := 24) 76 (by decide +kernel)⟩
set_option maxRecDepth 100000 in
theorem gY_X5_next : gYv yX5_next cX5_next 2 (some .int) 1 := ⟨⟨lw_inT 10 (by decide +kernel) rfl, lw_b10 (List.mem_of_getElem? (i := 67) rfl) rfl, by decide +kernel, by decide +kernel, by decide +kernel⟩, lw_inT 2226 (by decide +kernel) rfl, lw_inS (n := 24) 98 (by decide +kernel)⟩
set_option maxRecDepth 100000 in
theorem gY_X5_noTreaty : gYv yX5_noTreaty cX5_noTreaty 3 (some .int) 2 := ⟨⟨lw_inT 10 (by decide +kernel) rfl, lw_b9 (List.mem_of_getElem? (i := 191) rfl) rfl, by decide +kernel, by decide +kernel, by decide +kernel⟩, lw_inT 2110 (by decide +kernel) rfl, lw_inS (n := 24) 90 (by decide +kernel)⟩
set_option maxRecDepth 100000 in
theorem gY_X5_notes : gYv yX5_notes cX5_notes 4 (some .boolean) 3 := ⟨⟨lw_inT 10 (by decide +kernel) rfl, lw_b8 (List.mem_of_getElem? (i := 98) rfl) rfl, by decide +kernel, by decide +kernel, by decide +kernel⟩, lw_inT 1777 (by decide +kernel) rfl, lw_inS (n := 24) 41 (by decide +kernel)⟩
set_option maxRecDepth 100000 in
theorem gY_X5_number : gYv yX5_number cX5_number 2 (some .int) 0 := ⟨⟨lw_inT 10 (by decide +kernel) rfl, lw_b10 (List.mem_of_getElem? (i := 83) rfl) rfl, by decide +kernel, by decide +kernel, by decide +kernel⟩, lw_inT 2242 (by decide +kernel) rfl, lw_inS (n := 24) 102 (by decide +kernel)⟩
set_option maxRecDepth 100000 in
theorem gY_X5_pairs : gYv yX5_pairs cX5_pairs 3 (some .int) 2 := ⟨⟨lw_inT 10 (by decide +kernel) rfl, lw_b9 (List.mem_of_getElem? (i := 104) rfl) rfl, by decide +kernel, by decide +kernel, by decide +kernel⟩, lw_inT 2023 (by decide +kernel) rfl, lw_inS (n := 24) 78 (by decide +kernel)⟩
set_option maxRecDepth 100000 in
theorem gY_X5_pairsIn : gYv yX5_pairsIn cX5_pairsIn 4 (some .int) 1 := ⟨⟨lw_inT 10 (by decide +kernel) rfl, lw_b9 (List.mem_of_getElem? (i := 108) rfl) rfl, by decide +kernel, by decide +kernel, by decide +kernel⟩, lw_inT 2027 (by decide +kernel) rfl, lw_inS (n := 24) 79 (by decide +kernel)⟩
set_option maxRecDepth 100000 in
theorem gY_X5_parse : gYv yX5_parse cX5_parse 1 none 0 := ⟨⟨lw_inT 10 (by decide +kernel) rfl, lw_b10 (List.mem_of_getElem? (i := 55) rfl) rfl, by decide +kernel, by decide +kernel, by decide +kernel⟩, lw_inT 2214 (by decide +kernel) rfl, lw_inS (n := 24) 95 (by decide +kernel)⟩
set_option maxRecDepth 100000 in
theorem gY_X5_passes : gYv yX5_passes cX5_passes 5 (some .int) 1 := ⟨⟨lw_inT 10 (by decide +kernel) rfl, lw_b9 (List.mem_of_getElem? (i := 223) rfl) rfl, by decide +kernel, by decide +kernel, by decide +kernel⟩, lw_inT 2142 (by decide +kernel) rfl, lw_inS (n := 24) 91 (by decide +kernel)⟩
set_option maxRecDepth 100000 in
theorem gY_X5_plain : gYv yX5_plain cX5_plain 2 (some .int) 1 := ⟨⟨lw_inT 10 (by decide +kernel) rfl, lw_b8 (List.mem_of_getElem? (i := 126) rfl) rfl, by decide +kernel, by decide +kernel, by decide +kernel⟩, lw_inT 1805 (by decide +kernel) rfl, lw_inS (n := 24) 47 (by decide +kernel)⟩
set_option maxRecDepth 100000 in
theorem gY_X5_possible : gYv yX5_possible cX5_possible 10 (some .int) 1 := ⟨⟨lw_inT 10 (by decide +kernel) rfl, lw_b9 (List.mem_of_getElem? (i := 132) rfl) rfl, by decide +kernel, by decide +kernel, by decide +kernel⟩, lw_inT 2051 (by decide +kernel) rfl, lw_inS (n := 24) 82 (by decide +kernel)⟩
set_option maxRecDepth 100000 in
theorem gY_X5_present : gYv yX5_present cX5_present 3 (some .int) 2 := ⟨⟨lw_inT 10 (by decide +kernel) rfl, lw_b10 (List.mem_of_getElem? (i := 103) rfl) rfl, by decide +kernel, by decide +kernel, by decide +kernel⟩, lw_inT 2262 (by decide +kernel) rfl, lw_inS (n := 24) 106 (by decide +kernel)⟩
set_option maxRecDepth 100000 in
theorem gY_X5_reject : gYv yX5_reject cX5_reject 2 (some .int) 1 := ⟨⟨lw_inT 10 (by decide +kernel) rfl, lw_b8 (List.mem_of_getElem? (i := 102) rfl) rfl, by decide +kernel, by decide +kernel, by decide +kernel⟩, lw_inT 1781 (by decide +kernel) rfl, lw_inS (n := 24) 42 (by decide +kernel)⟩
set_option maxRecDepth 100000 in
theorem gY_X5_renews : gYv yX5_renews cX5_renews 3 (some .int) 2 := ⟨⟨lw_inT 10 (by decide +kernel) rfl, lw_b9 (List.mem_of_getElem? (i := 61) rfl) rfl, by decide +kernel, by decide +kernel, by decide +kernel⟩, lw_inT 1980 (by decide +kernel) rfl, lw_inS (n := 24) 71 (by decide +kernel)⟩
set_option maxRecDepth 100000 in
theorem gY_X5_s : gYv yX5_s cX5_s 3 (some .int) 2 := ⟨⟨lw_inT 10 (by decide +kernel) rfl, lw_b8 (List.mem_of_getElem? (i := 142) rfl) rfl, by decide +kernel, by decide +kernel, by decide +kernel⟩, lw_inT 1821 (by decide +kernel) rfl, lw_inS (n := 24) 50 (by decide +kernel)⟩
set_option maxRecDepth 100000 in
theorem gY_X5_sendsAway : gYv yX5_sendsAway cX5_sendsAway 2 none 1 := ⟨⟨lw_inT 10 (by decide +kernel) rfl, lw_b8 (List.mem_of_getElem? (i := 114) rfl) rfl, by decide +kernel, by decide +kernel, by decide +kernel⟩, lw_inT 1793 (by decide +kernel) rfl, lw_inS (n := 24) 45 (by decide +kernel)⟩
set_option maxRecDepth 100000 in
theorem gY_X5_separates : gYv yX5_separates cX5_separates 3 (some .int) 1 := ⟨⟨lw_inT 10 (by decide +kernel) rfl, lw_b9 (List.mem_of_getElem? (i := 120) rfl) rfl, by decide +kernel, by decide +kernel, by decide +kernel⟩, lw_inT 2039 (by decide +kernel) rfl, lw_inS (n := 24) 81 (by decide +kernel)⟩
set_option maxRecDepth 100000 in
theorem gY_X5_set : gYv yX5_set cX5_set 4 none 3 := ⟨⟨lw_inT 10 (by decide +kernel) rfl, lw_b8 (List.mem_of_getElem? (i := 110) rfl) rfl, by decide +kernel, by decide +kernel, by decide +kernel⟩, lw_inT 1789 (by decide +kernel) rfl, lw_inS (n := 24) 44 (by decide +kernel)⟩
set_option maxRecDepth 100000 in
theorem gY_X5_sign : gYv yX5_sign cX5_sign 3 none 1 := ⟨⟨lw_inT 10 (by decide +kernel) rfl, lw_b10 (List.mem_of_getElem? (i := 87) rfl) rfl, by decide +kernel, by decide +kernel, by decide +kernel⟩, lw_inT 2246 (by decide +kernel) rfl, lw_inS (n := 24) 103 (by decide +kernel)⟩
set_option maxRecDepth 100000 in
theorem gY_X5_signs : gYv yX5_signs cX5_signs 4 (some .int) 3 := ⟨⟨lw_inT 10 (by decide +kernel) rfl, lw_b9 (List.mem_of_getElem? (i := 183) rfl) rfl, by decide +kernel, by decide +kernel, by decide +kernel⟩, lw_inT 2102 (by decide +kernel) rfl, lw_inS (n := 24) 89 (by decide +kernel)⟩
set_option maxRecDepth 100000 in
theorem gY_X5_single : gYv yX5_single cX5_single 6 (some .int) 3 := ⟨⟨lw_inT 10 (by decide +kernel) rfl, lw_b9 (List.mem_of_getElem? (i := 136) rfl) rfl, by decide +kernel, by decide +kernel, by decide +kernel⟩, lw_inT 2055 (by decide +kernel) rfl, lw_inS (n := 24) 83 (by decide +kernel)⟩
set_option maxRecDepth 100000 in
theorem gY_X5_tooMany : gYv yX5_tooMany cX5_tooMany 1 (some .boolean) 0 := ⟨⟨lw_inT 10 (by decide +kernel) rfl, lw_b8 (List.mem_of_getElem? (i := 94) rfl) rfl, by decide +kernel, by decide +kernel, by decide +kernel⟩, lw_inT 1773 (by decide +kernel) rfl, lw_inS (n := 24) 40 (by decide +kernel)⟩
set_option maxRecDepth 100000 in
theorem gY_X5_treaties : gYv yX5_treaties cX5_treaties 3 (some .int) 0 := ⟨⟨lw_inT 10 (by decide +kernel) rfl, lw_b9 (List.mem_of_getElem? (i := 179) rfl) rfl, by decide +kernel, by decide +kernel, by decide +kernel⟩, lw_inT 2098 (by decide +kernel) rfl, lw_inS (n := 24) 88 (by decide +kernel)⟩
set_option maxRecDepth 100000 in
theorem gY_X5_treatyOf : gYs yX5_treatyOf cX5_treatyOf 2 (some .int) 2 := ⟨⟨lw_inT 10 (by decide +kernel) rfl, lw_b9 (List.mem_of_getElem? (i := 88) rfl) rfl, by decide +kernel, by decide +kernel, by decide +kernel⟩, lw_inT 2007 (by decide +kernel) rfl⟩
set_option maxRecDepth 100000 in
theorem gY_X5_withdraws : gYv yX5_withdraws cX5_withdraws 3 (some .int) 1 := ⟨⟨lw_inT 10 (by decide +kernel) rfl, lw_b8 (List.mem_of_getElem? (i := 233) rfl) rfl, by decide +kernel, by decide +kernel, by decide +kernel⟩, lw_inT 1912 (by decide +kernel) rfl, lw_inS (n := 24) 60 (by decide +kernel)⟩
set_option maxRecDepth 100000 in
theorem gY_X5_write : gYv yX5_write cX5_write 2 none 1 := ⟨⟨lw_inT 10 (by decide +kernel) rfl, lw_b10 (List.mem_of_getElem? (i := 39) rfl) rfl, by decide +kernel, by decide +kernel, by decide +kernel⟩, lw_inT 2198 (by decide +kernel) rfl, lw_inS (n := 24) 94 (by decide +kernel)⟩
set_option maxRecDepth 100000 in
theorem gY_X5_writeNumber : gYv yX5_writeNumber cX5_writeNumber 3 none 1 := ⟨⟨lw_inT 10 (by decide +kernel) rfl, lw_b10 (List.mem_of_getElem? (i := 35) rfl) rfl, by decide +kernel, by decide +kernel, by decide +kernel⟩, lw_inT 2194 (by decide +kernel) rfl, lw_inS (n := 24) 93 (by decide +kernel)⟩
set_option maxRecDepth 100000 in
theorem gY_J5_init_d00df : gYi yJ5_init_d00df cJ5_init_d00df 2 1 := ⟨⟨lw_inT 6 (by decide +kernel) rfl, lw_b1 (List.mem_of_getElem? (i := 198) rfl) rfl, by decide +kernel, by decide +kernel, by decide +kernel⟩, lw_inT 197 (by decide +kernel) rfl, rfl⟩
set_option maxRecDepth 100000 in
theorem gY_Jx00060_init_d00df : gYi yJx00060_init_d00df cJx00060_init_d00df 2 1 := ⟨⟨lw_inT 23 (by decide +kernel) rfl, lw_b6 (List.mem_of_getElem? (i := 237) rfl) rfl, by decide +kernel, by decide +kernel, by decide +kernel⟩, lw_inT 1436 (by decide +kernel) rfl, rfl⟩
set_option maxRecDepth 100000 in
theorem gY_J11_highSurrogate_5068e : gYs yJ11_highSurrogate_5068e cJ11_highSurrogate_5068e 1 (some .char) 1 := ⟨⟨lw_inT 14 (by decide +kernel) rfl, lw_b2 (List.mem_of_getElem? (i := 234) rfl) rfl, by decide +kernel, by decide +kernel, by decide +kernel⟩, lw_inT 473 (by decide +kernel) rfl⟩
set_option maxRecDepth 100000 in
theorem gY_J11_isValidCodePoint_9a6ad : gYs yJ11_isValidCodePoint_9a6ad cJ11_isValidCodePoint_9a6ad 2 (some .boolean) 1 := ⟨⟨lw_inT 14 (by decide +kernel) rfl, lw_b2 (List.mem_of_getElem? (i := 231) rfl) rfl, by decide +kernel, by decide +kernel, by decide +kernel⟩, lw_inT 470 (by decide +kernel) rfl⟩
set_option maxRecDepth 100000 in
theorem gY_J11_lowSurrogate_5068e : gYs yJ11_lowSurrogate_5068e cJ11_lowSurrogate_5068e 1 (some .char) 1 := ⟨⟨lw_inT 14 (by decide +kernel) rfl, lw_b2 (List.mem_of_getElem? (i := 238) rfl) rfl, by decide +kernel, by decide +kernel, by decide +kernel⟩, lw_inT 477 (by decide +kernel) rfl⟩
set_option maxRecDepth 100000 in
theorem gY_J6_bitCount_0f7a4 : gYs yJ6_bitCount_0f7a4 cJ6_bitCount_0f7a4 1 (some .int) 1 := ⟨⟨lw_inT 25 (by decide +kernel) rfl, lw_b2 (List.mem_of_getElem? (i := 67) rfl) rfl, by decide +kernel, by decide +kernel, by decide +kernel⟩, lw_inT 306 (by decide +kernel) rfl⟩
set_option maxRecDepth 100000 in
theorem gY_J6_getChars_ba4f3 : gYs yJ6_getChars_ba4f3 cJ6_getChars_ba4f3 7 (some .int) 3 := ⟨⟨lw_inT 25 (by decide +kernel) rfl, lw_b6 (List.mem_of_getElem? (i := 141) rfl) rfl, by decide +kernel, by decide +kernel, by decide +kernel⟩, lw_inT 1340 (by decide +kernel) rfl⟩
set_option maxRecDepth 100000 in
theorem gY_J6_stringSize_0f7a4 : gYs yJ6_stringSize_0f7a4 cJ6_stringSize_0f7a4 4 (some .int) 1 := ⟨⟨lw_inT 25 (by decide +kernel) rfl, lw_b6 (List.mem_of_getElem? (i := 138) rfl) rfl, by decide +kernel, by decide +kernel, by decide +kernel⟩, lw_inT 1337 (by decide +kernel) rfl⟩
set_option maxRecDepth 100000 in
theorem gY_J9_max_7cf53 : gYs yJ9_max_7cf53 cJ9_max_7cf53 2 (some .int) 2 := ⟨⟨lw_inT 12 (by decide +kernel) rfl, lw_b2 (List.mem_of_getElem? (i := 77) rfl) rfl, by decide +kernel, by decide +kernel, by decide +kernel⟩, lw_inT 316 (by decide +kernel) rfl⟩
set_option maxRecDepth 100000 in
theorem gY_J9_min_7cf53 : gYs yJ9_min_7cf53 cJ9_min_7cf53 2 (some .int) 2 := ⟨⟨lw_inT 12 (by decide +kernel) rfl, lw_b2 (List.mem_of_getElem? (i := 140) rfl) rfl, by decide +kernel, by decide +kernel, by decide +kernel⟩, lw_inT 379 (by decide +kernel) rfl⟩
set_option maxRecDepth 100000 in
theorem gY_J0_init_db425 : gYi yJ0_init_db425 cJ0_init_db425 5 2 := ⟨⟨lw_inT 8 (by decide +kernel) rfl, lw_b6 (List.mem_of_getElem? (i := 164) rfl) rfl, by decide +kernel, by decide +kernel, by decide +kernel⟩, lw_inT 1363 (by decide +kernel) rfl, rfl⟩
set_option maxRecDepth 100000 in
theorem gY_J0_init_81219 : gYi yJ0_init_81219 cJ0_init_81219 2 1 := ⟨⟨lw_inT 8 (by decide +kernel) rfl, lw_b6 (List.mem_of_getElem? (i := 161) rfl) rfl, by decide +kernel, by decide +kernel, by decide +kernel⟩, lw_inT 1360 (by decide +kernel) rfl, rfl⟩
set_option maxRecDepth 100000 in
theorem gY_J0_charAt_5068e : gYv yJ0_charAt_5068e cJ0_charAt_5068e 2 (some .char) 1 := ⟨⟨lw_inT 8 (by decide +kernel) rfl, lw_b2 (List.mem_of_getElem? (i := 99) rfl) rfl, by decide +kernel, by decide +kernel, by decide +kernel⟩, lw_inT 337 (by decide +kernel) rfl, lw_inT 338 (by decide +kernel) rfl⟩
set_option maxRecDepth 100000 in
theorem gY_J0_checkBoundsBeginEnd_23922 : gYs yJ0_checkBoundsBeginEnd_23922 cJ0_checkBoundsBeginEnd_23922 3 none 3 := ⟨⟨lw_inT 8 (by decide +kernel) rfl, lw_b2 (List.mem_of_getElem? (i := 219) rfl) rfl, by decide +kernel, by decide +kernel, by decide +kernel⟩, lw_inT 458 (by decide +kernel) rfl⟩
set_option maxRecDepth 100000 in
theorem gY_J0_checkBoundsOffCount_cabcc : gYs yJ0_checkBoundsOffCount_cabcc cJ0_checkBoundsOffCount_cabcc 3 (some .int) 3 := ⟨⟨lw_inT 8 (by decide +kernel) rfl, lw_b6 (List.mem_of_getElem? (i := 119) rfl) rfl, by decide +kernel, by decide +kernel, by decide +kernel⟩, lw_inT 1318 (by decide +kernel) rfl⟩
set_option maxRecDepth 100000 in
theorem gY_J0_checkIndex_df160 : gYs yJ0_checkIndex_df160 cJ0_checkIndex_df160 2 none 2 := ⟨⟨lw_inT 8 (by decide +kernel) rfl, lw_b2 (List.mem_of_getElem? (i := 109) rfl) rfl, by decide +kernel, by decide +kernel, by decide +kernel⟩, lw_inT 348 (by decide +kernel) rfl⟩
set_option maxRecDepth 100000 in
theorem gY_J0_coder_7d493 : gYv yJ0_coder_7d493 cJ0_coder_7d493 1 (some .byte) 0 := ⟨⟨lw_inT 8 (by decide +kernel) rfl, lw_b2 (List.mem_of_getElem? (i := 94) rfl) rfl, by decide +kernel, by decide +kernel, by decide +kernel⟩, lw_inT 332 (by decide +kernel) rfl, lw_inT 333 (by decide +kernel) rfl⟩
set_option maxRecDepth 100000 in
theorem gY_J0_getBytes_840e7 : gYv yJ0_getBytes_840e7 cJ0_getBytes_840e7 4 none 3 := ⟨⟨lw_inT 8 (by decide +kernel) rfl, lw_b6 (List.mem_of_getElem? (i := 126) rfl) rfl, by decide +kernel, by decide +kernel, by decide +kernel⟩, lw_inT 1324 (by decide +kernel) rfl, lw_inT 1325 (by decide +kernel) rfl⟩
set_option maxRecDepth 100000 in
theorem gY_J0_indexOf_0f7a4 : gYv yJ0_indexOf_0f7a4 cJ0_indexOf_0f7a4 2 (some .int) 1 := ⟨⟨lw_inT 8 (by decide +kernel) rfl, lw_b2 (List.mem_of_getElem? (i := 188) rfl) rfl, by decide +kernel, by decide +kernel, by decide +kernel⟩, lw_inT 426 (by decide +kernel) rfl, lw_inT 427 (by decide +kernel) rfl⟩
set_option maxRecDepth 100000 in
theorem gY_J0_indexOf_7cf53 : gYv yJ0_indexOf_7cf53 cJ0_indexOf_7cf53 3 (some .int) 2 := ⟨⟨lw_inT 8 (by decide +kernel) rfl, lw_b2 (List.mem_of_getElem? (i := 192) rfl) rfl, by decide +kernel, by decide +kernel, by decide +kernel⟩, lw_inT 430 (by decide +kernel) rfl, lw_inT 431 (by decide +kernel) rfl⟩
set_option maxRecDepth 100000 in
theorem gY_J0_isEmpty_aae02 : gYv yJ0_isEmpty_aae02 cJ0_isEmpty_aae02 1 (some .boolean) 0 := ⟨⟨lw_inT 8 (by decide +kernel) rfl, lw_b7 (List.mem_of_getElem? (i := 120) rfl) rfl, by decide +kernel, by decide +kernel, by decide +kernel⟩, lw_inT 1558 (by decide +kernel) rfl, lw_inT 1559 (by decide +kernel) rfl⟩
set_option maxRecDepth 100000 in
theorem gY_J0_isLatin1_aae02 : gYv yJ0_isLatin1_aae02 cJ0_isLatin1_aae02 1 (some .boolean) 0 := ⟨⟨lw_inT 8 (by decide +kernel) rfl, lw_b2 (List.mem_of_getElem? (i := 103) rfl) rfl, by decide +kernel, by decide +kernel, by decide +kernel⟩, lw_inT 341 (by decide +kernel) rfl, lw_inT 342 (by decide +kernel) rfl⟩
set_option maxRecDepth 100000 in
theorem gY_J0_length_8abf5 : gYv yJ0_length_8abf5 cJ0_length_8abf5 1 (some .int) 0 := ⟨⟨lw_inT 8 (by decide +kernel) rfl, lw_b2 (List.mem_of_getElem? (i := 90) rfl) rfl, by decide +kernel, by decide +kernel, by decide +kernel⟩, lw_inT 328 (by decide +kernel) rfl, lw_inT 329 (by decide +kernel) rfl⟩
set_option maxRecDepth 100000 in
theorem gY_J4_init_da8c8 : gYi yJ4_init_da8c8 cJ4_init_da8c8 1 0 := ⟨⟨lw_inT 7 (by decide +kernel) rfl, lw_b1 (List.mem_of_getElem? (i := 195) rfl) rfl, by decide +kernel, by decide +kernel, by decide +kernel⟩, lw_inT 194 (by decide +kernel) rfl, rfl⟩
set_option maxRecDepth 100000 in
theorem gY_J4_append_cf468 : gYv yJ4_append_cf468 cJ4_append_cf468 2 (some (.object "java/lang/StringBuilder")) 1 := ⟨⟨lw_inT 7 (by decide +kernel) rfl, lw_b7 (List.mem_of_getElem? (i := 12) rfl) rfl, by decide +kernel, by decide +kernel, by decide +kernel⟩, lw_inT 1450 (by decide +kernel) rfl, lw_inT 1451 (by decide +kernel) rfl⟩
set_option maxRecDepth 100000 in
theorem gY_J4_append_bf812 : gYv yJ4_append_bf812 cJ4_append_bf812 2 (some (.object "java/lang/StringBuilder")) 1 := ⟨⟨lw_inT 7 (by decide +kernel) rfl, lw_b6 (List.mem_of_getElem? (i := 132) rfl) rfl, by decide +kernel, by decide +kernel, by decide +kernel⟩, lw_inT 1330 (by decide +kernel) rfl, lw_inT 1331 (by decide +kernel) rfl⟩
set_option maxRecDepth 100000 in
theorem gY_J4_append_15ec4 : gYv yJ4_append_15ec4 cJ4_append_15ec4 2 (some (.object "java/lang/StringBuilder")) 1 := ⟨⟨lw_inT 7 (by decide +kernel) rfl, lw_b6 (List.mem_of_getElem? (i := 46) rfl) rfl, by decide +kernel, by decide +kernel, by decide +kernel⟩, lw_inT 1244 (by decide +kernel) rfl, lw_inT 1245 (by decide +kernel) rfl⟩
set_option maxRecDepth 100000 in
theorem gY_J4_charAt_5068e : gYv yJ4_charAt_5068e cJ4_charAt_5068e 2 (some .char) 1 := ⟨⟨lw_inT 7 (by decide +kernel) rfl, lw_b7 (List.mem_of_getElem? (i := 41) rfl) rfl, by decide +kernel, by decide +kernel, by decide +kernel⟩, lw_inT 1479 (by decide +kernel) rfl, lw_inT 1480 (by decide +kernel) rfl⟩
set_option maxRecDepth 100000 in
theorem gY_J4_length_8abf5 : gYv yJ4_length_8abf5 cJ4_length_8abf5 1 (some .int) 0 := ⟨⟨lw_inT 7 (by decide +kernel) rfl, lw_b6 (List.mem_of_getElem? (i := 176) rfl) rfl, by decide +kernel, by decide +kernel, by decide +kernel⟩, lw_inT 1375 (by decide +kernel) rfl, lw_inT 2301 (by decide +kernel) rfl⟩
set_option maxRecDepth 100000 in
theorem gY_J4_setLength_d00df : gYv yJ4_setLength_d00df cJ4_setLength_d00df 2 none 1 := ⟨⟨lw_inT 7 (by decide +kernel) rfl, lw_b6 (List.mem_of_getElem? (i := 31) rfl) rfl, by decide +kernel, by decide +kernel, by decide +kernel⟩, lw_inT 1229 (by decide +kernel) rfl, lw_inT 1230 (by decide +kernel) rfl⟩
set_option maxRecDepth 100000 in
theorem gY_J4_toString_0e30d : gYv yJ4_toString_0e30d cJ4_toString_0e30d 1 (some (.object "java/lang/String")) 0 := ⟨⟨lw_inT 7 (by decide +kernel) rfl, lw_b6 (List.mem_of_getElem? (i := 157) rfl) rfl, by decide +kernel, by decide +kernel, by decide +kernel⟩, lw_inT 1355 (by decide +kernel) rfl, lw_inT 1356 (by decide +kernel) rfl⟩
set_option maxRecDepth 100000 in
theorem gY_Jx7c733_init_d00df : gYi yJx7c733_init_d00df cJx7c733_init_d00df 2 1 := ⟨⟨lw_inT 27 (by decide +kernel) rfl, lw_b6 (List.mem_of_getElem? (i := 39) rfl) rfl, by decide +kernel, by decide +kernel, by decide +kernel⟩, lw_inT 1238 (by decide +kernel) rfl, rfl⟩
set_option maxRecDepth 100000 in
theorem gY_J1_canEncode_fc78d : gYs yJ1_canEncode_fc78d cJ1_canEncode_fc78d 1 (some .boolean) 1 := ⟨⟨lw_inT 11 (by decide +kernel) rfl, lw_b7 (List.mem_of_getElem? (i := 18) rfl) rfl, by decide +kernel, by decide +kernel, by decide +kernel⟩, lw_inT 1457 (by decide +kernel) rfl⟩
set_option maxRecDepth 100000 in
theorem gY_J1_canEncode_9a6ad : gYs yJ1_canEncode_9a6ad cJ1_canEncode_9a6ad 1 (some .boolean) 1 := ⟨⟨lw_inT 11 (by decide +kernel) rfl, lw_b2 (List.mem_of_getElem? (i := 199) rfl) rfl, by decide +kernel, by decide +kernel, by decide +kernel⟩, lw_inT 438 (by decide +kernel) rfl⟩
set_option maxRecDepth 100000 in
theorem gY_J1_charAt_3b067 : gYs yJ1_charAt_3b067 cJ1_charAt_3b067 2 (some .char) 2 := ⟨⟨lw_inT 11 (by decide +kernel) rfl, lw_b2 (List.mem_of_getElem? (i := 106) rfl) rfl, by decide +kernel, by decide +kernel, by decide +kernel⟩, lw_inT 345 (by decide +kernel) rfl⟩
set_option maxRecDepth 100000 in
theorem gY_J1_fillNull_b72d1 : gYs yJ1_fillNull_b72d1 cJ1_fillNull_b72d1 3 none 3 := ⟨⟨lw_inT 11 (by decide +kernel) rfl, lw_b6 (List.mem_of_getElem? (i := 224) rfl) rfl, by decide +kernel, by decide +kernel, by decide +kernel⟩, lw_inT 1423 (by decide +kernel) rfl⟩
set_option maxRecDepth 100000 in
theorem gY_J1_indexOf_4cfef : gYs yJ1_indexOf_4cfef cJ1_indexOf_4cfef 4 (some .int) 4 := ⟨⟨lw_inT 11 (by decide +kernel) rfl, lw_b2 (List.mem_of_getElem? (i := 196) rfl) rfl, by decide +kernel, by decide +kernel, by decide +kernel⟩, lw_inT 435 (by decide +kernel) rfl⟩
set_option maxRecDepth 100000 in
theorem gY_J1_indexOfChar_4cfef : gYs yJ1_indexOfChar_4cfef cJ1_indexOfChar_4cfef 6 (some .int) 4 := ⟨⟨lw_inT 11 (by decide +kernel) rfl, lw_b2 (List.mem_of_getElem? (i := 204) rfl) rfl, by decide +kernel, by decide +kernel, by decide +kernel⟩, lw_inT 443 (by decide +kernel) rfl⟩
set_option maxRecDepth 100000 in
theorem gY_J1_inflate_0e8fd : gYs yJ1_inflate_0e8fd cJ1_inflate_0e8fd 5 none 5 := ⟨⟨lw_inT 11 (by decide +kernel) rfl, lw_b6 (List.mem_of_getElem? (i := 110) rfl) rfl, by decide +kernel, by decide +kernel, by decide +kernel⟩, lw_inT 1309 (by decide +kernel) rfl⟩
set_option maxRecDepth 100000 in
theorem gY_J2_charAt_3b067 : gYs yJ2_charAt_3b067 cJ2_charAt_3b067 2 (some .char) 2 := ⟨⟨lw_inT 9 (by decide +kernel) rfl, lw_b2 (List.mem_of_getElem? (i := 117) rfl) rfl, by decide +kernel, by decide +kernel, by decide +kernel⟩, lw_inT 356 (by decide +kernel) rfl⟩
set_option maxRecDepth 100000 in
theorem gY_J2_checkBoundsBeginEnd_d044e : gYs yJ2_checkBoundsBeginEnd_d044e cJ2_checkBoundsBeginEnd_d044e 3 none 3 := ⟨⟨lw_inT 9 (by decide +kernel) rfl, lw_b2 (List.mem_of_getElem? (i := 216) rfl) rfl, by decide +kernel, by decide +kernel, by decide +kernel⟩, lw_inT 455 (by decide +kernel) rfl⟩
set_option maxRecDepth 100000 in
theorem gY_J2_checkBoundsOffCount_d044e : gYs yJ2_checkBoundsOffCount_d044e cJ2_checkBoundsOffCount_d044e 3 none 3 := ⟨⟨lw_inT 9 (by decide +kernel) rfl, lw_b6 (List.mem_of_getElem? (i := 116) rfl) rfl, by decide +kernel, by decide +kernel, by decide +kernel⟩, lw_inT 1315 (by decide +kernel) rfl⟩
set_option maxRecDepth 100000 in
theorem gY_J2_checkIndex_2214a : gYs yJ2_checkIndex_2214a cJ2_checkIndex_2214a 2 none 2 := ⟨⟨lw_inT 9 (by decide +kernel) rfl, lw_b2 (List.mem_of_getElem? (i := 120) rfl) rfl, by decide +kernel, by decide +kernel, by decide +kernel⟩, lw_inT 359 (by decide +kernel) rfl⟩
set_option maxRecDepth 100000 in
theorem gY_J2_coderFromArrayLen_85cad : gYs yJ2_coderFromArrayLen_85cad cJ2_coderFromArrayLen_85cad 2 (some .byte) 2 := ⟨⟨lw_inT 9 (by decide +kernel) rfl, lw_b6 (List.mem_of_getElem? (i := 206) rfl) rfl, by decide +kernel, by decide +kernel, by decide +kernel⟩, lw_inT 1405 (by decide +kernel) rfl⟩
set_option maxRecDepth 100000 in
theorem gY_J2_compress_39247 : gYs yJ2_compress_39247 cJ2_compress_39247 6 (some (.array .byte)) 3 := ⟨⟨lw_inT 9 (by decide +kernel) rfl, lw_b6 (List.mem_of_getElem? (i := 199) rfl) rfl, by decide +kernel, by decide +kernel, by decide +kernel⟩, lw_inT 1398 (by decide +kernel) rfl⟩
set_option maxRecDepth 100000 in
theorem gY_J2_compress_5af95 : gYs yJ2_compress_5af95 cJ2_compress_5af95 7 (some .int) 5 := ⟨⟨lw_inT 9 (by decide +kernel) rfl, lw_b6 (List.mem_of_getElem? (i := 202) rfl) rfl, by decide +kernel, by decide +kernel, by decide +kernel⟩, lw_inT 1401 (by decide +kernel) rfl⟩
set_option maxRecDepth 100000 in
theorem gY_J2_fillNull_b72d1 : gYs yJ2_fillNull_b72d1 cJ2_fillNull_b72d1 3 none 3 := ⟨⟨lw_inT 9 (by decide +kernel) rfl, lw_b7 (List.mem_of_getElem? (i := 6) rfl) rfl, by decide +kernel, by decide +kernel, by decide +kernel⟩, lw_inT 1445 (by decide +kernel) rfl⟩
set_option maxRecDepth 100000 in
theorem gY_J2_getChar_3b067 : gYs yJ2_getChar_3b067 cJ2_getChar_3b067 2 (some .char) 2 := ⟨⟨lw_inT 9 (by decide +kernel) rfl, lw_b2 (List.mem_of_getElem? (i := 127) rfl) rfl, by decide +kernel, by decide +kernel, by decide +kernel⟩, lw_inT 366 (by decide +kernel) rfl⟩
set_option maxRecDepth 100000 in
theorem gY_J2_getChars_46870 : gYs yJ2_getChars_46870 cJ2_getChars_46870 5 (some .int) 4 := ⟨⟨lw_inT 9 (by decide +kernel) rfl, lw_b6 (List.mem_of_getElem? (i := 148) rfl) rfl, by decide +kernel, by decide +kernel, by decide +kernel⟩, lw_inT 1347 (by decide +kernel) rfl⟩
set_option maxRecDepth 100000 in
theorem gY_J2_getChars_ba4f3 : gYs yJ2_getChars_ba4f3 cJ2_getChars_ba4f3 7 (some .int) 3 := ⟨⟨lw_inT 9 (by decide +kernel) rfl, lw_b6 (List.mem_of_getElem? (i := 151) rfl) rfl, by decide +kernel, by decide +kernel, by decide +kernel⟩, lw_inT 1350 (by decide +kernel) rfl⟩
set_option maxRecDepth 100000 in
theorem gY_J2_indexOf_4cfef : gYs yJ2_indexOf_4cfef cJ2_indexOf_4cfef 4 (some .int) 4 := ⟨⟨lw_inT 9 (by decide +kernel) rfl, lw_b2 (List.mem_of_getElem? (i := 207) rfl) rfl, by decide +kernel, by decide +kernel, by decide +kernel⟩, lw_inT 446 (by decide +kernel) rfl⟩
set_option maxRecDepth 100000 in
theorem gY_J2_indexOfChar_4cfef : gYs yJ2_indexOfChar_4cfef cJ2_indexOfChar_4cfef 4 (some .int) 4 := ⟨⟨lw_inT 9 (by decide +kernel) rfl, lw_b2 (List.mem_of_getElem? (i := 213) rfl) rfl, by decide +kernel, by decide +kernel, by decide +kernel⟩, lw_inT 452 (by decide +kernel) rfl⟩
set_option maxRecDepth 100000 in
theorem gY_J2_indexOfCharUnsafe_4cfef : gYs yJ2_indexOfCharUnsafe_4cfef cJ2_indexOfCharUnsafe_4cfef 5 (some .int) 4 := ⟨⟨lw_inT 9 (by decide +kernel) rfl, lw_b2 (List.mem_of_getElem? (i := 225) rfl) rfl, by decide +kernel, by decide +kernel, by decide +kernel⟩, lw_inT 464 (by decide +kernel) rfl⟩
set_option maxRecDepth 100000 in
theorem gY_J2_indexOfSupplementary_4cfef : gYs yJ2_indexOfSupplementary_4cfef cJ2_indexOfSupplementary_4cfef 7 (some .int) 4 := ⟨⟨lw_inT 9 (by decide +kernel) rfl, lw_b2 (List.mem_of_getElem? (i := 228) rfl) rfl, by decide +kernel, by decide +kernel, by decide +kernel⟩, lw_inT 467 (by decide +kernel) rfl⟩
set_option maxRecDepth 100000 in
theorem gY_J2_inflate_0e8fd : gYs yJ2_inflate_0e8fd cJ2_inflate_0e8fd 6 none 5 := ⟨⟨lw_inT 9 (by decide +kernel) rfl, lw_b6 (List.mem_of_getElem? (i := 113) rfl) rfl, by decide +kernel, by decide +kernel, by decide +kernel⟩, lw_inT 1312 (by decide +kernel) rfl⟩
set_option maxRecDepth 100000 in
theorem gY_J2_length_9d52b : gYs yJ2_length_9d52b cJ2_length_9d52b 1 (some .int) 1 := ⟨⟨lw_inT 9 (by decide +kernel) rfl, lw_b2 (List.mem_of_getElem? (i := 123) rfl) rfl, by decide +kernel, by decide +kernel, by decide +kernel⟩, lw_inT 362 (by decide +kernel) rfl⟩
set_option maxRecDepth 100000 in
theorem gY_J2_newBytesFor_77867 : gYs yJ2_newBytesFor_77867 cJ2_newBytesFor_77867 1 (some (.array .byte)) 1 := ⟨⟨lw_inT 9 (by decide +kernel) rfl, lw_b1 (List.mem_of_getElem? (i := 204) rfl) rfl, by decide +kernel, by decide +kernel, by decide +kernel⟩, lw_inT 203 (by decide +kernel) rfl⟩
set_option maxRecDepth 100000 in
theorem gY_J2_newBytesLength_0f7a4 : gYs yJ2_newBytesLength_0f7a4 cJ2_newBytesLength_0f7a4 1 (some .int) 1 := ⟨⟨lw_inT 9 (by decide +kernel) rfl, lw_b1 (List.mem_of_getElem? (i := 207) rfl) rfl, by decide +kernel, by decide +kernel, by decide +kernel⟩, lw_inT 206 (by decide +kernel) rfl⟩
set_option maxRecDepth 100000 in
theorem gY_J2_putChar_b72d1 : gYs yJ2_putChar_b72d1 cJ2_putChar_b72d1 3 none 3 := ⟨⟨lw_inT 9 (by decide +kernel) rfl, lw_b6 (List.mem_of_getElem? (i := 93) rfl) rfl, by decide +kernel, by decide +kernel, by decide +kernel⟩, lw_inT 1292 (by decide +kernel) rfl⟩
set_option maxRecDepth 100000 in
theorem gY_J2_putCharSB_b72d1 : gYs yJ2_putCharSB_b72d1 cJ2_putCharSB_b72d1 3 none 3 := ⟨⟨lw_inT 9 (by decide +kernel) rfl, lw_b7 (List.mem_of_getElem? (i := 21) rfl) rfl, by decide +kernel, by decide +kernel, by decide +kernel⟩, lw_inT 1460 (by decide +kernel) rfl⟩
set_option maxRecDepth 100000 in
theorem gY_J2_putCharsAt_cd4e5 : gYs yJ2_putCharsAt_cd4e5 cJ2_putCharsAt_cd4e5 7 (some .int) 6 := ⟨⟨lw_inT 9 (by decide +kernel) rfl, lw_b6 (List.mem_of_getElem? (i := 90) rfl) rfl, by decide +kernel, by decide +kernel, by decide +kernel⟩, lw_inT 1289 (by decide +kernel) rfl⟩
set_option maxRecDepth 100000 in
theorem gY_J7_checkLength_df160 : gYs yJ7_checkLength_df160 cJ7_checkLength_df160 2 none 2 := ⟨⟨lw_inT 29 (by decide +kernel) rfl, lw_b6 (List.mem_of_getElem? (i := 188) rfl) rfl, by decide +kernel, by decide +kernel, by decide +kernel⟩, lw_inT 1387 (by decide +kernel) rfl⟩
set_option maxRecDepth 100000 in
theorem gY_J7_copyOf_9075b : gYs yJ7_copyOf_9075b cJ7_copyOf_9075b 3 (some (.array .byte)) 2 := ⟨⟨lw_inT 29 (by decide +kernel) rfl, lw_b6 (List.mem_of_getElem? (i := 73) rfl) rfl, by decide +kernel, by decide +kernel, by decide +kernel⟩, lw_inT 1272 (by decide +kernel) rfl⟩
set_option maxRecDepth 100000 in
theorem gY_J7_copyOfRange_39247 : gYs yJ7_copyOfRange_39247 cJ7_copyOfRange_39247 3 (some (.array .byte)) 3 := ⟨⟨lw_inT 29 (by decide +kernel) rfl, lw_b6 (List.mem_of_getElem? (i := 182) rfl) rfl, by decide +kernel, by decide +kernel, by decide +kernel⟩, lw_inT 1381 (by decide +kernel) rfl⟩
set_option maxRecDepth 100000 in
theorem gY_J7_copyOfRangeByte_39247 : gYs yJ7_copyOfRangeByte_39247 cJ7_copyOfRangeByte_39247 5 (some (.array .byte)) 3 := ⟨⟨lw_inT 29 (by decide +kernel) rfl, lw_b6 (List.mem_of_getElem? (i := 185) rfl) rfl, by decide +kernel, by decide +kernel, by decide +kernel⟩, lw_inT 1384 (by decide +kernel) rfl⟩
set_option maxRecDepth 100000 in
theorem gY_J7_fill_eb02e : gYs yJ7_fill_eb02e cJ7_fill_eb02e 5 none 4 := ⟨⟨lw_inT 29 (by decide +kernel) rfl, lw_b6 (List.mem_of_getElem? (i := 227) rfl) rfl, by decide +kernel, by decide +kernel, by decide +kernel⟩, lw_inT 1426 (by decide +kernel) rfl⟩
set_option maxRecDepth 100000 in
theorem gY_J7_rangeCheck_23922 : gYs yJ7_rangeCheck_23922 cJ7_rangeCheck_23922 3 none 3 := ⟨⟨lw_inT 29 (by decide +kernel) rfl, lw_b6 (List.mem_of_getElem? (i := 230) rfl) rfl, by decide +kernel, by decide +kernel, by decide +kernel⟩, lw_inT 1429 (by decide +kernel) rfl⟩
set_option maxRecDepth 100000 in
theorem gY_J8_hugeLength_7cf53 : gYs yJ8_hugeLength_7cf53 cJ8_hugeLength_7cf53 3 (some .int) 2 := ⟨⟨lw_inT 28 (by decide +kernel) rfl, lw_b6 (List.mem_of_getElem? (i := 69) rfl) rfl, by decide +kernel, by decide +kernel, by decide +kernel⟩, lw_inT 1268 (by decide +kernel) rfl⟩
set_option maxRecDepth 100000 in
theorem gY_J8_newLength_cabcc : gYs yJ8_newLength_cabcc cJ8_newLength_cabcc 4 (some .int) 3 := ⟨⟨lw_inT 28 (by decide +kernel) rfl, lw_b6 (List.mem_of_getElem? (i := 64) rfl) rfl, by decide +kernel, by decide +kernel, by decide +kernel⟩, lw_inT 1263 (by decide +kernel) rfl⟩
set_option maxRecDepth 100000 in
theorem gY_J3_checkFromIndexSize_8c36e : gYs yJ3_checkFromIndexSize_8c36e cJ3_checkFromIndexSize_8c36e 4 (some .int) 4 := ⟨⟨lw_inT 13 (by decide +kernel) rfl, lw_b6 (List.mem_of_getElem? (i := 122) rfl) rfl, by decide +kernel, by decide +kernel, by decide +kernel⟩, lw_inT 1321 (by decide +kernel) rfl⟩
set_option maxRecDepth 100000 in
theorem gY_J3_checkFromToIndex_8c36e : gYs yJ3_checkFromToIndex_8c36e cJ3_checkFromToIndex_8c36e 4 (some .int) 4 := ⟨⟨lw_inT 13 (by decide +kernel) rfl, lw_b2 (List.mem_of_getElem? (i := 222) rfl) rfl, by decide +kernel, by decide +kernel, by decide +kernel⟩, lw_inT 461 (by decide +kernel) rfl⟩
set_option maxRecDepth 100000 in
theorem gY_J3_checkIndex_8e157 : gYs yJ3_checkIndex_8e157 cJ3_checkIndex_8e157 3 (some .int) 3 := ⟨⟨lw_inT 13 (by decide +kernel) rfl, lw_b2 (List.mem_of_getElem? (i := 114) rfl) rfl, by decide +kernel, by decide +kernel, by decide +kernel⟩, lw_inT 353 (by decide +kernel) rfl⟩
theorem ml_X4_23 : Cond.methodLink RX4 23 yX3_init ∈ lw_all := lw_inT 132 (by decide +kernel) rfl
theorem ml_X4_29 : Cond.methodLink RX4 29 yX2_init ∈ lw_all := lw_inT 135 (by decide +kernel) rfl
theorem ml_X4_43 : Cond.methodLink RX4 43 yJ4_init_da8c8 ∈ lw_all := lw_inT 193 (by decide +kernel) rfl
theorem ml_X4_61 : Cond.methodLink RX4 61 yX0_adding ∈ lw_all := lw_inT 420 (by decide +kernel) rfl
theorem ml_X4_65 : Cond.methodLink RX4 65 yX4_require ∈ lw_all := lw_inT 484 (by decide +kernel) rfl
theorem ml_X4_69 : Cond.methodLink RX4 69 yX2_keep ∈ lw_all := lw_inT 624 (by decide +kernel) rfl
theorem ml_X4_73 : Cond.methodLink RX4 73 yX3_add ∈ lw_all := lw_inT 629 (by decide +kernel) rfl
theorem ml_X4_79 : Cond.methodLink RX4 79 yX4_requireSock ∈ lw_all := lw_inT 661 (by decide +kernel) rfl
theorem ml_X4_82 : Cond.methodLink RX4 82 yX3_colourAt ∈ lw_all := lw_inT 666 (by decide +kernel) rfl
theorem ml_X4_93 : Cond.methodLink RX4 93 yX4_requireElement ∈ lw_all := lw_inT 584 (by decide +kernel) rfl
theorem ml_X4_100 : Cond.methodLink RX4 100 yX3_hasApplication ∈ lw_all := lw_inT 720 (by decide +kernel) rfl
theorem ml_X4_113 : Cond.methodLink RX4 113 yX3_match ∈ lw_all := lw_inT 745 (by decide +kernel) rfl
theorem ml_X4_117 : Cond.methodLink RX4 117 yX0_applying ∈ lw_all := lw_inT 753 (by decide +kernel) rfl
theorem ml_X4_121 : Cond.methodLink RX4 121 yX3_file ∈ lw_all := lw_inT 761 (by decide +kernel) rfl
theorem ml_X4_124 : Cond.methodLink RX4 124 yX0_withdrawing ∈ lw_all := lw_inT 776 (by decide +kernel) rfl
theorem ml_X4_128 : Cond.methodLink RX4 128 yX3_dropApplication ∈ lw_all := lw_inT 781 (by decide +kernel) rfl
theorem ml_X4_131 : Cond.methodLink RX4 131 yX0_appealing ∈ lw_all := lw_inT 792 (by decide +kernel) rfl
theorem ml_X4_134 : Cond.methodLink RX4 134 yX3_raise ∈ lw_all := lw_inT 796 (by decide +kernel) rfl
theorem ml_X4_137 : Cond.methodLink RX4 137 yX0_deciding ∈ lw_all := lw_inT 807 (by decide +kernel) rfl
theorem ml_X4_140 : Cond.methodLink RX4 140 yX3_decideAll ∈ lw_all := lw_inT 811 (by decide +kernel) rfl
theorem ml_X4_143 : Cond.methodLink RX4 143 yX4_requireDrawer ∈ lw_all := lw_inT 848 (by decide +kernel) rfl
theorem ml_X4_146 : Cond.methodLink RX4 146 yX3_admissible ∈ lw_all := lw_inT 853 (by decide +kernel) rfl
theorem ml_X4_149 : Cond.methodLink RX4 149 yX3_queued ∈ lw_all := lw_inT 864 (by decide +kernel) rfl
theorem ml_X4_152 : Cond.methodLink RX4 152 yX3_countOf ∈ lw_all := lw_inT 872 (by decide +kernel) rfl
theorem ml_X4_155 : Cond.methodLink RX4 155 yX0_renewing ∈ lw_all := lw_inT 880 (by decide +kernel) rfl
theorem ml_X4_158 : Cond.methodLink RX4 158 yX3_extend ∈ lw_all := lw_inT 884 (by decide +kernel) rfl
theorem ml_X4_161 : Cond.methodLink RX4 161 yX0_leaving ∈ lw_all := lw_inT 895 (by decide +kernel) rfl
theorem ml_X4_164 : Cond.methodLink RX4 164 yX3_release ∈ lw_all := lw_inT 899 (by decide +kernel) rfl
theorem ml_X4_167 : Cond.methodLink RX4 167 yX0_moving ∈ lw_all := lw_inT 910 (by decide +kernel) rfl
theorem ml_X4_170 : Cond.methodLink RX4 170 yX3_transfer ∈ lw_all := lw_inT 927 (by decide +kernel) rfl
theorem ml_X4_173 : Cond.methodLink RX4 173 yX0_pairing ∈ lw_all := lw_inT 939 (by decide +kernel) rfl
theorem ml_X4_176 : Cond.methodLink RX4 176 yX3_join ∈ lw_all := lw_inT 948 (by decide +kernel) rfl
theorem ml_X4_179 : Cond.methodLink RX4 179 yX0_separating ∈ lw_all := lw_inT 963 (by decide +kernel) rfl
theorem ml_X4_182 : Cond.methodLink RX4 182 yX3_part ∈ lw_all := lw_inT 967 (by decide +kernel) rfl
theorem ml_X4_185 : Cond.methodLink RX4 185 yX3_pairsIn ∈ lw_all := lw_inT 978 (by decide +kernel) rfl
theorem ml_X4_188 : Cond.methodLink RX4 188 yX3_pairsByTrying ∈ lw_all := lw_inT 986 (by decide +kernel) rfl
theorem ml_X4_191 : Cond.methodLink RX4 191 yX3_pairsByCounting ∈ lw_all := lw_inT 994 (by decide +kernel) rfl
theorem ml_X4_194 : Cond.methodLink RX4 194 yX0_settingQuota ∈ lw_all := lw_inT 1002 (by decide +kernel) rfl
theorem ml_X4_197 : Cond.methodLink RX4 197 yX3_changeQuota ∈ lw_all := lw_inT 1006 (by decide +kernel) rfl
theorem ml_X4_200 : Cond.methodLink RX4 200 yX0_banning ∈ lw_all := lw_inT 1017 (by decide +kernel) rfl
theorem ml_X4_204 : Cond.methodLink RX4 204 yX3_forbid ∈ lw_all := lw_inT 1021 (by decide +kernel) rfl
theorem ml_X4_208 : Cond.methodLink RX4 208 yX3_permit ∈ lw_all := lw_inT 1032 (by decide +kernel) rfl
theorem ml_X4_211 : Cond.methodLink RX4 211 yX0_signing ∈ lw_all := lw_inT 1043 (by decide +kernel) rfl
theorem ml_X4_215 : Cond.methodLink RX4 215 yX3_sign ∈ lw_all := lw_inT 1056 (by decide +kernel) rfl
theorem ml_X4_218 : Cond.methodLink RX4 218 yX0_endingTreaty ∈ lw_all := lw_inT 1068 (by decide +kernel) rfl
theorem ml_X4_221 : Cond.methodLink RX4 221 yX3_cancel ∈ lw_all := lw_inT 1072 (by decide +kernel) rfl
theorem ml_X4_224 : Cond.methodLink RX4 224 yX3_hasTreaty ∈ lw_all := lw_inT 1083 (by decide +kernel) rfl
theorem ml_X4_227 : Cond.methodLink RX4 227 yX3_clauseBetween ∈ lw_all := lw_inT 1084 (by decide +kernel) rfl
theorem ml_X4_233 : Cond.methodLink RX4 233 yX3_resident ∈ lw_all := lw_inT 1106 (by decide +kernel) rfl
theorem ml_X4_236 : Cond.methodLink RX4 236 yX3_bans ∈ lw_all := lw_inT 1117 (by decide +kernel) rfl
theorem ml_X4_239 : Cond.methodLink RX4 239 yX0_passing ∈ lw_all := lw_inT 1132 (by decide +kernel) rfl
theorem ml_X4_242 : Cond.methodLink RX4 242 yX3_advance ∈ lw_all := lw_inT 1136 (by decide +kernel) rfl
theorem ml_X4_248 : Cond.methodLink RX4 248 yX3_expiring ∈ lw_all := lw_inT 1155 (by decide +kernel) rfl
theorem ml_X4_260 : Cond.methodLink RX4 260 yX3_rankedDrawer ∈ lw_all := lw_inT 1166 (by decide +kernel) rfl
theorem ml_X4_263 : Cond.methodLink RX4 263 yX4_requireSocks ∈ lw_all := lw_inT 1199 (by decide +kernel) rfl
theorem ml_X4_266 : Cond.methodLink RX4 266 yX3_sizeSum ∈ lw_all := lw_inT 1206 (by decide +kernel) rfl
theorem ml_X4_270 : Cond.methodLink RX4 270 yX3_residentSum ∈ lw_all := lw_inT 1217 (by decide +kernel) rfl
theorem ml_X4_273 : Cond.methodLink RX4 273 yX3_countsAgree ∈ lw_all := lw_inT 283 (by decide +kernel) rfl
theorem ml_X4_277 : Cond.methodLink RX4 277 yX3_pairsAreSound ∈ lw_all := lw_inT 381 (by decide +kernel) rfl
theorem ml_X4_280 : Cond.methodLink RX4 280 yJ4_setLength_d00df ∈ lw_all := lw_inT 1228 (by decide +kernel) rfl
theorem ml_X4_283 : Cond.methodLink RX4 283 yJ4_append_bf812 ∈ lw_all := lw_inT 1448 (by decide +kernel) rfl
theorem ml_X4_287 : Cond.methodLink RX4 287 yJ4_append_cf468 ∈ lw_all := lw_inT 1449 (by decide +kernel) rfl
theorem ml_X4_290 : Cond.methodLink RX4 290 yX4_writeVisa ∈ lw_all := lw_inT 1462 (by decide +kernel) rfl
theorem ml_X4_293 : Cond.methodLink RX4 293 yX4_writeApplication ∈ lw_all := lw_inT 1466 (by decide +kernel) rfl
theorem ml_X4_296 : Cond.methodLink RX4 296 yJ4_length_8abf5 ∈ lw_all := lw_inT 1470 (by decide +kernel) rfl
theorem ml_X4_299 : Cond.methodLink RX4 299 yX4_requireIndex ∈ lw_all := lw_inT 488 (by decide +kernel) rfl
theorem ml_X4_302 : Cond.methodLink RX4 302 yJ4_charAt_5068e ∈ lw_all := lw_inT 1478 (by decide +kernel) rfl
theorem ml_X4_305 : Cond.methodLink RX4 305 yX4_requireArgument ∈ lw_all := lw_inT 564 (by decide +kernel) rfl
theorem ml_X4_310 : Cond.methodLink RX4 310 yX4_requireState ∈ lw_all := lw_inT 1496 (by decide +kernel) rfl
theorem ml_X4_313 : Cond.methodLink RX4 313 yX1_append ∈ lw_all := lw_inT 1516 (by decide +kernel) rfl
theorem ml_X4_316 : Cond.methodLink RX4 316 yX1_read ∈ lw_all := lw_inT 1527 (by decide +kernel) rfl
theorem ml_X4_319 : Cond.methodLink RX4 319 yX3_copyFrom ∈ lw_all := lw_inT 1593 (by decide +kernel) rfl
theorem ml_X4_322 : Cond.methodLink RX4 322 yX4_carryOutCommands ∈ lw_all := lw_inT 1594 (by decide +kernel) rfl
theorem ml_X4_326 : Cond.methodLink RX4 326 yX4_faultOf ∈ lw_all := lw_inT 1598 (by decide +kernel) rfl
theorem ml_X4_329 : Cond.methodLink RX4 329 yX4_reject ∈ lw_all := lw_inT 604 (by decide +kernel) rfl
theorem ml_X4_336 : Cond.methodLink RX4 336 yX2_takeBack ∈ lw_all := lw_inT 1649 (by decide +kernel) rfl
theorem ml_X4_340 : Cond.methodLink RX4 340 yX2_save ∈ lw_all := lw_inT 397 (by decide +kernel) rfl
theorem ml_X4_347 : Cond.methodLink RX4 347 yX2_restore ∈ lw_all := lw_inT 1660 (by decide +kernel) rfl
theorem ml_X4_377 : Cond.methodLink RX4 377 yX3_isSock ∈ lw_all := lw_inT 665 (by decide +kernel) rfl
theorem ml_X4_380 : Cond.methodLink RX4 380 yX3_isDrawer ∈ lw_all := lw_inT 852 (by decide +kernel) rfl
theorem ml_X4_391 : Cond.methodLink RX4 391 yX4_carryOut ∈ lw_all := lw_inT 1610 (by decide +kernel) rfl
theorem ml_X4_394 : Cond.methodLink RX4 394 yX1_value ∈ lw_all := lw_inT 1602 (by decide +kernel) rfl
theorem ml_X4_397 : Cond.methodLink RX4 397 yX1_letter ∈ lw_all := lw_inT 1606 (by decide +kernel) rfl
theorem ml_X0_11 : Cond.methodLink RX0 11 yX3_init ∈ lw_all := lw_inT 47 (by decide +kernel) rfl
theorem ml_X0_24 : Cond.methodLink RX0 24 yJ0_indexOf_0f7a4 ∈ lw_all := lw_inT 425 (by decide +kernel) rfl
theorem ml_X0_33 : Cond.methodLink RX0 33 yX0_because ∈ lw_all := lw_inT 480 (by decide +kernel) rfl
theorem ml_X0_37 : Cond.methodLink RX0 37 yX3_isSock ∈ lw_all := lw_inT 757 (by decide +kernel) rfl
theorem ml_X0_41 : Cond.methodLink RX0 41 yX3_isDrawer ∈ lw_all := lw_inT 758 (by decide +kernel) rfl
theorem ml_X0_51 : Cond.methodLink RX0 51 yX3_hasApplication ∈ lw_all := lw_inT 780 (by decide +kernel) rfl
theorem ml_X0_66 : Cond.methodLink RX0 66 yX0_leaving ∈ lw_all := lw_inT 914 (by decide +kernel) rfl
theorem ml_X0_69 : Cond.methodLink RX0 69 yX0_crossing ∈ lw_all := lw_inT 915 (by decide +kernel) rfl
theorem ml_X0_73 : Cond.methodLink RX0 73 yX3_clauseBetween ∈ lw_all := lw_inT 919 (by decide +kernel) rfl
theorem ml_X0_76 : Cond.methodLink RX0 76 yX3_countOf ∈ lw_all := lw_inT 923 (by decide +kernel) rfl
theorem ml_X0_79 : Cond.methodLink RX0 79 yX3_hasRoom ∈ lw_all := lw_inT 924 (by decide +kernel) rfl
theorem ml_X0_85 : Cond.methodLink RX0 85 yX3_colourAt ∈ lw_all := lw_inT 925 (by decide +kernel) rfl
theorem ml_X0_89 : Cond.methodLink RX0 89 yX3_bans ∈ lw_all := lw_inT 926 (by decide +kernel) rfl
theorem ml_X0_93 : Cond.methodLink RX0 93 yX0_joining ∈ lw_all := lw_inT 943 (by decide +kernel) rfl
theorem ml_X0_96 : Cond.methodLink RX0 96 yX3_match ∈ lw_all := lw_inT 947 (by decide +kernel) rfl
theorem ml_X0_105 : Cond.methodLink RX0 105 yX3_hasTreaty ∈ lw_all := lw_inT 1048 (by decide +kernel) rfl
theorem ml_X0_108 : Cond.methodLink RX0 108 yX3_treaties ∈ lw_all := lw_inT 1052 (by decide +kernel) rfl
theorem ml_X1_29 : Cond.methodLink RX1 29 yX1_readAll ∈ lw_all := lw_inT 1531 (by decide +kernel) rfl
theorem ml_X1_36 : Cond.methodLink RX1 36 yX1_readCommand ∈ lw_all := lw_inT 1535 (by decide +kernel) rfl
theorem ml_X1_40 : Cond.methodLink RX1 40 yX1_here ∈ lw_all := lw_inT 1539 (by decide +kernel) rfl
theorem ml_X1_44 : Cond.methodLink RX1 44 yX1_formOf ∈ lw_all := lw_inT 1543 (by decide +kernel) rfl
theorem ml_X1_48 : Cond.methodLink RX1 48 yJ0_isEmpty_aae02 ∈ lw_all := lw_inT 1557 (by decide +kernel) rfl
theorem ml_X1_56 : Cond.methodLink RX1 56 yJ0_length_8abf5 ∈ lw_all := lw_inT 1561 (by decide +kernel) rfl
theorem ml_X1_58 : Cond.methodLink RX1 58 yJ0_charAt_5068e ∈ lw_all := lw_inT 1562 (by decide +kernel) rfl
theorem ml_X1_62 : Cond.methodLink RX1 62 yX1_readPart ∈ lw_all := lw_inT 1563 (by decide +kernel) rfl
theorem ml_X1_88 : Cond.methodLink RX1 88 yX1_readNumber ∈ lw_all := lw_inT 1567 (by decide +kernel) rfl
theorem ml_X1_91 : Cond.methodLink RX1 91 yX1_readDigit ∈ lw_all := lw_inT 1578 (by decide +kernel) rfl
theorem ml_X1_96 : Cond.methodLink RX1 96 yX1_readOneOf ∈ lw_all := lw_inT 1583 (by decide +kernel) rfl
theorem ml_X1_102 : Cond.methodLink RX1 102 yX1_readSign ∈ lw_all := lw_inT 1589 (by decide +kernel) rfl
theorem ml_X1_105 : Cond.methodLink RX1 105 yX1_isDigit ∈ lw_all := lw_inT 1571 (by decide +kernel) rfl
theorem ml_X1_109 : Cond.methodLink RX1 109 yX1_put ∈ lw_all := lw_inT 1574 (by decide +kernel) rfl
theorem ml_X1_113 : Cond.methodLink RX1 113 yJ0_indexOf_0f7a4 ∈ lw_all := lw_inT 1587 (by decide +kernel) rfl
theorem ml_X2_17 : Cond.methodLink RX2 17 yX3_init ∈ lw_all := lw_inT 141 (by decide +kernel) rfl
theorem ml_X2_26 : Cond.methodLink RX2 26 yX3_copyFrom ∈ lw_all := lw_inT 401 (by decide +kernel) rfl
theorem ml_X2_33 : Cond.methodLink RX2 33 yJ9_min_7cf53 ∈ lw_all := lw_inT 628 (by decide +kernel) rfl
theorem ml_X3_61 : Cond.methodLink RX3 61 yX3_copyRow ∈ lw_all := lw_inT 405 (by decide +kernel) rfl
theorem ml_X3_65 : Cond.methodLink RX3 65 yJ9_min_7cf53 ∈ lw_all := lw_inT 378 (by decide +kernel) rfl
theorem ml_X3_77 : Cond.methodLink RX3 77 yX3_is ∈ lw_all := lw_inT 295 (by decide +kernel) rfl
theorem ml_X3_81 : Cond.methodLink RX3 81 yX3_countOf ∈ lw_all := lw_inT 765 (by decide +kernel) rfl
theorem ml_X3_86 : Cond.methodLink RX3 86 yJ0_indexOf_0f7a4 ∈ lw_all := lw_inT 840 (by decide +kernel) rfl
theorem ml_X3_92 : Cond.methodLink RX3 92 yX3_hasBit ∈ lw_all := lw_inT 302 (by decide +kernel) rfl
theorem ml_X3_96 : Cond.methodLink RX3 96 yX3_queued ∈ lw_all := lw_inT 815 (by decide +kernel) rfl
theorem ml_X3_99 : Cond.methodLink RX3 99 yX3_decideOne ∈ lw_all := lw_inT 827 (by decide +kernel) rfl
theorem ml_X3_103 : Cond.methodLink RX3 103 yX3_hasRoom ∈ lw_all := lw_inT 831 (by decide +kernel) rfl
theorem ml_X3_107 : Cond.methodLink RX3 107 yX3_colourAt ∈ lw_all := lw_inT 835 (by decide +kernel) rfl
theorem ml_X3_111 : Cond.methodLink RX3 111 yX3_bans ∈ lw_all := lw_inT 836 (by decide +kernel) rfl
theorem ml_X3_115 : Cond.methodLink RX3 115 yJ9_max_7cf53 ∈ lw_all := lw_inT 315 (by decide +kernel) rfl
theorem ml_X3_118 : Cond.methodLink RX3 118 yX3_queuedAhead ∈ lw_all := lw_inT 819 (by decide +kernel) rfl
theorem ml_X3_121 : Cond.methodLink RX3 121 yX3_isDecidedAhead ∈ lw_all := lw_inT 823 (by decide +kernel) rfl
theorem ml_X3_124 : Cond.methodLink RX3 124 yX3_clauseBetween ∈ lw_all := lw_inT 931 (by decide +kernel) rfl
theorem ml_X3_127 : Cond.methodLink RX3 127 yX3_pairsIn ∈ lw_all := lw_inT 952 (by decide +kernel) rfl
theorem ml_X3_130 : Cond.methodLink RX3 130 yX3_isSock ∈ lw_all := lw_inT 389 (by decide +kernel) rfl
theorem ml_X3_133 : Cond.methodLink RX3 133 yX3_isSingle ∈ lw_all := lw_inT 291 (by decide +kernel) rfl
theorem ml_X3_136 : Cond.methodLink RX3 136 yX3_mostPairs ∈ lw_all := lw_inT 299 (by decide +kernel) rfl
theorem ml_X3_140 : Cond.methodLink RX3 140 yJ6_bitCount_0f7a4 ∈ lw_all := lw_inT 305 (by decide +kernel) rfl
theorem ml_X3_145 : Cond.methodLink RX3 145 yX3_match ∈ lw_all := lw_inT 311 (by decide +kernel) rfl
theorem ml_X3_148 : Cond.methodLink RX3 148 yX3_pairsOfSize ∈ lw_all := lw_inT 322 (by decide +kernel) rfl
theorem ml_X3_151 : Cond.methodLink RX3 151 yJ0_length_8abf5 ∈ lw_all := lw_inT 327 (by decide +kernel) rfl
theorem ml_X3_155 : Cond.methodLink RX3 155 yJ0_charAt_5068e ∈ lw_all := lw_inT 336 (by decide +kernel) rfl
theorem ml_X3_158 : Cond.methodLink RX3 158 yX3_singles ∈ lw_all := lw_inT 374 (by decide +kernel) rfl
theorem ml_X3_162 : Cond.methodLink RX3 162 yX3_pairsByTrying ∈ lw_all := lw_inT 287 (by decide +kernel) rfl
theorem ml_X3_165 : Cond.methodLink RX3 165 yX3_pairsByCounting ∈ lw_all := lw_inT 318 (by decide +kernel) rfl
theorem ml_X3_168 : Cond.methodLink RX3 168 yX3_isSoundPair ∈ lw_all := lw_inT 385 (by decide +kernel) rfl
theorem ml_X3_171 : Cond.methodLink RX3 171 yX3_treaties ∈ lw_all := lw_inT 1060 (by decide +kernel) rfl
theorem ml_X3_174 : Cond.methodLink RX3 174 yX3_expelAll ∈ lw_all := lw_inT 1140 (by decide +kernel) rfl
theorem ml_X3_177 : Cond.methodLink RX3 177 yX3_expires ∈ lw_all := lw_inT 1144 (by decide +kernel) rfl
theorem ml_X3_180 : Cond.methodLink RX3 180 yX3_rankedAhead ∈ lw_all := lw_inT 1170 (by decide +kernel) rfl
theorem ml_X3_183 : Cond.methodLink RX3 183 yX3_ranksAhead ∈ lw_all := lw_inT 1174 (by decide +kernel) rfl
theorem ml_X5_84 : Cond.methodLink RX5 84 yX5_copy ∈ lw_all := lw_inT 1755 (by decide +kernel) rfl
theorem ml_X5_88 : Cond.methodLink RX5 88 yX5_fail ∈ lw_all := lw_inT 1767 (by decide +kernel) rfl
theorem ml_X5_92 : Cond.methodLink RX5 92 yX5_in ∈ lw_all := lw_inT 1764 (by decide +kernel) rfl
theorem ml_X5_96 : Cond.methodLink RX5 96 yX5_s ∈ lw_all := lw_inT 1819 (by decide +kernel) rfl
theorem ml_X5_100 : Cond.methodLink RX5 100 yX5_is ∈ lw_all := lw_inT 1831 (by decide +kernel) rfl
theorem ml_X5_104 : Cond.methodLink RX5 104 yX5_livesIn ∈ lw_all := lw_inT 1946 (by decide +kernel) rfl
theorem ml_X5_107 : Cond.methodLink RX5 107 yX5_asksFor ∈ lw_all := lw_inT 1898 (by decide +kernel) rfl
theorem ml_X5_110 : Cond.methodLink RX5 110 yX5_isPaired ∈ lw_all := lw_inT 1867 (by decide +kernel) rfl
theorem ml_X5_114 : Cond.methodLink RX5 114 yX5_bitOf ∈ lw_all := lw_inT 1761 (by decide +kernel) rfl
theorem ml_X5_117 : Cond.methodLink RX5 117 yX5_set ∈ lw_all := lw_inT 1787 (by decide +kernel) rfl
theorem ml_X5_121 : Cond.methodLink RX5 121 yX5_notes ∈ lw_all := lw_inT 1775 (by decide +kernel) rfl
theorem ml_X5_125 : Cond.methodLink RX5 125 yX5_sendsAway ∈ lw_all := lw_inT 1791 (by decide +kernel) rfl
theorem ml_X5_129 : Cond.methodLink RX5 129 yX5_begin ∈ lw_all := lw_inT 1751 (by decide +kernel) rfl
theorem ml_X5_132 : Cond.methodLink RX5 132 yX5_isKind ∈ lw_all := lw_inT 1758 (by decide +kernel) rfl
theorem ml_X5_135 : Cond.methodLink RX5 135 yX5_tooMany ∈ lw_all := lw_inT 1771 (by decide +kernel) rfl
theorem ml_X5_139 : Cond.methodLink RX5 139 yX5_reject ∈ lw_all := lw_inT 1779 (by decide +kernel) rfl
theorem ml_X5_142 : Cond.methodLink RX5 142 yX5_adds ∈ lw_all := lw_inT 1783 (by decide +kernel) rfl
theorem ml_X5_145 : Cond.methodLink RX5 145 yX5_commit ∈ lw_all := lw_inT 1795 (by decide +kernel) rfl
theorem ml_X5_148 : Cond.methodLink RX5 148 yX5_plain ∈ lw_all := lw_inT 1803 (by decide +kernel) rfl
theorem ml_X5_151 : Cond.methodLink RX5 151 yX5_isSock ∈ lw_all := lw_inT 1811 (by decide +kernel) rfl
theorem ml_X5_154 : Cond.methodLink RX5 154 yX5_checked ∈ lw_all := lw_inT 1815 (by decide +kernel) rfl
theorem ml_X5_158 : Cond.methodLink RX5 158 yX5_known ∈ lw_all := lw_inT 1851 (by decide +kernel) rfl
theorem ml_X5_162 : Cond.methodLink RX5 162 yX5_fits ∈ lw_all := lw_inT 1875 (by decide +kernel) rfl
theorem ml_X5_165 : Cond.methodLink RX5 165 yX5_askingFor ∈ lw_all := lw_inT 1894 (by decide +kernel) rfl
theorem ml_X5_168 : Cond.methodLink RX5 168 yX5_isDrawer ∈ lw_all := lw_inT 1883 (by decide +kernel) rfl
theorem ml_X5_171 : Cond.methodLink RX5 171 yX5_cannotApply ∈ lw_all := lw_inT 1886 (by decide +kernel) rfl
theorem ml_X5_174 : Cond.methodLink RX5 174 yX5_applies ∈ lw_all := lw_inT 1890 (by decide +kernel) rfl
theorem ml_X5_177 : Cond.methodLink RX5 177 yX5_cannotWithdraw ∈ lw_all := lw_inT 1906 (by decide +kernel) rfl
theorem ml_X5_180 : Cond.methodLink RX5 180 yX5_withdraws ∈ lw_all := lw_inT 1910 (by decide +kernel) rfl
theorem ml_X5_183 : Cond.methodLink RX5 183 yX5_cannotAppeal ∈ lw_all := lw_inT 1918 (by decide +kernel) rfl
theorem ml_X5_186 : Cond.methodLink RX5 186 yX5_appeals ∈ lw_all := lw_inT 1922 (by decide +kernel) rfl
theorem ml_X5_189 : Cond.methodLink RX5 189 yX5_isSooner ∈ lw_all := lw_inT 1938 (by decide +kernel) rfl
theorem ml_X5_192 : Cond.methodLink RX5 192 yX5_inQueue ∈ lw_all := lw_inT 1934 (by decide +kernel) rfl
theorem ml_X5_195 : Cond.methodLink RX5 195 yX5_livingIn ∈ lw_all := lw_inT 1942 (by decide +kernel) rfl
theorem ml_X5_198 : Cond.methodLink RX5 198 yX5_isShut ∈ lw_all := lw_inT 1950 (by decide +kernel) rfl
theorem ml_X5_201 : Cond.methodLink RX5 201 yX5_decides ∈ lw_all := lw_inT 1930 (by decide +kernel) rfl
theorem ml_X5_204 : Cond.methodLink RX5 204 yX5_isNoResident ∈ lw_all := lw_inT 1974 (by decide +kernel) rfl
theorem ml_X5_207 : Cond.methodLink RX5 207 yX5_cannotRenew ∈ lw_all := lw_inT 1970 (by decide +kernel) rfl
theorem ml_X5_210 : Cond.methodLink RX5 210 yX5_renews ∈ lw_all := lw_inT 1978 (by decide +kernel) rfl
theorem ml_X5_213 : Cond.methodLink RX5 213 yX5_isBound ∈ lw_all := lw_inT 1990 (by decide +kernel) rfl
theorem ml_X5_216 : Cond.methodLink RX5 216 yX5_cannotLeave ∈ lw_all := lw_inT 1986 (by decide +kernel) rfl
theorem ml_X5_219 : Cond.methodLink RX5 219 yX5_leaves ∈ lw_all := lw_inT 1994 (by decide +kernel) rfl
theorem ml_X5_222 : Cond.methodLink RX5 222 yX5_treatyOf ∈ lw_all := lw_inT 2006 (by decide +kernel) rfl
theorem ml_X5_225 : Cond.methodLink RX5 225 yX5_cannotMove ∈ lw_all := lw_inT 2002 (by decide +kernel) rfl
theorem ml_X5_228 : Cond.methodLink RX5 228 yX5_moves ∈ lw_all := lw_inT 2009 (by decide +kernel) rfl
theorem ml_X5_231 : Cond.methodLink RX5 231 yX5_pairsIn ∈ lw_all := lw_inT 2025 (by decide +kernel) rfl
theorem ml_X5_234 : Cond.methodLink RX5 234 yX5_cannotPair ∈ lw_all := lw_inT 2017 (by decide +kernel) rfl
theorem ml_X5_237 : Cond.methodLink RX5 237 yX5_pairs ∈ lw_all := lw_inT 2021 (by decide +kernel) rfl
theorem ml_X5_240 : Cond.methodLink RX5 240 yX5_cannotSeparate ∈ lw_all := lw_inT 2033 (by decide +kernel) rfl
theorem ml_X5_243 : Cond.methodLink RX5 243 yX5_separates ∈ lw_all := lw_inT 2037 (by decide +kernel) rfl
theorem ml_X5_246 : Cond.methodLink RX5 246 yX5_single ∈ lw_all := lw_inT 2053 (by decide +kernel) rfl
theorem ml_X5_250 : Cond.methodLink RX5 250 yX5_possible ∈ lw_all := lw_inT 2049 (by decide +kernel) rfl
theorem ml_X5_253 : Cond.methodLink RX5 253 yX5_limits ∈ lw_all := lw_inT 2065 (by decide +kernel) rfl
theorem ml_X5_256 : Cond.methodLink RX5 256 yX5_bans ∈ lw_all := lw_inT 2077 (by decide +kernel) rfl
theorem ml_X5_259 : Cond.methodLink RX5 259 yX5_banned ∈ lw_all := lw_inT 2073 (by decide +kernel) rfl
theorem ml_X5_262 : Cond.methodLink RX5 262 yX5_treaties ∈ lw_all := lw_inT 2096 (by decide +kernel) rfl
theorem ml_X5_266 : Cond.methodLink RX5 266 yX5_isClause ∈ lw_all := lw_inT 2089 (by decide +kernel) rfl
theorem ml_X5_269 : Cond.methodLink RX5 269 yX5_cannotSign ∈ lw_all := lw_inT 2092 (by decide +kernel) rfl
theorem ml_X5_272 : Cond.methodLink RX5 272 yX5_signs ∈ lw_all := lw_inT 2100 (by decide +kernel) rfl
theorem ml_X5_275 : Cond.methodLink RX5 275 yX5_noTreaty ∈ lw_all := lw_inT 2108 (by decide +kernel) rfl
theorem ml_X5_278 : Cond.methodLink RX5 278 yX5_passes ∈ lw_all := lw_inT 2140 (by decide +kernel) rfl
theorem ml_X5_281 : Cond.methodLink RX5 281 yX5_isFuller ∈ lw_all := lw_inT 2172 (by decide +kernel) rfl
theorem ml_X5_284 : Cond.methodLink RX5 284 yX5_write ∈ lw_all := lw_inT 2196 (by decide +kernel) rfl
theorem ml_X5_287 : Cond.methodLink RX5 287 yX5_writeNumber ∈ lw_all := lw_inT 2192 (by decide +kernel) rfl
theorem ml_X5_290 : Cond.methodLink RX5 290 yX5_mark ∈ lw_all := lw_inT 2220 (by decide +kernel) rfl
theorem ml_X5_293 : Cond.methodLink RX5 293 yX5_next ∈ lw_all := lw_inT 2224 (by decide +kernel) rfl
theorem ml_X5_296 : Cond.methodLink RX5 296 yX5_digit ∈ lw_all := lw_inT 2232 (by decide +kernel) rfl
theorem ml_X5_299 : Cond.methodLink RX5 299 yX5_colour ∈ lw_all := lw_inT 2228 (by decide +kernel) rfl
theorem ml_X5_302 : Cond.methodLink RX5 302 yX5_keeps ∈ lw_all := lw_inT 2236 (by decide +kernel) rfl
theorem ml_X5_305 : Cond.methodLink RX5 305 yX5_number ∈ lw_all := lw_inT 2240 (by decide +kernel) rfl
theorem ml_X5_308 : Cond.methodLink RX5 308 yX5_sign ∈ lw_all := lw_inT 2244 (by decide +kernel) rfl
theorem ml_X5_311 : Cond.methodLink RX5 311 yX5_clause ∈ lw_all := lw_inT 2248 (by decide +kernel) rfl
theorem ml_X5_314 : Cond.methodLink RX5 314 yX5_command ∈ lw_all := lw_inT 2216 (by decide +kernel) rfl
theorem ml_X5_317 : Cond.methodLink RX5 317 yX5_parse ∈ lw_all := lw_inT 2212 (by decide +kernel) rfl
theorem ml_X5_320 : Cond.methodLink RX5 320 yX5_carries ∈ lw_all := lw_inT 2252 (by decide +kernel) rfl
theorem ml_X5_323 : Cond.methodLink RX5 323 yX5_present ∈ lw_all := lw_inT 2260 (by decide +kernel) rfl
theorem ml_J5_26 : Cond.methodLink RJ5 26 yJ2_newBytesFor_77867 ∈ lw_all := lw_inT 202 (by decide +kernel) rfl
theorem ml_J5_32 : Cond.methodLink RJ5 32 yJ0_length_8abf5 ∈ lw_all := lw_inT 1294 (by decide +kernel) rfl
theorem ml_J5_40 : Cond.methodLink RJ5 40 yJ0_coder_7d493 ∈ lw_all := lw_inT 1303 (by decide +kernel) rfl
theorem ml_J5_83 : Cond.methodLink RJ5 83 yJ5_isLatin1_aae02 ∈ lw_all := lw_inT 1283 (by decide +kernel) rfl
theorem ml_J5_100 : Cond.methodLink RJ5 100 yJ5_ensureCapacityInternal_d00df ∈ lw_all := lw_inT 1254 (by decide +kernel) rfl
theorem ml_J5_104 : Cond.methodLink RJ5 104 yJ5_newCapacity_0f7a4 ∈ lw_all := lw_inT 1258 (by decide +kernel) rfl
theorem ml_J5_108 : Cond.methodLink RJ5 108 yJ7_copyOf_9075b ∈ lw_all := lw_inT 1271 (by decide +kernel) rfl
theorem ml_J5_114 : Cond.methodLink RJ5 114 yJ8_newLength_cabcc ∈ lw_all := lw_inT 1262 (by decide +kernel) rfl
theorem ml_J5_125 : Cond.methodLink RJ5 125 yJ1_inflate_0e8fd ∈ lw_all := lw_inT 1308 (by decide +kernel) rfl
theorem ml_J5_131 : Cond.methodLink RJ5 131 yJx7c733_init_d00df ∈ lw_all := lw_inT 1237 (by decide +kernel) rfl
theorem ml_J5_133 : Cond.methodLink RJ5 133 yJ1_fillNull_b72d1 ∈ lw_all := lw_inT 1422 (by decide +kernel) rfl
theorem ml_J5_137 : Cond.methodLink RJ5 137 yJ2_fillNull_b72d1 ∈ lw_all := lw_inT 1444 (by decide +kernel) rfl
theorem ml_J5_138 : Cond.methodLink RJ5 138 yJ9_min_7cf53 ∈ lw_all := lw_inT 1485 (by decide +kernel) rfl
theorem ml_J5_144 : Cond.methodLink RJ5 144 yJ0_checkIndex_df160 ∈ lw_all := lw_inT 1486 (by decide +kernel) rfl
theorem ml_J5_148 : Cond.methodLink RJ5 148 yJ2_getChar_3b067 ∈ lw_all := lw_inT 1487 (by decide +kernel) rfl
theorem ml_J5_191 : Cond.methodLink RJ5 191 yJ1_canEncode_fc78d ∈ lw_all := lw_inT 1456 (by decide +kernel) rfl
theorem ml_J5_195 : Cond.methodLink RJ5 195 yJ5_inflate_da8c8 ∈ lw_all := lw_inT 1304 (by decide +kernel) rfl
theorem ml_J5_197 : Cond.methodLink RJ5 197 yJ2_putCharSB_b72d1 ∈ lw_all := lw_inT 1459 (by decide +kernel) rfl
theorem ml_J5_204 : Cond.methodLink RJ5 204 yJ5_appendNull_278bc ∈ lw_all := lw_inT 1250 (by decide +kernel) rfl
theorem ml_J5_208 : Cond.methodLink RJ5 208 yJ5_putStringAt_47b60 ∈ lw_all := lw_inT 1295 (by decide +kernel) rfl
theorem ml_J5_226 : Cond.methodLink RJ5 226 yJ2_putCharsAt_cd4e5 ∈ lw_all := lw_inT 1288 (by decide +kernel) rfl
theorem ml_J5_245 : Cond.methodLink RJ5 245 yJ6_stringSize_0f7a4 ∈ lw_all := lw_inT 1336 (by decide +kernel) rfl
theorem ml_J5_248 : Cond.methodLink RJ5 248 yJ6_getChars_ba4f3 ∈ lw_all := lw_inT 1339 (by decide +kernel) rfl
theorem ml_J5_251 : Cond.methodLink RJ5 251 yJ2_getChars_46870 ∈ lw_all := lw_inT 1346 (by decide +kernel) rfl
theorem ml_J5_397 : Cond.methodLink RJ5 397 yJ5_inflateIfNeededFor_a7421 ∈ lw_all := lw_inT 1299 (by decide +kernel) rfl
theorem ml_J5_399 : Cond.methodLink RJ5 399 yJ0_getBytes_840e7 ∈ lw_all := lw_inT 1323 (by decide +kernel) rfl
theorem ml_Jx00060_12 : Cond.methodLink RJx00060 12 yJ4_init_da8c8 ∈ lw_all := lw_inT 1439 (by decide +kernel) rfl
theorem ml_Jx00060_15 : Cond.methodLink RJx00060 15 yJ4_append_15ec4 ∈ lw_all := lw_inT 1441 (by decide +kernel) rfl
theorem ml_Jx00060_19 : Cond.methodLink RJx00060 19 yJ4_append_bf812 ∈ lw_all := lw_inT 1442 (by decide +kernel) rfl
theorem ml_Jx00060_22 : Cond.methodLink RJx00060 22 yJ4_toString_0e30d ∈ lw_all := lw_inT 1443 (by decide +kernel) rfl
theorem ml_J0_47 : Cond.methodLink RJ0 47 yJ2_coderFromArrayLen_85cad ∈ lw_all := lw_inT 1404 (by decide +kernel) rfl
theorem ml_J0_54 : Cond.methodLink RJ0 54 yJ7_copyOfRange_39247 ∈ lw_all := lw_inT 1380 (by decide +kernel) rfl
theorem ml_J0_106 : Cond.methodLink RJ0 106 yJ1_inflate_0e8fd ∈ lw_all := lw_inT 1328 (by decide +kernel) rfl
theorem ml_J0_335 : Cond.methodLink RJ0 335 yJ0_coder_7d493 ∈ lw_all := lw_inT 331 (by decide +kernel) rfl
theorem ml_J0_489 : Cond.methodLink RJ0 489 yJ0_init_db425 ∈ lw_all := lw_inT 1362 (by decide +kernel) rfl
theorem ml_J0_492 : Cond.methodLink RJ0 492 yJ0_isLatin1_aae02 ∈ lw_all := lw_inT 340 (by decide +kernel) rfl
theorem ml_J0_495 : Cond.methodLink RJ0 495 yJ1_charAt_3b067 ∈ lw_all := lw_inT 344 (by decide +kernel) rfl
theorem ml_J0_498 : Cond.methodLink RJ0 498 yJ2_charAt_3b067 ∈ lw_all := lw_inT 355 (by decide +kernel) rfl
theorem ml_J0_505 : Cond.methodLink RJ0 505 yJ0_length_8abf5 ∈ lw_all := lw_inT 433 (by decide +kernel) rfl
theorem ml_J0_549 : Cond.methodLink RJ0 549 yJ5_length_8abf5 ∈ lw_all := lw_inT 1371 (by decide +kernel) rfl
theorem ml_J0_552 : Cond.methodLink RJ0 552 yJ5_getValue_6d5f1 ∈ lw_all := lw_inT 1366 (by decide +kernel) rfl
theorem ml_J0_633 : Cond.methodLink RJ0 633 yJ0_indexOf_7cf53 ∈ lw_all := lw_inT 429 (by decide +kernel) rfl
theorem ml_J0_637 : Cond.methodLink RJ0 637 yJ1_indexOf_4cfef ∈ lw_all := lw_inT 434 (by decide +kernel) rfl
theorem ml_J0_640 : Cond.methodLink RJ0 640 yJ2_indexOf_4cfef ∈ lw_all := lw_inT 445 (by decide +kernel) rfl
theorem ml_J0_1047 : Cond.methodLink RJ0 1047 yJ5_isLatin1_aae02 ∈ lw_all := lw_inT 1379 (by decide +kernel) rfl
theorem ml_J0_1051 : Cond.methodLink RJ0 1051 yJ2_compress_39247 ∈ lw_all := lw_inT 1397 (by decide +kernel) rfl
theorem ml_J0_1059 : Cond.methodLink RJ0 1059 yJ3_checkIndex_8e157 ∈ lw_all := lw_inT 352 (by decide +kernel) rfl
theorem ml_J0_1062 : Cond.methodLink RJ0 1062 yJ3_checkFromToIndex_8c36e ∈ lw_all := lw_inT 460 (by decide +kernel) rfl
theorem ml_J0_1065 : Cond.methodLink RJ0 1065 yJ3_checkFromIndexSize_8c36e ∈ lw_all := lw_inT 1320 (by decide +kernel) rfl
theorem ml_J4_1 : Cond.methodLink RJ4 1 yJ5_init_d00df ∈ lw_all := lw_inT 196 (by decide +kernel) rfl
theorem ml_J4_29 : Cond.methodLink RJ4 29 yJ5_append_cf1ce ∈ lw_all := lw_inT 1247 (by decide +kernel) rfl
theorem ml_J4_50 : Cond.methodLink RJ4 50 yJ5_append_3fe6f ∈ lw_all := lw_inT 1453 (by decide +kernel) rfl
theorem ml_J4_53 : Cond.methodLink RJ4 53 yJ5_append_c97b9 ∈ lw_all := lw_inT 1333 (by decide +kernel) rfl
theorem ml_J4_137 : Cond.methodLink RJ4 137 yJ0_init_81219 ∈ lw_all := lw_inT 1359 (by decide +kernel) rfl
theorem ml_J4_329 : Cond.methodLink RJ4 329 yJ5_charAt_5068e ∈ lw_all := lw_inT 1482 (by decide +kernel) rfl
theorem ml_J4_333 : Cond.methodLink RJ4 333 yJ5_setLength_d00df ∈ lw_all := lw_inT 1232 (by decide +kernel) rfl
theorem ml_J4_343 : Cond.methodLink RJ4 343 yJ5_length_8abf5 ∈ lw_all := lw_inT 1377 (by decide +kernel) rfl
theorem ml_Jx7c733_12 : Cond.methodLink RJx7c733 12 yJ4_init_da8c8 ∈ lw_all := lw_inT 1241 (by decide +kernel) rfl
theorem ml_Jx7c733_15 : Cond.methodLink RJx7c733 15 yJ4_append_15ec4 ∈ lw_all := lw_inT 1243 (by decide +kernel) rfl
theorem ml_Jx7c733_19 : Cond.methodLink RJx7c733 19 yJ4_append_bf812 ∈ lw_all := lw_inT 1329 (by decide +kernel) rfl
theorem ml_Jx7c733_22 : Cond.methodLink RJx7c733 22 yJ4_toString_0e30d ∈ lw_all := lw_inT 1354 (by decide +kernel) rfl
theorem ml_J1_9 : Cond.methodLink RJ1 9 yJ0_checkIndex_df160 ∈ lw_all := lw_inT 347 (by decide +kernel) rfl
theorem ml_J1_38 : Cond.methodLink RJ1 38 yJ9_min_7cf53 ∈ lw_all := lw_inT 441 (by decide +kernel) rfl
theorem ml_J1_88 : Cond.methodLink RJ1 88 yJ1_canEncode_9a6ad ∈ lw_all := lw_inT 437 (by decide +kernel) rfl
theorem ml_J1_92 : Cond.methodLink RJ1 92 yJ9_max_7cf53 ∈ lw_all := lw_inT 440 (by decide +kernel) rfl
theorem ml_J1_95 : Cond.methodLink RJ1 95 yJ1_indexOfChar_4cfef ∈ lw_all := lw_inT 442 (by decide +kernel) rfl
theorem ml_J1_236 : Cond.methodLink RJ1 236 yJ7_fill_eb02e ∈ lw_all := lw_inT 1425 (by decide +kernel) rfl
theorem ml_J1_240 : Cond.methodLink RJ1 240 yJ2_inflate_0e8fd ∈ lw_all := lw_inT 1311 (by decide +kernel) rfl
theorem ml_J2_11 : Cond.methodLink RJ2 11 yJ2_newBytesLength_0f7a4 ∈ lw_all := lw_inT 205 (by decide +kernel) rfl
theorem ml_J2_48 : Cond.methodLink RJ2 48 yJ2_length_9d52b ∈ lw_all := lw_inT 361 (by decide +kernel) rfl
theorem ml_J2_67 : Cond.methodLink RJ2 67 yJ2_checkIndex_2214a ∈ lw_all := lw_inT 358 (by decide +kernel) rfl
theorem ml_J2_71 : Cond.methodLink RJ2 71 yJ2_getChar_3b067 ∈ lw_all := lw_inT 365 (by decide +kernel) rfl
theorem ml_J2_96 : Cond.methodLink RJ2 96 yJ2_checkBoundsBeginEnd_d044e ∈ lw_all := lw_inT 454 (by decide +kernel) rfl
theorem ml_J2_111 : Cond.methodLink RJ2 111 yJ2_putChar_b72d1 ∈ lw_all := lw_inT 1291 (by decide +kernel) rfl
theorem ml_J2_123 : Cond.methodLink RJ2 123 yJ2_compress_5af95 ∈ lw_all := lw_inT 1400 (by decide +kernel) rfl
theorem ml_J2_126 : Cond.methodLink RJ2 126 yJ7_copyOfRange_39247 ∈ lw_all := lw_inT 1403 (by decide +kernel) rfl
theorem ml_J2_157 : Cond.methodLink RJ2 157 yJ11_highSurrogate_5068e ∈ lw_all := lw_inT 472 (by decide +kernel) rfl
theorem ml_J2_161 : Cond.methodLink RJ2 161 yJ11_lowSurrogate_5068e ∈ lw_all := lw_inT 476 (by decide +kernel) rfl
theorem ml_J2_164 : Cond.methodLink RJ2 164 yJ11_isValidCodePoint_9a6ad ∈ lw_all := lw_inT 469 (by decide +kernel) rfl
theorem ml_J2_173 : Cond.methodLink RJ2 173 yJ2_checkBoundsOffCount_d044e ∈ lw_all := lw_inT 1314 (by decide +kernel) rfl
theorem ml_J2_183 : Cond.methodLink RJ2 183 yJ9_min_7cf53 ∈ lw_all := lw_inT 449 (by decide +kernel) rfl
theorem ml_J2_224 : Cond.methodLink RJ2 224 yJ9_max_7cf53 ∈ lw_all := lw_inT 448 (by decide +kernel) rfl
theorem ml_J2_228 : Cond.methodLink RJ2 228 yJ2_indexOfChar_4cfef ∈ lw_all := lw_inT 451 (by decide +kernel) rfl
theorem ml_J2_232 : Cond.methodLink RJ2 232 yJ2_indexOfSupplementary_4cfef ∈ lw_all := lw_inT 466 (by decide +kernel) rfl
theorem ml_J2_241 : Cond.methodLink RJ2 241 yJ0_checkBoundsBeginEnd_23922 ∈ lw_all := lw_inT 457 (by decide +kernel) rfl
theorem ml_J2_244 : Cond.methodLink RJ2 244 yJ2_indexOfCharUnsafe_4cfef ∈ lw_all := lw_inT 463 (by decide +kernel) rfl
theorem ml_J2_380 : Cond.methodLink RJ2 380 yJ7_fill_eb02e ∈ lw_all := lw_inT 1447 (by decide +kernel) rfl
theorem ml_J2_393 : Cond.methodLink RJ2 393 yJ2_getChars_ba4f3 ∈ lw_all := lw_inT 1349 (by decide +kernel) rfl
theorem ml_J2_414 : Cond.methodLink RJ2 414 yJ0_checkIndex_df160 ∈ lw_all := lw_inT 364 (by decide +kernel) rfl
theorem ml_J2_419 : Cond.methodLink RJ2 419 yJ0_checkBoundsOffCount_cabcc ∈ lw_all := lw_inT 1317 (by decide +kernel) rfl
theorem ml_J7_13 : Cond.methodLink RJ7 13 yJ7_rangeCheck_23922 ∈ lw_all := lw_inT 1428 (by decide +kernel) rfl
theorem ml_J7_47 : Cond.methodLink RJ7 47 yJ4_init_da8c8 ∈ lw_all := lw_inT 1391 (by decide +kernel) rfl
theorem ml_J7_50 : Cond.methodLink RJ7 50 yJ4_append_15ec4 ∈ lw_all := lw_inT 1394 (by decide +kernel) rfl
theorem ml_J7_54 : Cond.methodLink RJ7 54 yJ4_append_bf812 ∈ lw_all := lw_inT 1392 (by decide +kernel) rfl
theorem ml_J7_61 : Cond.methodLink RJ7 61 yJ4_toString_0e30d ∈ lw_all := lw_inT 1395 (by decide +kernel) rfl
theorem ml_J7_70 : Cond.methodLink RJ7 70 yJx00060_init_d00df ∈ lw_all := lw_inT 1435 (by decide +kernel) rfl
theorem ml_J7_304 : Cond.methodLink RJ7 304 yJ9_min_7cf53 ∈ lw_all := lw_inT 1281 (by decide +kernel) rfl
theorem ml_J7_339 : Cond.methodLink RJ7 339 yJ7_copyOfRangeByte_39247 ∈ lw_all := lw_inT 1383 (by decide +kernel) rfl
theorem ml_J7_343 : Cond.methodLink RJ7 343 yJ7_checkLength_df160 ∈ lw_all := lw_inT 1386 (by decide +kernel) rfl
theorem ml_J8_194 : Cond.methodLink RJ8 194 yJ9_max_7cf53 ∈ lw_all := lw_inT 1265 (by decide +kernel) rfl
theorem ml_J8_201 : Cond.methodLink RJ8 201 yJ8_hugeLength_7cf53 ∈ lw_all := lw_inT 1267 (by decide +kernel) rfl
theorem mth_min : Cond.static Lib.Math.min.name ∈ lw_all ∧ Cond.initialized "java/lang/Math" ∈ lw_all ∧ Cond.code Lib.Math.min.name Lib.Math.min.code 2 (some .int) ∈ lw_all := ⟨lw_inT 379 (by decide +kernel) rfl, lw_inT 12 (by decide +kernel) rfl, lw_inT 380 (by decide +kernel) rfl⟩
theorem mth_X2_33 : Cond.methodLink RX2 33 Lib.Math.min.name ∈ lw_all := lw_inT 628 (by decide +kernel) rfl
theorem mth_X3_65 : Cond.methodLink RX3 65 Lib.Math.min.name ∈ lw_all := lw_inT 378 (by decide +kernel) rfl
theorem mth_J5_138 : Cond.methodLink RJ5 138 Lib.Math.min.name ∈ lw_all := lw_inT 1485 (by decide +kernel) rfl
theorem mth_J1_38 : Cond.methodLink RJ1 38 Lib.Math.min.name ∈ lw_all := lw_inT 441 (by decide +kernel) rfl
theorem mth_J2_183 : Cond.methodLink RJ2 183 Lib.Math.min.name ∈ lw_all := lw_inT 449 (by decide +kernel) rfl
theorem mth_J7_304 : Cond.methodLink RJ7 304 Lib.Math.min.name ∈ lw_all := lw_inT 1281 (by decide +kernel) rfl
theorem mth_max : Cond.static Lib.Math.max.name ∈ lw_all ∧ Cond.initialized "java/lang/Math" ∈ lw_all ∧ Cond.code Lib.Math.max.name Lib.Math.max.code 2 (some .int) ∈ lw_all := ⟨lw_inT 316 (by decide +kernel) rfl, lw_inT 12 (by decide +kernel) rfl, lw_inT 317 (by decide +kernel) rfl⟩
theorem mth_X3_115 : Cond.methodLink RX3 115 Lib.Math.max.name ∈ lw_all := lw_inT 315 (by decide +kernel) rfl
theorem mth_J1_92 : Cond.methodLink RJ1 92 Lib.Math.max.name ∈ lw_all := lw_inT 440 (by decide +kernel) rfl
theorem mth_J2_224 : Cond.methodLink RJ2 224 Lib.Math.max.name ∈ lw_all := lw_inT 448 (by decide +kernel) rfl
theorem mth_J8_194 : Cond.methodLink RJ8 194 Lib.Math.max.name ∈ lw_all := lw_inT 1265 (by decide +kernel) rfl
