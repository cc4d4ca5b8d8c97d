theorem dL_addSock_0 : decode cL_addSock 0 = .ok (.aload_n 3, 1) := by decide +kernel
theorem dL_addSock_1 : decode cL_addSock 1 = .ok (.iconst 0, 1) := by decide +kernel
theorem dL_addSock_2 : decode cL_addSock 2 = .ok (.aload_n 0, 1) := by decide +kernel
theorem dL_addSock_3 : decode cL_addSock 3 = .ok (.iload_n 1, 1) := by decide +kernel
theorem dL_addSock_4 : decode cL_addSock 4 = .ok (.iload_n 2, 1) := by decide +kernel
theorem dL_addSock_5 : decode cL_addSock 5 = .ok (.invokevirtual 7, 3) := by decide +kernel
theorem dL_addSock_8 : decode cL_addSock 8 = .ok (.i2l, 1) := by decide +kernel
theorem dL_addSock_9 : decode cL_addSock 9 = .ok (.lastore, 1) := by decide +kernel
theorem dL_addSock_10 : decode cL_addSock 10 = .ok (.goto 11, 3) := by decide +kernel
theorem dL_addSock_13 : decode cL_addSock 13 = .ok (.astore 4, 2) := by decide +kernel
theorem dL_addSock_15 : decode cL_addSock 15 = .ok (.iconst 1, 1) := by decide +kernel
theorem dL_addSock_16 : decode cL_addSock 16 = .ok (.ireturn, 1) := by decide +kernel
theorem dL_addSock_17 : decode cL_addSock 17 = .ok (.astore 4, 2) := by decide +kernel
theorem dL_addSock_19 : decode cL_addSock 19 = .ok (.iconst 2, 1) := by decide +kernel
theorem dL_addSock_20 : decode cL_addSock 20 = .ok (.ireturn, 1) := by decide +kernel
theorem dL_addSock_21 : decode cL_addSock 21 = .ok (.iconst 0, 1) := by decide +kernel
theorem dL_addSock_22 : decode cL_addSock 22 = .ok (.ireturn, 1) := by decide +kernel
theorem dL_colourOf_0 : decode cL_colourOf 0 = .ok (.aload_n 2, 1) := by decide +kernel
theorem dL_colourOf_1 : decode cL_colourOf 1 = .ok (.iconst 0, 1) := by decide +kernel
theorem dL_colourOf_2 : decode cL_colourOf 2 = .ok (.aload_n 0, 1) := by decide +kernel
theorem dL_colourOf_3 : decode cL_colourOf 3 = .ok (.iload_n 1, 1) := by decide +kernel
theorem dL_colourOf_4 : decode cL_colourOf 4 = .ok (.invokevirtual 17, 3) := by decide +kernel
theorem dL_colourOf_7 : decode cL_colourOf 7 = .ok (.i2l, 1) := by decide +kernel
theorem dL_colourOf_8 : decode cL_colourOf 8 = .ok (.lastore, 1) := by decide +kernel
theorem dL_colourOf_9 : decode cL_colourOf 9 = .ok (.goto 6, 3) := by decide +kernel
theorem dL_colourOf_12 : decode cL_colourOf 12 = .ok (.astore_n 3, 1) := by decide +kernel
theorem dL_colourOf_13 : decode cL_colourOf 13 = .ok (.iconst 1, 1) := by decide +kernel
theorem dL_colourOf_14 : decode cL_colourOf 14 = .ok (.ireturn, 1) := by decide +kernel
theorem dL_colourOf_15 : decode cL_colourOf 15 = .ok (.iconst 0, 1) := by decide +kernel
theorem dL_colourOf_16 : decode cL_colourOf 16 = .ok (.ireturn, 1) := by decide +kernel
theorem dL_sizeOf_0 : decode cL_sizeOf 0 = .ok (.aload_n 2, 1) := by decide +kernel
theorem dL_sizeOf_1 : decode cL_sizeOf 1 = .ok (.iconst 0, 1) := by decide +kernel
theorem dL_sizeOf_2 : decode cL_sizeOf 2 = .ok (.aload_n 0, 1) := by decide +kernel
theorem dL_sizeOf_3 : decode cL_sizeOf 3 = .ok (.iload_n 1, 1) := by decide +kernel
theorem dL_sizeOf_4 : decode cL_sizeOf 4 = .ok (.invokevirtual 23, 3) := by decide +kernel
theorem dL_sizeOf_7 : decode cL_sizeOf 7 = .ok (.i2l, 1) := by decide +kernel
theorem dL_sizeOf_8 : decode cL_sizeOf 8 = .ok (.lastore, 1) := by decide +kernel
theorem dL_sizeOf_9 : decode cL_sizeOf 9 = .ok (.goto 6, 3) := by decide +kernel
theorem dL_sizeOf_12 : decode cL_sizeOf 12 = .ok (.astore_n 3, 1) := by decide +kernel
theorem dL_sizeOf_13 : decode cL_sizeOf 13 = .ok (.iconst 1, 1) := by decide +kernel
theorem dL_sizeOf_14 : decode cL_sizeOf 14 = .ok (.ireturn, 1) := by decide +kernel
theorem dL_sizeOf_15 : decode cL_sizeOf 15 = .ok (.iconst 0, 1) := by decide +kernel
theorem dL_sizeOf_16 : decode cL_sizeOf 16 = .ok (.ireturn, 1) := by decide +kernel
theorem dL_isAway_0 : decode cL_isAway 0 = .ok (.aload_n 2, 1) := by decide +kernel
theorem dL_isAway_1 : decode cL_isAway 1 = .ok (.iconst 0, 1) := by decide +kernel
theorem dL_isAway_2 : decode cL_isAway 2 = .ok (.aload_n 0, 1) := by decide +kernel
theorem dL_isAway_3 : decode cL_isAway 3 = .ok (.iload_n 1, 1) := by decide +kernel
theorem dL_isAway_4 : decode cL_isAway 4 = .ok (.invokevirtual 27, 3) := by decide +kernel
theorem dL_isAway_7 : decode cL_isAway 7 = .ok (.ifCond .eq 7, 3) := by decide +kernel
theorem dL_isAway_10 : decode cL_isAway 10 = .ok (.lconst 1, 1) := by decide +kernel
theorem dL_isAway_11 : decode cL_isAway 11 = .ok (.goto 4, 3) := by decide +kernel
theorem dL_isAway_14 : decode cL_isAway 14 = .ok (.lconst 0, 1) := by decide +kernel
theorem dL_isAway_15 : decode cL_isAway 15 = .ok (.lastore, 1) := by decide +kernel
theorem dL_isAway_16 : decode cL_isAway 16 = .ok (.goto 6, 3) := by decide +kernel
theorem dL_isAway_19 : decode cL_isAway 19 = .ok (.astore_n 3, 1) := by decide +kernel
theorem dL_isAway_20 : decode cL_isAway 20 = .ok (.iconst 1, 1) := by decide +kernel
theorem dL_isAway_21 : decode cL_isAway 21 = .ok (.ireturn, 1) := by decide +kernel
theorem dL_isAway_22 : decode cL_isAway 22 = .ok (.iconst 0, 1) := by decide +kernel
theorem dL_isAway_23 : decode cL_isAway 23 = .ok (.ireturn, 1) := by decide +kernel
theorem dL_isPending_0 : decode cL_isPending 0 = .ok (.aload_n 2, 1) := by decide +kernel
theorem dL_isPending_1 : decode cL_isPending 1 = .ok (.iconst 0, 1) := by decide +kernel
theorem dL_isPending_2 : decode cL_isPending 2 = .ok (.aload_n 0, 1) := by decide +kernel
theorem dL_isPending_3 : decode cL_isPending 3 = .ok (.iload_n 1, 1) := by decide +kernel
theorem dL_isPending_4 : decode cL_isPending 4 = .ok (.invokevirtual 31, 3) := by decide +kernel
theorem dL_isPending_7 : decode cL_isPending 7 = .ok (.ifCond .eq 7, 3) := by decide +kernel
theorem dL_isPending_10 : decode cL_isPending 10 = .ok (.lconst 1, 1) := by decide +kernel
theorem dL_isPending_11 : decode cL_isPending 11 = .ok (.goto 4, 3) := by decide +kernel
theorem dL_isPending_14 : decode cL_isPending 14 = .ok (.lconst 0, 1) := by decide +kernel
theorem dL_isPending_15 : decode cL_isPending 15 = .ok (.lastore, 1) := by decide +kernel
theorem dL_isPending_16 : decode cL_isPending 16 = .ok (.goto 6, 3) := by decide +kernel
theorem dL_isPending_19 : decode cL_isPending 19 = .ok (.astore_n 3, 1) := by decide +kernel
theorem dL_isPending_20 : decode cL_isPending 20 = .ok (.iconst 1, 1) := by decide +kernel
theorem dL_isPending_21 : decode cL_isPending 21 = .ok (.ireturn, 1) := by decide +kernel
theorem dL_isPending_22 : decode cL_isPending 22 = .ok (.iconst 0, 1) := by decide +kernel
theorem dL_isPending_23 : decode cL_isPending 23 = .ok (.ireturn, 1) := by decide +kernel
theorem dL_isRefused_0 : decode cL_isRefused 0 = .ok (.aload_n 2, 1) := by decide +kernel
theorem dL_isRefused_1 : decode cL_isRefused 1 = .ok (.iconst 0, 1) := by decide +kernel
theorem dL_isRefused_2 : decode cL_isRefused 2 = .ok (.aload_n 0, 1) := by decide +kernel
theorem dL_isRefused_3 : decode cL_isRefused 3 = .ok (.iload_n 1, 1) := by decide +kernel
theorem dL_isRefused_4 : decode cL_isRefused 4 = .ok (.invokevirtual 34, 3) := by decide +kernel
theorem dL_isRefused_7 : decode cL_isRefused 7 = .ok (.ifCond .eq 7, 3) := by decide +kernel
theorem dL_isRefused_10 : decode cL_isRefused 10 = .ok (.lconst 1, 1) := by decide +kernel
theorem dL_isRefused_11 : decode cL_isRefused 11 = .ok (.goto 4, 3) := by decide +kernel
theorem dL_isRefused_14 : decode cL_isRefused 14 = .ok (.lconst 0, 1) := by decide +kernel
theorem dL_isRefused_15 : decode cL_isRefused 15 = .ok (.lastore, 1) := by decide +kernel
theorem dL_isRefused_16 : decode cL_isRefused 16 = .ok (.goto 6, 3) := by decide +kernel
theorem dL_isRefused_19 : decode cL_isRefused 19 = .ok (.astore_n 3, 1) := by decide +kernel
theorem dL_isRefused_20 : decode cL_isRefused 20 = .ok (.iconst 1, 1) := by decide +kernel
theorem dL_isRefused_21 : decode cL_isRefused 21 = .ok (.ireturn, 1) := by decide +kernel
theorem dL_isRefused_22 : decode cL_isRefused 22 = .ok (.iconst 0, 1) := by decide +kernel
theorem dL_isRefused_23 : decode cL_isRefused 23 = .ok (.ireturn, 1) := by decide +kernel
theorem dL_isResident_0 : decode cL_isResident 0 = .ok (.aload_n 2, 1) := by decide +kernel
theorem dL_isResident_1 : decode cL_isResident 1 = .ok (.iconst 0, 1) := by decide +kernel
theorem dL_isResident_2 : decode cL_isResident 2 = .ok (.aload_n 0, 1) := by decide +kernel
theorem dL_isResident_3 : decode cL_isResident 3 = .ok (.iload_n 1, 1) := by decide +kernel
theorem dL_isResident_4 : decode cL_isResident 4 = .ok (.invokevirtual 37, 3) := by decide +kernel
theorem dL_isResident_7 : decode cL_isResident 7 = .ok (.ifCond .eq 7, 3) := by decide +kernel
theorem dL_isResident_10 : decode cL_isResident 10 = .ok (.lconst 1, 1) := by decide +kernel
theorem dL_isResident_11 : decode cL_isResident 11 = .ok (.goto 4, 3) := by decide +kernel
theorem dL_isResident_14 : decode cL_isResident 14 = .ok (.lconst 0, 1) := by decide +kernel
theorem dL_isResident_15 : decode cL_isResident 15 = .ok (.lastore, 1) := by decide +kernel
theorem dL_isResident_16 : decode cL_isResident 16 = .ok (.goto 6, 3) := by decide +kernel
theorem dL_isResident_19 : decode cL_isResident 19 = .ok (.astore_n 3, 1) := by decide +kernel
theorem dL_isResident_20 : decode cL_isResident 20 = .ok (.iconst 1, 1) := by decide +kernel
theorem dL_isResident_21 : decode cL_isResident 21 = .ok (.ireturn, 1) := by decide +kernel
theorem dL_isResident_22 : decode cL_isResident 22 = .ok (.iconst 0, 1) := by decide +kernel
theorem dL_isResident_23 : decode cL_isResident 23 = .ok (.ireturn, 1) := by decide +kernel
theorem dL_drawerOf_0 : decode cL_drawerOf 0 = .ok (.aload_n 2, 1) := by decide +kernel
theorem dL_drawerOf_1 : decode cL_drawerOf 1 = .ok (.iconst 0, 1) := by decide +kernel
theorem dL_drawerOf_2 : decode cL_drawerOf 2 = .ok (.aload_n 0, 1) := by decide +kernel
theorem dL_drawerOf_3 : decode cL_drawerOf 3 = .ok (.iload_n 1, 1) := by decide +kernel
theorem dL_drawerOf_4 : decode cL_drawerOf 4 = .ok (.invokevirtual 40, 3) := by decide +kernel
theorem dL_drawerOf_7 : decode cL_drawerOf 7 = .ok (.i2l, 1) := by decide +kernel
theorem dL_drawerOf_8 : decode cL_drawerOf 8 = .ok (.lastore, 1) := by decide +kernel
theorem dL_drawerOf_9 : decode cL_drawerOf 9 = .ok (.goto 9, 3) := by decide +kernel
theorem dL_drawerOf_12 : decode cL_drawerOf 12 = .ok (.astore_n 3, 1) := by decide +kernel
theorem dL_drawerOf_13 : decode cL_drawerOf 13 = .ok (.iconst 1, 1) := by decide +kernel
theorem dL_drawerOf_14 : decode cL_drawerOf 14 = .ok (.ireturn, 1) := by decide +kernel
theorem dL_drawerOf_15 : decode cL_drawerOf 15 = .ok (.astore_n 3, 1) := by decide +kernel
theorem dL_drawerOf_16 : decode cL_drawerOf 16 = .ok (.iconst 2, 1) := by decide +kernel
theorem dL_drawerOf_17 : decode cL_drawerOf 17 = .ok (.ireturn, 1) := by decide +kernel
theorem dL_drawerOf_18 : decode cL_drawerOf 18 = .ok (.iconst 0, 1) := by decide +kernel
theorem dL_drawerOf_19 : decode cL_drawerOf 19 = .ok (.ireturn, 1) := by decide +kernel
theorem dL_levelOf_0 : decode cL_levelOf 0 = .ok (.aload_n 2, 1) := by decide +kernel
theorem dL_levelOf_1 : decode cL_levelOf 1 = .ok (.iconst 0, 1) := by decide +kernel
theorem dL_levelOf_2 : decode cL_levelOf 2 = .ok (.aload_n 0, 1) := by decide +kernel
theorem dL_levelOf_3 : decode cL_levelOf 3 = .ok (.iload_n 1, 1) := by decide +kernel
theorem dL_levelOf_4 : decode cL_levelOf 4 = .ok (.invokevirtual 45, 3) := by decide +kernel
theorem dL_levelOf_7 : decode cL_levelOf 7 = .ok (.i2l, 1) := by decide +kernel
theorem dL_levelOf_8 : decode cL_levelOf 8 = .ok (.lastore, 1) := by decide +kernel
theorem dL_levelOf_9 : decode cL_levelOf 9 = .ok (.goto 9, 3) := by decide +kernel
theorem dL_levelOf_12 : decode cL_levelOf 12 = .ok (.astore_n 3, 1) := by decide +kernel
theorem dL_levelOf_13 : decode cL_levelOf 13 = .ok (.iconst 1, 1) := by decide +kernel
theorem dL_levelOf_14 : decode cL_levelOf 14 = .ok (.ireturn, 1) := by decide +kernel
theorem dL_levelOf_15 : decode cL_levelOf 15 = .ok (.astore_n 3, 1) := by decide +kernel
theorem dL_levelOf_16 : decode cL_levelOf 16 = .ok (.iconst 2, 1) := by decide +kernel
theorem dL_levelOf_17 : decode cL_levelOf 17 = .ok (.ireturn, 1) := by decide +kernel
theorem dL_levelOf_18 : decode cL_levelOf 18 = .ok (.iconst 0, 1) := by decide +kernel
theorem dL_levelOf_19 : decode cL_levelOf 19 = .ok (.ireturn, 1) := by decide +kernel
theorem dL_visaDay_0 : decode cL_visaDay 0 = .ok (.aload_n 2, 1) := by decide +kernel
theorem dL_visaDay_1 : decode cL_visaDay 1 = .ok (.iconst 0, 1) := by decide +kernel
theorem dL_visaDay_2 : decode cL_visaDay 2 = .ok (.aload_n 0, 1) := by decide +kernel
theorem dL_visaDay_3 : decode cL_visaDay 3 = .ok (.iload_n 1, 1) := by decide +kernel
theorem dL_visaDay_4 : decode cL_visaDay 4 = .ok (.invokevirtual 48, 3) := by decide +kernel
theorem dL_visaDay_7 : decode cL_visaDay 7 = .ok (.i2l, 1) := by decide +kernel
theorem dL_visaDay_8 : decode cL_visaDay 8 = .ok (.lastore, 1) := by decide +kernel
theorem dL_visaDay_9 : decode cL_visaDay 9 = .ok (.goto 9, 3) := by decide +kernel
theorem dL_visaDay_12 : decode cL_visaDay 12 = .ok (.astore_n 3, 1) := by decide +kernel
theorem dL_visaDay_13 : decode cL_visaDay 13 = .ok (.iconst 1, 1) := by decide +kernel
theorem dL_visaDay_14 : decode cL_visaDay 14 = .ok (.ireturn, 1) := by decide +kernel
theorem dL_visaDay_15 : decode cL_visaDay 15 = .ok (.astore_n 3, 1) := by decide +kernel
theorem dL_visaDay_16 : decode cL_visaDay 16 = .ok (.iconst 2, 1) := by decide +kernel
theorem dL_visaDay_17 : decode cL_visaDay 17 = .ok (.ireturn, 1) := by decide +kernel
theorem dL_visaDay_18 : decode cL_visaDay 18 = .ok (.iconst 0, 1) := by decide +kernel
theorem dL_visaDay_19 : decode cL_visaDay 19 = .ok (.ireturn, 1) := by decide +kernel
theorem dL_partnerOf_0 : decode cL_partnerOf 0 = .ok (.aload_n 2, 1) := by decide +kernel
theorem dL_partnerOf_1 : decode cL_partnerOf 1 = .ok (.iconst 0, 1) := by decide +kernel
theorem dL_partnerOf_2 : decode cL_partnerOf 2 = .ok (.aload_n 0, 1) := by decide +kernel
theorem dL_partnerOf_3 : decode cL_partnerOf 3 = .ok (.iload_n 1, 1) := by decide +kernel
theorem dL_partnerOf_4 : decode cL_partnerOf 4 = .ok (.invokevirtual 51, 3) := by decide +kernel
theorem dL_partnerOf_7 : decode cL_partnerOf 7 = .ok (.i2l, 1) := by decide +kernel
theorem dL_partnerOf_8 : decode cL_partnerOf 8 = .ok (.lastore, 1) := by decide +kernel
theorem dL_partnerOf_9 : decode cL_partnerOf 9 = .ok (.goto 9, 3) := by decide +kernel
theorem dL_partnerOf_12 : decode cL_partnerOf 12 = .ok (.astore_n 3, 1) := by decide +kernel
theorem dL_partnerOf_13 : decode cL_partnerOf 13 = .ok (.iconst 1, 1) := by decide +kernel
theorem dL_partnerOf_14 : decode cL_partnerOf 14 = .ok (.ireturn, 1) := by decide +kernel
theorem dL_partnerOf_15 : decode cL_partnerOf 15 = .ok (.astore_n 3, 1) := by decide +kernel
theorem dL_partnerOf_16 : decode cL_partnerOf 16 = .ok (.iconst 2, 1) := by decide +kernel
theorem dL_partnerOf_17 : decode cL_partnerOf 17 = .ok (.ireturn, 1) := by decide +kernel
theorem dL_partnerOf_18 : decode cL_partnerOf 18 = .ok (.iconst 0, 1) := by decide +kernel
theorem dL_partnerOf_19 : decode cL_partnerOf 19 = .ok (.ireturn, 1) := by decide +kernel
theorem dL_matches_0 : decode cL_matches 0 = .ok (.aload_n 3, 1) := by decide +kernel
theorem dL_matches_1 : decode cL_matches 1 = .ok (.iconst 0, 1) := by decide +kernel
theorem dL_matches_2 : decode cL_matches 2 = .ok (.aload_n 0, 1) := by decide +kernel
theorem dL_matches_3 : decode cL_matches 3 = .ok (.iload_n 1, 1) := by decide +kernel
theorem dL_matches_4 : decode cL_matches 4 = .ok (.iload_n 2, 1) := by decide +kernel
theorem dL_matches_5 : decode cL_matches 5 = .ok (.invokevirtual 54, 3) := by decide +kernel
theorem dL_matches_8 : decode cL_matches 8 = .ok (.ifCond .eq 7, 3) := by decide +kernel
theorem dL_matches_11 : decode cL_matches 11 = .ok (.lconst 1, 1) := by decide +kernel
theorem dL_matches_12 : decode cL_matches 12 = .ok (.goto 4, 3) := by decide +kernel
theorem dL_matches_15 : decode cL_matches 15 = .ok (.lconst 0, 1) := by decide +kernel
theorem dL_matches_16 : decode cL_matches 16 = .ok (.lastore, 1) := by decide +kernel
theorem dL_matches_17 : decode cL_matches 17 = .ok (.goto 7, 3) := by decide +kernel
theorem dL_matches_20 : decode cL_matches 20 = .ok (.astore 4, 2) := by decide +kernel
theorem dL_matches_22 : decode cL_matches 22 = .ok (.iconst 1, 1) := by decide +kernel
theorem dL_matches_23 : decode cL_matches 23 = .ok (.ireturn, 1) := by decide +kernel
theorem dL_matches_24 : decode cL_matches 24 = .ok (.iconst 0, 1) := by decide +kernel
theorem dL_matches_25 : decode cL_matches 25 = .ok (.ireturn, 1) := by decide +kernel
theorem dL_apply_0 : decode cL_apply 0 = .ok (.aload_n 3, 1) := by decide +kernel
theorem dL_apply_1 : decode cL_apply 1 = .ok (.iconst 0, 1) := by decide +kernel
theorem dL_apply_2 : decode cL_apply 2 = .ok (.aload_n 0, 1) := by decide +kernel
theorem dL_apply_3 : decode cL_apply 3 = .ok (.iload_n 1, 1) := by decide +kernel
theorem dL_apply_4 : decode cL_apply 4 = .ok (.iload_n 2, 1) := by decide +kernel
theorem dL_apply_5 : decode cL_apply 5 = .ok (.invokevirtual 58, 3) := by decide +kernel
theorem dL_apply_8 : decode cL_apply 8 = .ok (.i2l, 1) := by decide +kernel
theorem dL_apply_9 : decode cL_apply 9 = .ok (.lastore, 1) := by decide +kernel
theorem dL_apply_10 : decode cL_apply 10 = .ok (.goto 11, 3) := by decide +kernel
theorem dL_apply_13 : decode cL_apply 13 = .ok (.astore 4, 2) := by decide +kernel
theorem dL_apply_15 : decode cL_apply 15 = .ok (.iconst 1, 1) := by decide +kernel
theorem dL_apply_16 : decode cL_apply 16 = .ok (.ireturn, 1) := by decide +kernel
theorem dL_apply_17 : decode cL_apply 17 = .ok (.astore 4, 2) := by decide +kernel
theorem dL_apply_19 : decode cL_apply 19 = .ok (.iconst 2, 1) := by decide +kernel
theorem dL_apply_20 : decode cL_apply 20 = .ok (.ireturn, 1) := by decide +kernel
theorem dL_apply_21 : decode cL_apply 21 = .ok (.iconst 0, 1) := by decide +kernel
theorem dL_apply_22 : decode cL_apply 22 = .ok (.ireturn, 1) := by decide +kernel
theorem dL_withdraw_0 : decode cL_withdraw 0 = .ok (.aload_n 2, 1) := by decide +kernel
theorem dL_withdraw_1 : decode cL_withdraw 1 = .ok (.iconst 0, 1) := by decide +kernel
theorem dL_withdraw_2 : decode cL_withdraw 2 = .ok (.aload_n 0, 1) := by decide +kernel
theorem dL_withdraw_3 : decode cL_withdraw 3 = .ok (.iload_n 1, 1) := by decide +kernel
theorem dL_withdraw_4 : decode cL_withdraw 4 = .ok (.invokevirtual 62, 3) := by decide +kernel
theorem dL_withdraw_7 : decode cL_withdraw 7 = .ok (.i2l, 1) := by decide +kernel
theorem dL_withdraw_8 : decode cL_withdraw 8 = .ok (.lastore, 1) := by decide +kernel
theorem dL_withdraw_9 : decode cL_withdraw 9 = .ok (.goto 9, 3) := by decide +kernel
theorem dL_withdraw_12 : decode cL_withdraw 12 = .ok (.astore_n 3, 1) := by decide +kernel
theorem dL_withdraw_13 : decode cL_withdraw 13 = .ok (.iconst 1, 1) := by decide +kernel
theorem dL_withdraw_14 : decode cL_withdraw 14 = .ok (.ireturn, 1) := by decide +kernel
theorem dL_withdraw_15 : decode cL_withdraw 15 = .ok (.astore_n 3, 1) := by decide +kernel
theorem dL_withdraw_16 : decode cL_withdraw 16 = .ok (.iconst 2, 1) := by decide +kernel
theorem dL_withdraw_17 : decode cL_withdraw 17 = .ok (.ireturn, 1) := by decide +kernel
theorem dL_withdraw_18 : decode cL_withdraw 18 = .ok (.iconst 0, 1) := by decide +kernel
theorem dL_withdraw_19 : decode cL_withdraw 19 = .ok (.ireturn, 1) := by decide +kernel
theorem dL_appeal_0 : decode cL_appeal 0 = .ok (.aload_n 2, 1) := by decide +kernel
theorem dL_appeal_1 : decode cL_appeal 1 = .ok (.iconst 0, 1) := by decide +kernel
theorem dL_appeal_2 : decode cL_appeal 2 = .ok (.aload_n 0, 1) := by decide +kernel
theorem dL_appeal_3 : decode cL_appeal 3 = .ok (.iload_n 1, 1) := by decide +kernel
theorem dL_appeal_4 : decode cL_appeal 4 = .ok (.invokevirtual 65, 3) := by decide +kernel
theorem dL_appeal_7 : decode cL_appeal 7 = .ok (.i2l, 1) := by decide +kernel
theorem dL_appeal_8 : decode cL_appeal 8 = .ok (.lastore, 1) := by decide +kernel
theorem dL_appeal_9 : decode cL_appeal 9 = .ok (.goto 9, 3) := by decide +kernel
theorem dL_appeal_12 : decode cL_appeal 12 = .ok (.astore_n 3, 1) := by decide +kernel
theorem dL_appeal_13 : decode cL_appeal 13 = .ok (.iconst 1, 1) := by decide +kernel
theorem dL_appeal_14 : decode cL_appeal 14 = .ok (.ireturn, 1) := by decide +kernel
theorem dL_appeal_15 : decode cL_appeal 15 = .ok (.astore_n 3, 1) := by decide +kernel
theorem dL_appeal_16 : decode cL_appeal 16 = .ok (.iconst 2, 1) := by decide +kernel
theorem dL_appeal_17 : decode cL_appeal 17 = .ok (.ireturn, 1) := by decide +kernel
theorem dL_appeal_18 : decode cL_appeal 18 = .ok (.iconst 0, 1) := by decide +kernel
theorem dL_appeal_19 : decode cL_appeal 19 = .ok (.ireturn, 1) := by decide +kernel
theorem dL_decide_0 : decode cL_decide 0 = .ok (.aload_n 2, 1) := by decide +kernel
theorem dL_decide_1 : decode cL_decide 1 = .ok (.iconst 0, 1) := by decide +kernel
theorem dL_decide_2 : decode cL_decide 2 = .ok (.aload_n 0, 1) := by decide +kernel
theorem dL_decide_3 : decode cL_decide 3 = .ok (.iload_n 1, 1) := by decide +kernel
theorem dL_decide_4 : decode cL_decide 4 = .ok (.invokevirtual 68, 3) := by decide +kernel
theorem dL_decide_7 : decode cL_decide 7 = .ok (.i2l, 1) := by decide +kernel
theorem dL_decide_8 : decode cL_decide 8 = .ok (.lastore, 1) := by decide +kernel
theorem dL_decide_9 : decode cL_decide 9 = .ok (.goto 6, 3) := by decide +kernel
theorem dL_decide_12 : decode cL_decide 12 = .ok (.astore_n 3, 1) := by decide +kernel
theorem dL_decide_13 : decode cL_decide 13 = .ok (.iconst 1, 1) := by decide +kernel
theorem dL_decide_14 : decode cL_decide 14 = .ok (.ireturn, 1) := by decide +kernel
theorem dL_decide_15 : decode cL_decide 15 = .ok (.iconst 0, 1) := by decide +kernel
theorem dL_decide_16 : decode cL_decide 16 = .ok (.ireturn, 1) := by decide +kernel
theorem dL_wouldAdmit_0 : decode cL_wouldAdmit 0 = .ok (.aload_n 2, 1) := by decide +kernel
theorem dL_wouldAdmit_1 : decode cL_wouldAdmit 1 = .ok (.iconst 0, 1) := by decide +kernel
theorem dL_wouldAdmit_2 : decode cL_wouldAdmit 2 = .ok (.aload_n 0, 1) := by decide +kernel
theorem dL_wouldAdmit_3 : decode cL_wouldAdmit 3 = .ok (.iload_n 1, 1) := by decide +kernel
theorem dL_wouldAdmit_4 : decode cL_wouldAdmit 4 = .ok (.invokevirtual 71, 3) := by decide +kernel
theorem dL_wouldAdmit_7 : decode cL_wouldAdmit 7 = .ok (.i2l, 1) := by decide +kernel
theorem dL_wouldAdmit_8 : decode cL_wouldAdmit 8 = .ok (.lastore, 1) := by decide +kernel
theorem dL_wouldAdmit_9 : decode cL_wouldAdmit 9 = .ok (.goto 6, 3) := by decide +kernel
theorem dL_wouldAdmit_12 : decode cL_wouldAdmit 12 = .ok (.astore_n 3, 1) := by decide +kernel
theorem dL_wouldAdmit_13 : decode cL_wouldAdmit 13 = .ok (.iconst 1, 1) := by decide +kernel
theorem dL_wouldAdmit_14 : decode cL_wouldAdmit 14 = .ok (.ireturn, 1) := by decide +kernel
theorem dL_wouldAdmit_15 : decode cL_wouldAdmit 15 = .ok (.iconst 0, 1) := by decide +kernel
theorem dL_wouldAdmit_16 : decode cL_wouldAdmit 16 = .ok (.ireturn, 1) := by decide +kernel
theorem dL_queueAt_0 : decode cL_queueAt 0 = .ok (.aload_n 3, 1) := by decide +kernel
theorem dL_queueAt_1 : decode cL_queueAt 1 = .ok (.iconst 0, 1) := by decide +kernel
theorem dL_queueAt_2 : decode cL_queueAt 2 = .ok (.aload_n 0, 1) := by decide +kernel
theorem dL_queueAt_3 : decode cL_queueAt 3 = .ok (.iload_n 1, 1) := by decide +kernel
theorem dL_queueAt_4 : decode cL_queueAt 4 = .ok (.iload_n 2, 1) := by decide +kernel
theorem dL_queueAt_5 : decode cL_queueAt 5 = .ok (.invokevirtual 74, 3) := by decide +kernel
theorem dL_queueAt_8 : decode cL_queueAt 8 = .ok (.i2l, 1) := by decide +kernel
theorem dL_queueAt_9 : decode cL_queueAt 9 = .ok (.lastore, 1) := by decide +kernel
theorem dL_queueAt_10 : decode cL_queueAt 10 = .ok (.goto 11, 3) := by decide +kernel
theorem dL_queueAt_13 : decode cL_queueAt 13 = .ok (.astore 4, 2) := by decide +kernel
theorem dL_queueAt_15 : decode cL_queueAt 15 = .ok (.iconst 1, 1) := by decide +kernel
theorem dL_queueAt_16 : decode cL_queueAt 16 = .ok (.ireturn, 1) := by decide +kernel
theorem dL_queueAt_17 : decode cL_queueAt 17 = .ok (.astore 4, 2) := by decide +kernel
theorem dL_queueAt_19 : decode cL_queueAt 19 = .ok (.iconst 2, 1) := by decide +kernel
theorem dL_queueAt_20 : decode cL_queueAt 20 = .ok (.ireturn, 1) := by decide +kernel
theorem dL_queueAt_21 : decode cL_queueAt 21 = .ok (.iconst 0, 1) := by decide +kernel
theorem dL_queueAt_22 : decode cL_queueAt 22 = .ok (.ireturn, 1) := by decide +kernel
theorem dL_pendingCount_0 : decode cL_pendingCount 0 = .ok (.aload_n 2, 1) := by decide +kernel
theorem dL_pendingCount_1 : decode cL_pendingCount 1 = .ok (.iconst 0, 1) := by decide +kernel
theorem dL_pendingCount_2 : decode cL_pendingCount 2 = .ok (.aload_n 0, 1) := by decide +kernel
theorem dL_pendingCount_3 : decode cL_pendingCount 3 = .ok (.iload_n 1, 1) := by decide +kernel
theorem dL_pendingCount_4 : decode cL_pendingCount 4 = .ok (.invokevirtual 77, 3) := by decide +kernel
theorem dL_pendingCount_7 : decode cL_pendingCount 7 = .ok (.i2l, 1) := by decide +kernel
theorem dL_pendingCount_8 : decode cL_pendingCount 8 = .ok (.lastore, 1) := by decide +kernel
theorem dL_pendingCount_9 : decode cL_pendingCount 9 = .ok (.goto 6, 3) := by decide +kernel
theorem dL_pendingCount_12 : decode cL_pendingCount 12 = .ok (.astore_n 3, 1) := by decide +kernel
theorem dL_pendingCount_13 : decode cL_pendingCount 13 = .ok (.iconst 1, 1) := by decide +kernel
theorem dL_pendingCount_14 : decode cL_pendingCount 14 = .ok (.ireturn, 1) := by decide +kernel
theorem dL_pendingCount_15 : decode cL_pendingCount 15 = .ok (.iconst 0, 1) := by decide +kernel
theorem dL_pendingCount_16 : decode cL_pendingCount 16 = .ok (.ireturn, 1) := by decide +kernel
theorem dL_renew_0 : decode cL_renew 0 = .ok (.aload_n 3, 1) := by decide +kernel
theorem dL_renew_1 : decode cL_renew 1 = .ok (.iconst 0, 1) := by decide +kernel
theorem dL_renew_2 : decode cL_renew 2 = .ok (.aload_n 0, 1) := by decide +kernel
theorem dL_renew_3 : decode cL_renew 3 = .ok (.iload_n 1, 1) := by decide +kernel
theorem dL_renew_4 : decode cL_renew 4 = .ok (.iload_n 2, 1) := by decide +kernel
theorem dL_renew_5 : decode cL_renew 5 = .ok (.invokevirtual 80, 3) := by decide +kernel
theorem dL_renew_8 : decode cL_renew 8 = .ok (.i2l, 1) := by decide +kernel
theorem dL_renew_9 : decode cL_renew 9 = .ok (.lastore, 1) := by decide +kernel
theorem dL_renew_10 : decode cL_renew 10 = .ok (.goto 15, 3) := by decide +kernel
theorem dL_renew_13 : decode cL_renew 13 = .ok (.astore 4, 2) := by decide +kernel
theorem dL_renew_15 : decode cL_renew 15 = .ok (.iconst 1, 1) := by decide +kernel
theorem dL_renew_16 : decode cL_renew 16 = .ok (.ireturn, 1) := by decide +kernel
theorem dL_renew_17 : decode cL_renew 17 = .ok (.astore 4, 2) := by decide +kernel
theorem dL_renew_19 : decode cL_renew 19 = .ok (.iconst 2, 1) := by decide +kernel
theorem dL_renew_20 : decode cL_renew 20 = .ok (.ireturn, 1) := by decide +kernel
theorem dL_renew_21 : decode cL_renew 21 = .ok (.astore 4, 2) := by decide +kernel
theorem dL_renew_23 : decode cL_renew 23 = .ok (.iconst 3, 1) := by decide +kernel
theorem dL_renew_24 : decode cL_renew 24 = .ok (.ireturn, 1) := by decide +kernel
theorem dL_renew_25 : decode cL_renew 25 = .ok (.iconst 0, 1) := by decide +kernel
theorem dL_renew_26 : decode cL_renew 26 = .ok (.ireturn, 1) := by decide +kernel
theorem dL_leave_0 : decode cL_leave 0 = .ok (.aload_n 2, 1) := by decide +kernel
theorem dL_leave_1 : decode cL_leave 1 = .ok (.iconst 0, 1) := by decide +kernel
theorem dL_leave_2 : decode cL_leave 2 = .ok (.aload_n 0, 1) := by decide +kernel
theorem dL_leave_3 : decode cL_leave 3 = .ok (.iload_n 1, 1) := by decide +kernel
theorem dL_leave_4 : decode cL_leave 4 = .ok (.invokevirtual 83, 3) := by decide +kernel
theorem dL_leave_7 : decode cL_leave 7 = .ok (.i2l, 1) := by decide +kernel
theorem dL_leave_8 : decode cL_leave 8 = .ok (.lastore, 1) := by decide +kernel
theorem dL_leave_9 : decode cL_leave 9 = .ok (.goto 9, 3) := by decide +kernel
theorem dL_leave_12 : decode cL_leave 12 = .ok (.astore_n 3, 1) := by decide +kernel
theorem dL_leave_13 : decode cL_leave 13 = .ok (.iconst 1, 1) := by decide +kernel
theorem dL_leave_14 : decode cL_leave 14 = .ok (.ireturn, 1) := by decide +kernel
theorem dL_leave_15 : decode cL_leave 15 = .ok (.astore_n 3, 1) := by decide +kernel
theorem dL_leave_16 : decode cL_leave 16 = .ok (.iconst 2, 1) := by decide +kernel
theorem dL_leave_17 : decode cL_leave 17 = .ok (.ireturn, 1) := by decide +kernel
theorem dL_leave_18 : decode cL_leave 18 = .ok (.iconst 0, 1) := by decide +kernel
theorem dL_leave_19 : decode cL_leave 19 = .ok (.ireturn, 1) := by decide +kernel
theorem dL_move_0 : decode cL_move 0 = .ok (.aload_n 3, 1) := by decide +kernel
theorem dL_move_1 : decode cL_move 1 = .ok (.iconst 0, 1) := by decide +kernel
theorem dL_move_2 : decode cL_move 2 = .ok (.aload_n 0, 1) := by decide +kernel
theorem dL_move_3 : decode cL_move 3 = .ok (.iload_n 1, 1) := by decide +kernel
theorem dL_move_4 : decode cL_move 4 = .ok (.iload_n 2, 1) := by decide +kernel
theorem dL_move_5 : decode cL_move 5 = .ok (.invokevirtual 86, 3) := by decide +kernel
theorem dL_move_8 : decode cL_move 8 = .ok (.i2l, 1) := by decide +kernel
theorem dL_move_9 : decode cL_move 9 = .ok (.lastore, 1) := by decide +kernel
theorem dL_move_10 : decode cL_move 10 = .ok (.goto 11, 3) := by decide +kernel
theorem dL_move_13 : decode cL_move 13 = .ok (.astore 4, 2) := by decide +kernel
theorem dL_move_15 : decode cL_move 15 = .ok (.iconst 1, 1) := by decide +kernel
theorem dL_move_16 : decode cL_move 16 = .ok (.ireturn, 1) := by decide +kernel
theorem dL_move_17 : decode cL_move 17 = .ok (.astore 4, 2) := by decide +kernel
theorem dL_move_19 : decode cL_move 19 = .ok (.iconst 2, 1) := by decide +kernel
theorem dL_move_20 : decode cL_move 20 = .ok (.ireturn, 1) := by decide +kernel
theorem dL_move_21 : decode cL_move 21 = .ok (.iconst 0, 1) := by decide +kernel
theorem dL_move_22 : decode cL_move 22 = .ok (.ireturn, 1) := by decide +kernel
theorem dL_pair_0 : decode cL_pair 0 = .ok (.aload_n 3, 1) := by decide +kernel
theorem dL_pair_1 : decode cL_pair 1 = .ok (.iconst 0, 1) := by decide +kernel
theorem dL_pair_2 : decode cL_pair 2 = .ok (.aload_n 0, 1) := by decide +kernel
theorem dL_pair_3 : decode cL_pair 3 = .ok (.iload_n 1, 1) := by decide +kernel
theorem dL_pair_4 : decode cL_pair 4 = .ok (.iload_n 2, 1) := by decide +kernel
theorem dL_pair_5 : decode cL_pair 5 = .ok (.invokevirtual 89, 3) := by decide +kernel
theorem dL_pair_8 : decode cL_pair 8 = .ok (.i2l, 1) := by decide +kernel
theorem dL_pair_9 : decode cL_pair 9 = .ok (.lastore, 1) := by decide +kernel
theorem dL_pair_10 : decode cL_pair 10 = .ok (.goto 15, 3) := by decide +kernel
theorem dL_pair_13 : decode cL_pair 13 = .ok (.astore 4, 2) := by decide +kernel
theorem dL_pair_15 : decode cL_pair 15 = .ok (.iconst 1, 1) := by decide +kernel
theorem dL_pair_16 : decode cL_pair 16 = .ok (.ireturn, 1) := by decide +kernel
theorem dL_pair_17 : decode cL_pair 17 = .ok (.astore 4, 2) := by decide +kernel
theorem dL_pair_19 : decode cL_pair 19 = .ok (.iconst 2, 1) := by decide +kernel
theorem dL_pair_20 : decode cL_pair 20 = .ok (.ireturn, 1) := by decide +kernel
theorem dL_pair_21 : decode cL_pair 21 = .ok (.astore 4, 2) := by decide +kernel
theorem dL_pair_23 : decode cL_pair 23 = .ok (.iconst 3, 1) := by decide +kernel
theorem dL_pair_24 : decode cL_pair 24 = .ok (.ireturn, 1) := by decide +kernel
theorem dL_pair_25 : decode cL_pair 25 = .ok (.iconst 0, 1) := by decide +kernel
theorem dL_pair_26 : decode cL_pair 26 = .ok (.ireturn, 1) := by decide +kernel
theorem dL_separate_0 : decode cL_separate 0 = .ok (.aload_n 2, 1) := by decide +kernel
theorem dL_separate_1 : decode cL_separate 1 = .ok (.iconst 0, 1) := by decide +kernel
theorem dL_separate_2 : decode cL_separate 2 = .ok (.aload_n 0, 1) := by decide +kernel
theorem dL_separate_3 : decode cL_separate 3 = .ok (.iload_n 1, 1) := by decide +kernel
theorem dL_separate_4 : decode cL_separate 4 = .ok (.invokevirtual 92, 3) := by decide +kernel
theorem dL_separate_7 : decode cL_separate 7 = .ok (.i2l, 1) := by decide +kernel
theorem dL_separate_8 : decode cL_separate 8 = .ok (.lastore, 1) := by decide +kernel
theorem dL_separate_9 : decode cL_separate 9 = .ok (.goto 9, 3) := by decide +kernel
theorem dL_separate_12 : decode cL_separate 12 = .ok (.astore_n 3, 1) := by decide +kernel
theorem dL_separate_13 : decode cL_separate 13 = .ok (.iconst 1, 1) := by decide +kernel
theorem dL_separate_14 : decode cL_separate 14 = .ok (.ireturn, 1) := by decide +kernel
theorem dL_separate_15 : decode cL_separate 15 = .ok (.astore_n 3, 1) := by decide +kernel
theorem dL_separate_16 : decode cL_separate 16 = .ok (.iconst 2, 1) := by decide +kernel
theorem dL_separate_17 : decode cL_separate 17 = .ok (.ireturn, 1) := by decide +kernel
theorem dL_separate_18 : decode cL_separate 18 = .ok (.iconst 0, 1) := by decide +kernel
theorem dL_separate_19 : decode cL_separate 19 = .ok (.ireturn, 1) := by decide +kernel
theorem dL_pairCount_0 : decode cL_pairCount 0 = .ok (.aload_n 2, 1) := by decide +kernel
theorem dL_pairCount_1 : decode cL_pairCount 1 = .ok (.iconst 0, 1) := by decide +kernel
theorem dL_pairCount_2 : decode cL_pairCount 2 = .ok (.aload_n 0, 1) := by decide +kernel
theorem dL_pairCount_3 : decode cL_pairCount 3 = .ok (.iload_n 1, 1) := by decide +kernel
theorem dL_pairCount_4 : decode cL_pairCount 4 = .ok (.invokevirtual 95, 3) := by decide +kernel
theorem dL_pairCount_7 : decode cL_pairCount 7 = .ok (.i2l, 1) := by decide +kernel
theorem dL_pairCount_8 : decode cL_pairCount 8 = .ok (.lastore, 1) := by decide +kernel
theorem dL_pairCount_9 : decode cL_pairCount 9 = .ok (.goto 6, 3) := by decide +kernel
theorem dL_pairCount_12 : decode cL_pairCount 12 = .ok (.astore_n 3, 1) := by decide +kernel
theorem dL_pairCount_13 : decode cL_pairCount 13 = .ok (.iconst 1, 1) := by decide +kernel
theorem dL_pairCount_14 : decode cL_pairCount 14 = .ok (.ireturn, 1) := by decide +kernel
theorem dL_pairCount_15 : decode cL_pairCount 15 = .ok (.iconst 0, 1) := by decide +kernel
theorem dL_pairCount_16 : decode cL_pairCount 16 = .ok (.ireturn, 1) := by decide +kernel
theorem dL_possiblePairs_0 : decode cL_possiblePairs 0 = .ok (.aload_n 2, 1) := by decide +kernel
theorem dL_possiblePairs_1 : decode cL_possiblePairs 1 = .ok (.iconst 0, 1) := by decide +kernel
theorem dL_possiblePairs_2 : decode cL_possiblePairs 2 = .ok (.aload_n 0, 1) := by decide +kernel
theorem dL_possiblePairs_3 : decode cL_possiblePairs 3 = .ok (.iload_n 1, 1) := by decide +kernel
theorem dL_possiblePairs_4 : decode cL_possiblePairs 4 = .ok (.invokevirtual 98, 3) := by decide +kernel
theorem dL_possiblePairs_7 : decode cL_possiblePairs 7 = .ok (.i2l, 1) := by decide +kernel
theorem dL_possiblePairs_8 : decode cL_possiblePairs 8 = .ok (.lastore, 1) := by decide +kernel
theorem dL_possiblePairs_9 : decode cL_possiblePairs 9 = .ok (.goto 6, 3) := by decide +kernel
theorem dL_possiblePairs_12 : decode cL_possiblePairs 12 = .ok (.astore_n 3, 1) := by decide +kernel
theorem dL_possiblePairs_13 : decode cL_possiblePairs 13 = .ok (.iconst 1, 1) := by decide +kernel
theorem dL_possiblePairs_14 : decode cL_possiblePairs 14 = .ok (.ireturn, 1) := by decide +kernel
theorem dL_possiblePairs_15 : decode cL_possiblePairs 15 = .ok (.iconst 0, 1) := by decide +kernel
theorem dL_possiblePairs_16 : decode cL_possiblePairs 16 = .ok (.ireturn, 1) := by decide +kernel
theorem dL_possiblePairsByColours_0 : decode cL_possiblePairsByColours 0 = .ok (.aload_n 2, 1) := by decide +kernel
theorem dL_possiblePairsByColours_1 : decode cL_possiblePairsByColours 1 = .ok (.iconst 0, 1) := by decide +kernel
theorem dL_possiblePairsByColours_2 : decode cL_possiblePairsByColours 2 = .ok (.aload_n 0, 1) := by decide +kernel
theorem dL_possiblePairsByColours_3 : decode cL_possiblePairsByColours 3 = .ok (.iload_n 1, 1) := by decide +kernel
theorem dL_possiblePairsByColours_4 : decode cL_possiblePairsByColours 4 = .ok (.invokevirtual 101, 3) := by decide +kernel
theorem dL_possiblePairsByColours_7 : decode cL_possiblePairsByColours 7 = .ok (.i2l, 1) := by decide +kernel
theorem dL_possiblePairsByColours_8 : decode cL_possiblePairsByColours 8 = .ok (.lastore, 1) := by decide +kernel
theorem dL_possiblePairsByColours_9 : decode cL_possiblePairsByColours 9 = .ok (.goto 6, 3) := by decide +kernel
theorem dL_possiblePairsByColours_12 : decode cL_possiblePairsByColours 12 = .ok (.astore_n 3, 1) := by decide +kernel
theorem dL_possiblePairsByColours_13 : decode cL_possiblePairsByColours 13 = .ok (.iconst 1, 1) := by decide +kernel
theorem dL_possiblePairsByColours_14 : decode cL_possiblePairsByColours 14 = .ok (.ireturn, 1) := by decide +kernel
theorem dL_possiblePairsByColours_15 : decode cL_possiblePairsByColours 15 = .ok (.iconst 0, 1) := by decide +kernel
theorem dL_possiblePairsByColours_16 : decode cL_possiblePairsByColours 16 = .ok (.ireturn, 1) := by decide +kernel
theorem dL_setQuota_0 : decode cL_setQuota 0 = .ok (.aload_n 3, 1) := by decide +kernel
theorem dL_setQuota_1 : decode cL_setQuota 1 = .ok (.iconst 0, 1) := by decide +kernel
theorem dL_setQuota_2 : decode cL_setQuota 2 = .ok (.aload_n 0, 1) := by decide +kernel
theorem dL_setQuota_3 : decode cL_setQuota 3 = .ok (.iload_n 1, 1) := by decide +kernel
theorem dL_setQuota_4 : decode cL_setQuota 4 = .ok (.iload_n 2, 1) := by decide +kernel
theorem dL_setQuota_5 : decode cL_setQuota 5 = .ok (.invokevirtual 104, 3) := by decide +kernel
theorem dL_setQuota_8 : decode cL_setQuota 8 = .ok (.i2l, 1) := by decide +kernel
theorem dL_setQuota_9 : decode cL_setQuota 9 = .ok (.lastore, 1) := by decide +kernel
theorem dL_setQuota_10 : decode cL_setQuota 10 = .ok (.goto 11, 3) := by decide +kernel
theorem dL_setQuota_13 : decode cL_setQuota 13 = .ok (.astore 4, 2) := by decide +kernel
theorem dL_setQuota_15 : decode cL_setQuota 15 = .ok (.iconst 1, 1) := by decide +kernel
theorem dL_setQuota_16 : decode cL_setQuota 16 = .ok (.ireturn, 1) := by decide +kernel
theorem dL_setQuota_17 : decode cL_setQuota 17 = .ok (.astore 4, 2) := by decide +kernel
theorem dL_setQuota_19 : decode cL_setQuota 19 = .ok (.iconst 2, 1) := by decide +kernel
theorem dL_setQuota_20 : decode cL_setQuota 20 = .ok (.ireturn, 1) := by decide +kernel
theorem dL_setQuota_21 : decode cL_setQuota 21 = .ok (.iconst 0, 1) := by decide +kernel
theorem dL_setQuota_22 : decode cL_setQuota 22 = .ok (.ireturn, 1) := by decide +kernel
theorem dL_ban_0 : decode cL_ban 0 = .ok (.aload_n 3, 1) := by decide +kernel
theorem dL_ban_1 : decode cL_ban 1 = .ok (.iconst 0, 1) := by decide +kernel
theorem dL_ban_2 : decode cL_ban 2 = .ok (.aload_n 0, 1) := by decide +kernel
theorem dL_ban_3 : decode cL_ban 3 = .ok (.iload_n 1, 1) := by decide +kernel
theorem dL_ban_4 : decode cL_ban 4 = .ok (.iload_n 2, 1) := by decide +kernel
theorem dL_ban_5 : decode cL_ban 5 = .ok (.invokevirtual 107, 3) := by decide +kernel
theorem dL_ban_8 : decode cL_ban 8 = .ok (.ifCond .eq 7, 3) := by decide +kernel
theorem dL_ban_11 : decode cL_ban 11 = .ok (.lconst 1, 1) := by decide +kernel
theorem dL_ban_12 : decode cL_ban 12 = .ok (.goto 4, 3) := by decide +kernel
theorem dL_ban_15 : decode cL_ban 15 = .ok (.lconst 0, 1) := by decide +kernel
theorem dL_ban_16 : decode cL_ban 16 = .ok (.lastore, 1) := by decide +kernel
theorem dL_ban_17 : decode cL_ban 17 = .ok (.goto 11, 3) := by decide +kernel
theorem dL_ban_20 : decode cL_ban 20 = .ok (.astore 4, 2) := by decide +kernel
theorem dL_ban_22 : decode cL_ban 22 = .ok (.iconst 1, 1) := by decide +kernel
theorem dL_ban_23 : decode cL_ban 23 = .ok (.ireturn, 1) := by decide +kernel
theorem dL_ban_24 : decode cL_ban 24 = .ok (.astore 4, 2) := by decide +kernel
theorem dL_ban_26 : decode cL_ban 26 = .ok (.iconst 2, 1) := by decide +kernel
theorem dL_ban_27 : decode cL_ban 27 = .ok (.ireturn, 1) := by decide +kernel
theorem dL_ban_28 : decode cL_ban 28 = .ok (.iconst 0, 1) := by decide +kernel
theorem dL_ban_29 : decode cL_ban 29 = .ok (.ireturn, 1) := by decide +kernel
theorem dL_unban_0 : decode cL_unban 0 = .ok (.aload_n 3, 1) := by decide +kernel
theorem dL_unban_1 : decode cL_unban 1 = .ok (.iconst 0, 1) := by decide +kernel
theorem dL_unban_2 : decode cL_unban 2 = .ok (.aload_n 0, 1) := by decide +kernel
theorem dL_unban_3 : decode cL_unban 3 = .ok (.iload_n 1, 1) := by decide +kernel
theorem dL_unban_4 : decode cL_unban 4 = .ok (.iload_n 2, 1) := by decide +kernel
theorem dL_unban_5 : decode cL_unban 5 = .ok (.invokevirtual 111, 3) := by decide +kernel
theorem dL_unban_8 : decode cL_unban 8 = .ok (.ifCond .eq 7, 3) := by decide +kernel
theorem dL_unban_11 : decode cL_unban 11 = .ok (.lconst 1, 1) := by decide +kernel
theorem dL_unban_12 : decode cL_unban 12 = .ok (.goto 4, 3) := by decide +kernel
theorem dL_unban_15 : decode cL_unban 15 = .ok (.lconst 0, 1) := by decide +kernel
theorem dL_unban_16 : decode cL_unban 16 = .ok (.lastore, 1) := by decide +kernel
theorem dL_unban_17 : decode cL_unban 17 = .ok (.goto 11, 3) := by decide +kernel
theorem dL_unban_20 : decode cL_unban 20 = .ok (.astore 4, 2) := by decide +kernel
theorem dL_unban_22 : decode cL_unban 22 = .ok (.iconst 1, 1) := by decide +kernel
theorem dL_unban_23 : decode cL_unban 23 = .ok (.ireturn, 1) := by decide +kernel
theorem dL_unban_24 : decode cL_unban 24 = .ok (.astore 4, 2) := by decide +kernel
theorem dL_unban_26 : decode cL_unban 26 = .ok (.iconst 2, 1) := by decide +kernel
theorem dL_unban_27 : decode cL_unban 27 = .ok (.ireturn, 1) := by decide +kernel
theorem dL_unban_28 : decode cL_unban 28 = .ok (.iconst 0, 1) := by decide +kernel
theorem dL_unban_29 : decode cL_unban 29 = .ok (.ireturn, 1) := by decide +kernel
theorem dL_signTreaty_0 : decode cL_signTreaty 0 = .ok (.aload 4, 2) := by decide +kernel
theorem dL_signTreaty_2 : decode cL_signTreaty 2 = .ok (.iconst 0, 1) := by decide +kernel
theorem dL_signTreaty_3 : decode cL_signTreaty 3 = .ok (.aload_n 0, 1) := by decide +kernel
theorem dL_signTreaty_4 : decode cL_signTreaty 4 = .ok (.iload_n 1, 1) := by decide +kernel
theorem dL_signTreaty_5 : decode cL_signTreaty 5 = .ok (.iload_n 2, 1) := by decide +kernel
theorem dL_signTreaty_6 : decode cL_signTreaty 6 = .ok (.iload_n 3, 1) := by decide +kernel
theorem dL_signTreaty_7 : decode cL_signTreaty 7 = .ok (.invokevirtual 114, 3) := by decide +kernel
theorem dL_signTreaty_10 : decode cL_signTreaty 10 = .ok (.i2l, 1) := by decide +kernel
theorem dL_signTreaty_11 : decode cL_signTreaty 11 = .ok (.lastore, 1) := by decide +kernel
theorem dL_signTreaty_12 : decode cL_signTreaty 12 = .ok (.goto 15, 3) := by decide +kernel
theorem dL_signTreaty_15 : decode cL_signTreaty 15 = .ok (.astore 5, 2) := by decide +kernel
theorem dL_signTreaty_17 : decode cL_signTreaty 17 = .ok (.iconst 1, 1) := by decide +kernel
theorem dL_signTreaty_18 : decode cL_signTreaty 18 = .ok (.ireturn, 1) := by decide +kernel
theorem dL_signTreaty_19 : decode cL_signTreaty 19 = .ok (.astore 5, 2) := by decide +kernel
theorem dL_signTreaty_21 : decode cL_signTreaty 21 = .ok (.iconst 2, 1) := by decide +kernel
theorem dL_signTreaty_22 : decode cL_signTreaty 22 = .ok (.ireturn, 1) := by decide +kernel
theorem dL_signTreaty_23 : decode cL_signTreaty 23 = .ok (.astore 5, 2) := by decide +kernel
theorem dL_signTreaty_25 : decode cL_signTreaty 25 = .ok (.iconst 3, 1) := by decide +kernel
theorem dL_signTreaty_26 : decode cL_signTreaty 26 = .ok (.ireturn, 1) := by decide +kernel
theorem dL_signTreaty_27 : decode cL_signTreaty 27 = .ok (.iconst 0, 1) := by decide +kernel
theorem dL_signTreaty_28 : decode cL_signTreaty 28 = .ok (.ireturn, 1) := by decide +kernel
theorem dL_endTreaty_0 : decode cL_endTreaty 0 = .ok (.aload_n 3, 1) := by decide +kernel
theorem dL_endTreaty_1 : decode cL_endTreaty 1 = .ok (.iconst 0, 1) := by decide +kernel
theorem dL_endTreaty_2 : decode cL_endTreaty 2 = .ok (.aload_n 0, 1) := by decide +kernel
theorem dL_endTreaty_3 : decode cL_endTreaty 3 = .ok (.iload_n 1, 1) := by decide +kernel
theorem dL_endTreaty_4 : decode cL_endTreaty 4 = .ok (.iload_n 2, 1) := by decide +kernel
theorem dL_endTreaty_5 : decode cL_endTreaty 5 = .ok (.invokevirtual 118, 3) := by decide +kernel
theorem dL_endTreaty_8 : decode cL_endTreaty 8 = .ok (.i2l, 1) := by decide +kernel
theorem dL_endTreaty_9 : decode cL_endTreaty 9 = .ok (.lastore, 1) := by decide +kernel
theorem dL_endTreaty_10 : decode cL_endTreaty 10 = .ok (.goto 11, 3) := by decide +kernel
theorem dL_endTreaty_13 : decode cL_endTreaty 13 = .ok (.astore 4, 2) := by decide +kernel
theorem dL_endTreaty_15 : decode cL_endTreaty 15 = .ok (.iconst 1, 1) := by decide +kernel
theorem dL_endTreaty_16 : decode cL_endTreaty 16 = .ok (.ireturn, 1) := by decide +kernel
theorem dL_endTreaty_17 : decode cL_endTreaty 17 = .ok (.astore 4, 2) := by decide +kernel
theorem dL_endTreaty_19 : decode cL_endTreaty 19 = .ok (.iconst 2, 1) := by decide +kernel
theorem dL_endTreaty_20 : decode cL_endTreaty 20 = .ok (.ireturn, 1) := by decide +kernel
theorem dL_endTreaty_21 : decode cL_endTreaty 21 = .ok (.iconst 0, 1) := by decide +kernel
theorem dL_endTreaty_22 : decode cL_endTreaty 22 = .ok (.ireturn, 1) := by decide +kernel
theorem dL_clauseOf_0 : decode cL_clauseOf 0 = .ok (.aload_n 3, 1) := by decide +kernel
theorem dL_clauseOf_1 : decode cL_clauseOf 1 = .ok (.iconst 0, 1) := by decide +kernel
theorem dL_clauseOf_2 : decode cL_clauseOf 2 = .ok (.aload_n 0, 1) := by decide +kernel
theorem dL_clauseOf_3 : decode cL_clauseOf 3 = .ok (.iload_n 1, 1) := by decide +kernel
theorem dL_clauseOf_4 : decode cL_clauseOf 4 = .ok (.iload_n 2, 1) := by decide +kernel
theorem dL_clauseOf_5 : decode cL_clauseOf 5 = .ok (.invokevirtual 121, 3) := by decide +kernel
theorem dL_clauseOf_8 : decode cL_clauseOf 8 = .ok (.i2l, 1) := by decide +kernel
theorem dL_clauseOf_9 : decode cL_clauseOf 9 = .ok (.lastore, 1) := by decide +kernel
theorem dL_clauseOf_10 : decode cL_clauseOf 10 = .ok (.goto 11, 3) := by decide +kernel
theorem dL_clauseOf_13 : decode cL_clauseOf 13 = .ok (.astore 4, 2) := by decide +kernel
theorem dL_clauseOf_15 : decode cL_clauseOf 15 = .ok (.iconst 1, 1) := by decide +kernel
theorem dL_clauseOf_16 : decode cL_clauseOf 16 = .ok (.ireturn, 1) := by decide +kernel
theorem dL_clauseOf_17 : decode cL_clauseOf 17 = .ok (.astore 4, 2) := by decide +kernel
theorem dL_clauseOf_19 : decode cL_clauseOf 19 = .ok (.iconst 2, 1) := by decide +kernel
theorem dL_clauseOf_20 : decode cL_clauseOf 20 = .ok (.ireturn, 1) := by decide +kernel
theorem dL_clauseOf_21 : decode cL_clauseOf 21 = .ok (.iconst 0, 1) := by decide +kernel
theorem dL_clauseOf_22 : decode cL_clauseOf 22 = .ok (.ireturn, 1) := by decide +kernel
theorem dL_quotaOf_0 : decode cL_quotaOf 0 = .ok (.aload_n 2, 1) := by decide +kernel
theorem dL_quotaOf_1 : decode cL_quotaOf 1 = .ok (.iconst 0, 1) := by decide +kernel
theorem dL_quotaOf_2 : decode cL_quotaOf 2 = .ok (.aload_n 0, 1) := by decide +kernel
theorem dL_quotaOf_3 : decode cL_quotaOf 3 = .ok (.iload_n 1, 1) := by decide +kernel
theorem dL_quotaOf_4 : decode cL_quotaOf 4 = .ok (.invokevirtual 125, 3) := by decide +kernel
theorem dL_quotaOf_7 : decode cL_quotaOf 7 = .ok (.i2l, 1) := by decide +kernel
theorem dL_quotaOf_8 : decode cL_quotaOf 8 = .ok (.lastore, 1) := by decide +kernel
theorem dL_quotaOf_9 : decode cL_quotaOf 9 = .ok (.goto 6, 3) := by decide +kernel
theorem dL_quotaOf_12 : decode cL_quotaOf 12 = .ok (.astore_n 3, 1) := by decide +kernel
theorem dL_quotaOf_13 : decode cL_quotaOf 13 = .ok (.iconst 1, 1) := by decide +kernel
theorem dL_quotaOf_14 : decode cL_quotaOf 14 = .ok (.ireturn, 1) := by decide +kernel
theorem dL_quotaOf_15 : decode cL_quotaOf 15 = .ok (.iconst 0, 1) := by decide +kernel
theorem dL_quotaOf_16 : decode cL_quotaOf 16 = .ok (.ireturn, 1) := by decide +kernel
theorem dL_residents_0 : decode cL_residents 0 = .ok (.aload_n 2, 1) := by decide +kernel
theorem dL_residents_1 : decode cL_residents 1 = .ok (.iconst 0, 1) := by decide +kernel
theorem dL_residents_2 : decode cL_residents 2 = .ok (.aload_n 0, 1) := by decide +kernel
theorem dL_residents_3 : decode cL_residents 3 = .ok (.iload_n 1, 1) := by decide +kernel
theorem dL_residents_4 : decode cL_residents 4 = .ok (.invokevirtual 128, 3) := by decide +kernel
theorem dL_residents_7 : decode cL_residents 7 = .ok (.i2l, 1) := by decide +kernel
theorem dL_residents_8 : decode cL_residents 8 = .ok (.lastore, 1) := by decide +kernel
theorem dL_residents_9 : decode cL_residents 9 = .ok (.goto 6, 3) := by decide +kernel
theorem dL_residents_12 : decode cL_residents 12 = .ok (.astore_n 3, 1) := by decide +kernel
theorem dL_residents_13 : decode cL_residents 13 = .ok (.iconst 1, 1) := by decide +kernel
theorem dL_residents_14 : decode cL_residents 14 = .ok (.ireturn, 1) := by decide +kernel
theorem dL_residents_15 : decode cL_residents 15 = .ok (.iconst 0, 1) := by decide +kernel
theorem dL_residents_16 : decode cL_residents 16 = .ok (.ireturn, 1) := by decide +kernel
theorem dL_residentAt_0 : decode cL_residentAt 0 = .ok (.aload_n 3, 1) := by decide +kernel
theorem dL_residentAt_1 : decode cL_residentAt 1 = .ok (.iconst 0, 1) := by decide +kernel
theorem dL_residentAt_2 : decode cL_residentAt 2 = .ok (.aload_n 0, 1) := by decide +kernel
theorem dL_residentAt_3 : decode cL_residentAt 3 = .ok (.iload_n 1, 1) := by decide +kernel
theorem dL_residentAt_4 : decode cL_residentAt 4 = .ok (.iload_n 2, 1) := by decide +kernel
theorem dL_residentAt_5 : decode cL_residentAt 5 = .ok (.invokevirtual 131, 3) := by decide +kernel
theorem dL_residentAt_8 : decode cL_residentAt 8 = .ok (.i2l, 1) := by decide +kernel
theorem dL_residentAt_9 : decode cL_residentAt 9 = .ok (.lastore, 1) := by decide +kernel
theorem dL_residentAt_10 : decode cL_residentAt 10 = .ok (.goto 11, 3) := by decide +kernel
theorem dL_residentAt_13 : decode cL_residentAt 13 = .ok (.astore 4, 2) := by decide +kernel
theorem dL_residentAt_15 : decode cL_residentAt 15 = .ok (.iconst 1, 1) := by decide +kernel
theorem dL_residentAt_16 : decode cL_residentAt 16 = .ok (.ireturn, 1) := by decide +kernel
theorem dL_residentAt_17 : decode cL_residentAt 17 = .ok (.astore 4, 2) := by decide +kernel
theorem dL_residentAt_19 : decode cL_residentAt 19 = .ok (.iconst 2, 1) := by decide +kernel
theorem dL_residentAt_20 : decode cL_residentAt 20 = .ok (.ireturn, 1) := by decide +kernel
theorem dL_residentAt_21 : decode cL_residentAt 21 = .ok (.iconst 0, 1) := by decide +kernel
theorem dL_residentAt_22 : decode cL_residentAt 22 = .ok (.ireturn, 1) := by decide +kernel
theorem dL_isBanned_0 : decode cL_isBanned 0 = .ok (.aload_n 3, 1) := by decide +kernel
theorem dL_isBanned_1 : decode cL_isBanned 1 = .ok (.iconst 0, 1) := by decide +kernel
theorem dL_isBanned_2 : decode cL_isBanned 2 = .ok (.aload_n 0, 1) := by decide +kernel
theorem dL_isBanned_3 : decode cL_isBanned 3 = .ok (.iload_n 1, 1) := by decide +kernel
theorem dL_isBanned_4 : decode cL_isBanned 4 = .ok (.iload_n 2, 1) := by decide +kernel
theorem dL_isBanned_5 : decode cL_isBanned 5 = .ok (.invokevirtual 134, 3) := by decide +kernel
theorem dL_isBanned_8 : decode cL_isBanned 8 = .ok (.ifCond .eq 7, 3) := by decide +kernel
theorem dL_isBanned_11 : decode cL_isBanned 11 = .ok (.lconst 1, 1) := by decide +kernel
theorem dL_isBanned_12 : decode cL_isBanned 12 = .ok (.goto 4, 3) := by decide +kernel
theorem dL_isBanned_15 : decode cL_isBanned 15 = .ok (.lconst 0, 1) := by decide +kernel
theorem dL_isBanned_16 : decode cL_isBanned 16 = .ok (.lastore, 1) := by decide +kernel
theorem dL_isBanned_17 : decode cL_isBanned 17 = .ok (.goto 11, 3) := by decide +kernel
theorem dL_isBanned_20 : decode cL_isBanned 20 = .ok (.astore 4, 2) := by decide +kernel
theorem dL_isBanned_22 : decode cL_isBanned 22 = .ok (.iconst 1, 1) := by decide +kernel
theorem dL_isBanned_23 : decode cL_isBanned 23 = .ok (.ireturn, 1) := by decide +kernel
theorem dL_isBanned_24 : decode cL_isBanned 24 = .ok (.astore 4, 2) := by decide +kernel
theorem dL_isBanned_26 : decode cL_isBanned 26 = .ok (.iconst 2, 1) := by decide +kernel
theorem dL_isBanned_27 : decode cL_isBanned 27 = .ok (.ireturn, 1) := by decide +kernel
theorem dL_isBanned_28 : decode cL_isBanned 28 = .ok (.iconst 0, 1) := by decide +kernel
theorem dL_isBanned_29 : decode cL_isBanned 29 = .ok (.ireturn, 1) := by decide +kernel
theorem dL_canMove_0 : decode cL_canMove 0 = .ok (.aload_n 3, 1) := by decide +kernel
theorem dL_canMove_1 : decode cL_canMove 1 = .ok (.iconst 0, 1) := by decide +kernel
theorem dL_canMove_2 : decode cL_canMove 2 = .ok (.aload_n 0, 1) := by decide +kernel
theorem dL_canMove_3 : decode cL_canMove 3 = .ok (.iload_n 1, 1) := by decide +kernel
theorem dL_canMove_4 : decode cL_canMove 4 = .ok (.iload_n 2, 1) := by decide +kernel
theorem dL_canMove_5 : decode cL_canMove 5 = .ok (.invokevirtual 137, 3) := by decide +kernel
theorem dL_canMove_8 : decode cL_canMove 8 = .ok (.ifCond .eq 7, 3) := by decide +kernel
theorem dL_canMove_11 : decode cL_canMove 11 = .ok (.lconst 1, 1) := by decide +kernel
theorem dL_canMove_12 : decode cL_canMove 12 = .ok (.goto 4, 3) := by decide +kernel
theorem dL_canMove_15 : decode cL_canMove 15 = .ok (.lconst 0, 1) := by decide +kernel
theorem dL_canMove_16 : decode cL_canMove 16 = .ok (.lastore, 1) := by decide +kernel
theorem dL_canMove_17 : decode cL_canMove 17 = .ok (.goto 7, 3) := by decide +kernel
theorem dL_canMove_20 : decode cL_canMove 20 = .ok (.astore 4, 2) := by decide +kernel
theorem dL_canMove_22 : decode cL_canMove 22 = .ok (.iconst 1, 1) := by decide +kernel
theorem dL_canMove_23 : decode cL_canMove 23 = .ok (.ireturn, 1) := by decide +kernel
theorem dL_canMove_24 : decode cL_canMove 24 = .ok (.iconst 0, 1) := by decide +kernel
theorem dL_canMove_25 : decode cL_canMove 25 = .ok (.ireturn, 1) := by decide +kernel
theorem dL_passDays_0 : decode cL_passDays 0 = .ok (.aload_n 2, 1) := by decide +kernel
theorem dL_passDays_1 : decode cL_passDays 1 = .ok (.iconst 0, 1) := by decide +kernel
theorem dL_passDays_2 : decode cL_passDays 2 = .ok (.aload_n 0, 1) := by decide +kernel
theorem dL_passDays_3 : decode cL_passDays 3 = .ok (.iload_n 1, 1) := by decide +kernel
theorem dL_passDays_4 : decode cL_passDays 4 = .ok (.invokevirtual 140, 3) := by decide +kernel
theorem dL_passDays_7 : decode cL_passDays 7 = .ok (.i2l, 1) := by decide +kernel
theorem dL_passDays_8 : decode cL_passDays 8 = .ok (.lastore, 1) := by decide +kernel
theorem dL_passDays_9 : decode cL_passDays 9 = .ok (.goto 6, 3) := by decide +kernel
theorem dL_passDays_12 : decode cL_passDays 12 = .ok (.astore_n 3, 1) := by decide +kernel
theorem dL_passDays_13 : decode cL_passDays 13 = .ok (.iconst 1, 1) := by decide +kernel
theorem dL_passDays_14 : decode cL_passDays 14 = .ok (.ireturn, 1) := by decide +kernel
theorem dL_passDays_15 : decode cL_passDays 15 = .ok (.iconst 0, 1) := by decide +kernel
theorem dL_passDays_16 : decode cL_passDays 16 = .ok (.ireturn, 1) := by decide +kernel
theorem dL_wouldExpel_0 : decode cL_wouldExpel 0 = .ok (.aload_n 2, 1) := by decide +kernel
theorem dL_wouldExpel_1 : decode cL_wouldExpel 1 = .ok (.iconst 0, 1) := by decide +kernel
theorem dL_wouldExpel_2 : decode cL_wouldExpel 2 = .ok (.aload_n 0, 1) := by decide +kernel
theorem dL_wouldExpel_3 : decode cL_wouldExpel 3 = .ok (.iload_n 1, 1) := by decide +kernel
theorem dL_wouldExpel_4 : decode cL_wouldExpel 4 = .ok (.invokevirtual 143, 3) := by decide +kernel
theorem dL_wouldExpel_7 : decode cL_wouldExpel 7 = .ok (.i2l, 1) := by decide +kernel
theorem dL_wouldExpel_8 : decode cL_wouldExpel 8 = .ok (.lastore, 1) := by decide +kernel
theorem dL_wouldExpel_9 : decode cL_wouldExpel 9 = .ok (.goto 6, 3) := by decide +kernel
theorem dL_wouldExpel_12 : decode cL_wouldExpel 12 = .ok (.astore_n 3, 1) := by decide +kernel
theorem dL_wouldExpel_13 : decode cL_wouldExpel 13 = .ok (.iconst 1, 1) := by decide +kernel
theorem dL_wouldExpel_14 : decode cL_wouldExpel 14 = .ok (.ireturn, 1) := by decide +kernel
theorem dL_wouldExpel_15 : decode cL_wouldExpel 15 = .ok (.iconst 0, 1) := by decide +kernel
theorem dL_wouldExpel_16 : decode cL_wouldExpel 16 = .ok (.ireturn, 1) := by decide +kernel
theorem dL_drawerByResidents_0 : decode cL_drawerByResidents 0 = .ok (.aload_n 2, 1) := by decide +kernel
theorem dL_drawerByResidents_1 : decode cL_drawerByResidents 1 = .ok (.iconst 0, 1) := by decide +kernel
theorem dL_drawerByResidents_2 : decode cL_drawerByResidents 2 = .ok (.aload_n 0, 1) := by decide +kernel
theorem dL_drawerByResidents_3 : decode cL_drawerByResidents 3 = .ok (.iload_n 1, 1) := by decide +kernel
theorem dL_drawerByResidents_4 : decode cL_drawerByResidents 4 = .ok (.invokevirtual 146, 3) := by decide +kernel
theorem dL_drawerByResidents_7 : decode cL_drawerByResidents 7 = .ok (.i2l, 1) := by decide +kernel
theorem dL_drawerByResidents_8 : decode cL_drawerByResidents 8 = .ok (.lastore, 1) := by decide +kernel
theorem dL_drawerByResidents_9 : decode cL_drawerByResidents 9 = .ok (.goto 6, 3) := by decide +kernel
theorem dL_drawerByResidents_12 : decode cL_drawerByResidents 12 = .ok (.astore_n 3, 1) := by decide +kernel
theorem dL_drawerByResidents_13 : decode cL_drawerByResidents 13 = .ok (.iconst 1, 1) := by decide +kernel
theorem dL_drawerByResidents_14 : decode cL_drawerByResidents 14 = .ok (.ireturn, 1) := by decide +kernel
theorem dL_drawerByResidents_15 : decode cL_drawerByResidents 15 = .ok (.iconst 0, 1) := by decide +kernel
theorem dL_drawerByResidents_16 : decode cL_drawerByResidents 16 = .ok (.ireturn, 1) := by decide +kernel
theorem dL_meanSize_0 : decode cL_meanSize 0 = .ok (.aload_n 1, 1) := by decide +kernel
theorem dL_meanSize_1 : decode cL_meanSize 1 = .ok (.iconst 0, 1) := by decide +kernel
theorem dL_meanSize_2 : decode cL_meanSize 2 = .ok (.aload_n 0, 1) := by decide +kernel
theorem dL_meanSize_3 : decode cL_meanSize 3 = .ok (.invokevirtual 149, 3) := by decide +kernel
theorem dL_meanSize_6 : decode cL_meanSize 6 = .ok (.dastore, 1) := by decide +kernel
theorem dL_meanSize_7 : decode cL_meanSize 7 = .ok (.goto 6, 3) := by decide +kernel
theorem dL_meanSize_10 : decode cL_meanSize 10 = .ok (.astore_n 2, 1) := by decide +kernel
theorem dL_meanSize_11 : decode cL_meanSize 11 = .ok (.iconst 1, 1) := by decide +kernel
theorem dL_meanSize_12 : decode cL_meanSize 12 = .ok (.ireturn, 1) := by decide +kernel
theorem dL_meanSize_13 : decode cL_meanSize 13 = .ok (.iconst 0, 1) := by decide +kernel
theorem dL_meanSize_14 : decode cL_meanSize 14 = .ok (.ireturn, 1) := by decide +kernel
theorem dL_residentShare_0 : decode cL_residentShare 0 = .ok (.aload_n 1, 1) := by decide +kernel
theorem dL_residentShare_1 : decode cL_residentShare 1 = .ok (.iconst 0, 1) := by decide +kernel
theorem dL_residentShare_2 : decode cL_residentShare 2 = .ok (.aload_n 0, 1) := by decide +kernel
theorem dL_residentShare_3 : decode cL_residentShare 3 = .ok (.invokevirtual 155, 3) := by decide +kernel
theorem dL_residentShare_6 : decode cL_residentShare 6 = .ok (.f2d, 1) := by decide +kernel
theorem dL_residentShare_7 : decode cL_residentShare 7 = .ok (.dastore, 1) := by decide +kernel
theorem dL_residentShare_8 : decode cL_residentShare 8 = .ok (.goto 6, 3) := by decide +kernel
theorem dL_residentShare_11 : decode cL_residentShare 11 = .ok (.astore_n 2, 1) := by decide +kernel
theorem dL_residentShare_12 : decode cL_residentShare 12 = .ok (.iconst 1, 1) := by decide +kernel
theorem dL_residentShare_13 : decode cL_residentShare 13 = .ok (.ireturn, 1) := by decide +kernel
theorem dL_residentShare_14 : decode cL_residentShare 14 = .ok (.iconst 0, 1) := by decide +kernel
theorem dL_residentShare_15 : decode cL_residentShare 15 = .ok (.ireturn, 1) := by decide +kernel
theorem dL_writeSock_0 : decode cL_writeSock 0 = .ok (.aload_n 2, 1) := by decide +kernel
theorem dL_writeSock_1 : decode cL_writeSock 1 = .ok (.iconst 0, 1) := by decide +kernel
theorem dL_writeSock_2 : decode cL_writeSock 2 = .ok (.aload_n 0, 1) := by decide +kernel
theorem dL_writeSock_3 : decode cL_writeSock 3 = .ok (.iload_n 1, 1) := by decide +kernel
theorem dL_writeSock_4 : decode cL_writeSock 4 = .ok (.invokevirtual 159, 3) := by decide +kernel
theorem dL_writeSock_7 : decode cL_writeSock 7 = .ok (.i2l, 1) := by decide +kernel
theorem dL_writeSock_8 : decode cL_writeSock 8 = .ok (.lastore, 1) := by decide +kernel
theorem dL_writeSock_9 : decode cL_writeSock 9 = .ok (.goto 6, 3) := by decide +kernel
theorem dL_writeSock_12 : decode cL_writeSock 12 = .ok (.astore_n 3, 1) := by decide +kernel
theorem dL_writeSock_13 : decode cL_writeSock 13 = .ok (.iconst 1, 1) := by decide +kernel
theorem dL_writeSock_14 : decode cL_writeSock 14 = .ok (.ireturn, 1) := by decide +kernel
theorem dL_writeSock_15 : decode cL_writeSock 15 = .ok (.iconst 0, 1) := by decide +kernel
theorem dL_writeSock_16 : decode cL_writeSock 16 = .ok (.ireturn, 1) := by decide +kernel
theorem dL_outputAt_0 : decode cL_outputAt 0 = .ok (.aload_n 2, 1) := by decide +kernel
theorem dL_outputAt_1 : decode cL_outputAt 1 = .ok (.iconst 0, 1) := by decide +kernel
theorem dL_outputAt_2 : decode cL_outputAt 2 = .ok (.aload_n 0, 1) := by decide +kernel
theorem dL_outputAt_3 : decode cL_outputAt 3 = .ok (.iload_n 1, 1) := by decide +kernel
theorem dL_outputAt_4 : decode cL_outputAt 4 = .ok (.invokevirtual 162, 3) := by decide +kernel
theorem dL_outputAt_7 : decode cL_outputAt 7 = .ok (.i2l, 1) := by decide +kernel
theorem dL_outputAt_8 : decode cL_outputAt 8 = .ok (.lastore, 1) := by decide +kernel
theorem dL_outputAt_9 : decode cL_outputAt 9 = .ok (.goto 6, 3) := by decide +kernel
theorem dL_outputAt_12 : decode cL_outputAt 12 = .ok (.astore_n 3, 1) := by decide +kernel
theorem dL_outputAt_13 : decode cL_outputAt 13 = .ok (.iconst 1, 1) := by decide +kernel
theorem dL_outputAt_14 : decode cL_outputAt 14 = .ok (.ireturn, 1) := by decide +kernel
theorem dL_outputAt_15 : decode cL_outputAt 15 = .ok (.iconst 0, 1) := by decide +kernel
theorem dL_outputAt_16 : decode cL_outputAt 16 = .ok (.ireturn, 1) := by decide +kernel
theorem dL_appendInput_0 : decode cL_appendInput 0 = .ok (.aload_n 2, 1) := by decide +kernel
theorem dL_appendInput_1 : decode cL_appendInput 1 = .ok (.iconst 0, 1) := by decide +kernel
theorem dL_appendInput_2 : decode cL_appendInput 2 = .ok (.aload_n 0, 1) := by decide +kernel
theorem dL_appendInput_3 : decode cL_appendInput 3 = .ok (.iload_n 1, 1) := by decide +kernel
theorem dL_appendInput_4 : decode cL_appendInput 4 = .ok (.invokevirtual 165, 3) := by decide +kernel
theorem dL_appendInput_7 : decode cL_appendInput 7 = .ok (.i2l, 1) := by decide +kernel
theorem dL_appendInput_8 : decode cL_appendInput 8 = .ok (.lastore, 1) := by decide +kernel
theorem dL_appendInput_9 : decode cL_appendInput 9 = .ok (.goto 9, 3) := by decide +kernel
theorem dL_appendInput_12 : decode cL_appendInput 12 = .ok (.astore_n 3, 1) := by decide +kernel
theorem dL_appendInput_13 : decode cL_appendInput 13 = .ok (.iconst 1, 1) := by decide +kernel
theorem dL_appendInput_14 : decode cL_appendInput 14 = .ok (.ireturn, 1) := by decide +kernel
theorem dL_appendInput_15 : decode cL_appendInput 15 = .ok (.astore_n 3, 1) := by decide +kernel
theorem dL_appendInput_16 : decode cL_appendInput 16 = .ok (.iconst 2, 1) := by decide +kernel
theorem dL_appendInput_17 : decode cL_appendInput 17 = .ok (.ireturn, 1) := by decide +kernel
theorem dL_appendInput_18 : decode cL_appendInput 18 = .ok (.iconst 0, 1) := by decide +kernel
theorem dL_appendInput_19 : decode cL_appendInput 19 = .ok (.ireturn, 1) := by decide +kernel
theorem dL_execute_0 : decode cL_execute 0 = .ok (.aload_n 1, 1) := by decide +kernel
theorem dL_execute_1 : decode cL_execute 1 = .ok (.iconst 0, 1) := by decide +kernel
theorem dL_execute_2 : decode cL_execute 2 = .ok (.aload_n 0, 1) := by decide +kernel
theorem dL_execute_3 : decode cL_execute 3 = .ok (.invokevirtual 171, 3) := by decide +kernel
theorem dL_execute_6 : decode cL_execute 6 = .ok (.i2l, 1) := by decide +kernel
theorem dL_execute_7 : decode cL_execute 7 = .ok (.lastore, 1) := by decide +kernel
theorem dL_execute_8 : decode cL_execute 8 = .ok (.goto 12, 3) := by decide +kernel
theorem dL_execute_11 : decode cL_execute 11 = .ok (.astore_n 2, 1) := by decide +kernel
theorem dL_execute_12 : decode cL_execute 12 = .ok (.iconst 1, 1) := by decide +kernel
theorem dL_execute_13 : decode cL_execute 13 = .ok (.ireturn, 1) := by decide +kernel
theorem dL_execute_14 : decode cL_execute 14 = .ok (.astore_n 2, 1) := by decide +kernel
theorem dL_execute_15 : decode cL_execute 15 = .ok (.iconst 2, 1) := by decide +kernel
theorem dL_execute_16 : decode cL_execute 16 = .ok (.ireturn, 1) := by decide +kernel
theorem dL_execute_17 : decode cL_execute 17 = .ok (.astore_n 2, 1) := by decide +kernel
theorem dL_execute_18 : decode cL_execute 18 = .ok (.iconst 3, 1) := by decide +kernel
theorem dL_execute_19 : decode cL_execute 19 = .ok (.ireturn, 1) := by decide +kernel
theorem dL_execute_20 : decode cL_execute 20 = .ok (.iconst 0, 1) := by decide +kernel
theorem dL_execute_21 : decode cL_execute 21 = .ok (.ireturn, 1) := by decide +kernel
theorem dL_syntaxErrorOffset_0 : decode cL_syntaxErrorOffset 0 = .ok (.aload_n 1, 1) := by decide +kernel
theorem dL_syntaxErrorOffset_1 : decode cL_syntaxErrorOffset 1 = .ok (.iconst 0, 1) := by decide +kernel
theorem dL_syntaxErrorOffset_2 : decode cL_syntaxErrorOffset 2 = .ok (.aload_n 0, 1) := by decide +kernel
theorem dL_syntaxErrorOffset_3 : decode cL_syntaxErrorOffset 3 = .ok (.invokevirtual 175, 3) := by decide +kernel
theorem dL_syntaxErrorOffset_6 : decode cL_syntaxErrorOffset 6 = .ok (.i2l, 1) := by decide +kernel
theorem dL_syntaxErrorOffset_7 : decode cL_syntaxErrorOffset 7 = .ok (.lastore, 1) := by decide +kernel
theorem dL_syntaxErrorOffset_8 : decode cL_syntaxErrorOffset 8 = .ok (.goto 6, 3) := by decide +kernel
theorem dL_syntaxErrorOffset_11 : decode cL_syntaxErrorOffset 11 = .ok (.astore_n 2, 1) := by decide +kernel
theorem dL_syntaxErrorOffset_12 : decode cL_syntaxErrorOffset 12 = .ok (.iconst 1, 1) := by decide +kernel
theorem dL_syntaxErrorOffset_13 : decode cL_syntaxErrorOffset 13 = .ok (.ireturn, 1) := by decide +kernel
theorem dL_syntaxErrorOffset_14 : decode cL_syntaxErrorOffset 14 = .ok (.iconst 0, 1) := by decide +kernel
theorem dL_syntaxErrorOffset_15 : decode cL_syntaxErrorOffset 15 = .ok (.ireturn, 1) := by decide +kernel
theorem dL_rejectionReason_0 : decode cL_rejectionReason 0 = .ok (.aload_n 1, 1) := by decide +kernel
theorem dL_rejectionReason_1 : decode cL_rejectionReason 1 = .ok (.iconst 0, 1) := by decide +kernel
theorem dL_rejectionReason_2 : decode cL_rejectionReason 2 = .ok (.aload_n 0, 1) := by decide +kernel
theorem dL_rejectionReason_3 : decode cL_rejectionReason 3 = .ok (.invokevirtual 178, 3) := by decide +kernel
theorem dL_rejectionReason_6 : decode cL_rejectionReason 6 = .ok (.i2l, 1) := by decide +kernel
theorem dL_rejectionReason_7 : decode cL_rejectionReason 7 = .ok (.lastore, 1) := by decide +kernel
theorem dL_rejectionReason_8 : decode cL_rejectionReason 8 = .ok (.goto 6, 3) := by decide +kernel
theorem dL_rejectionReason_11 : decode cL_rejectionReason 11 = .ok (.astore_n 2, 1) := by decide +kernel
theorem dL_rejectionReason_12 : decode cL_rejectionReason 12 = .ok (.iconst 1, 1) := by decide +kernel
theorem dL_rejectionReason_13 : decode cL_rejectionReason 13 = .ok (.ireturn, 1) := by decide +kernel
theorem dL_rejectionReason_14 : decode cL_rejectionReason 14 = .ok (.iconst 0, 1) := by decide +kernel
theorem dL_rejectionReason_15 : decode cL_rejectionReason 15 = .ok (.ireturn, 1) := by decide +kernel
theorem dL_rejectionDetail_0 : decode cL_rejectionDetail 0 = .ok (.aload_n 1, 1) := by decide +kernel
theorem dL_rejectionDetail_1 : decode cL_rejectionDetail 1 = .ok (.iconst 0, 1) := by decide +kernel
theorem dL_rejectionDetail_2 : decode cL_rejectionDetail 2 = .ok (.aload_n 0, 1) := by decide +kernel
theorem dL_rejectionDetail_3 : decode cL_rejectionDetail 3 = .ok (.invokevirtual 181, 3) := by decide +kernel
theorem dL_rejectionDetail_6 : decode cL_rejectionDetail 6 = .ok (.i2l, 1) := by decide +kernel
theorem dL_rejectionDetail_7 : decode cL_rejectionDetail 7 = .ok (.lastore, 1) := by decide +kernel
theorem dL_rejectionDetail_8 : decode cL_rejectionDetail 8 = .ok (.goto 6, 3) := by decide +kernel
theorem dL_rejectionDetail_11 : decode cL_rejectionDetail 11 = .ok (.astore_n 2, 1) := by decide +kernel
theorem dL_rejectionDetail_12 : decode cL_rejectionDetail 12 = .ok (.iconst 1, 1) := by decide +kernel
theorem dL_rejectionDetail_13 : decode cL_rejectionDetail 13 = .ok (.ireturn, 1) := by decide +kernel
theorem dL_rejectionDetail_14 : decode cL_rejectionDetail 14 = .ok (.iconst 0, 1) := by decide +kernel
theorem dL_rejectionDetail_15 : decode cL_rejectionDetail 15 = .ok (.ireturn, 1) := by decide +kernel
theorem dL_causeReason_0 : decode cL_causeReason 0 = .ok (.aload_n 1, 1) := by decide +kernel
theorem dL_causeReason_1 : decode cL_causeReason 1 = .ok (.iconst 0, 1) := by decide +kernel
theorem dL_causeReason_2 : decode cL_causeReason 2 = .ok (.aload_n 0, 1) := by decide +kernel
theorem dL_causeReason_3 : decode cL_causeReason 3 = .ok (.invokevirtual 184, 3) := by decide +kernel
theorem dL_causeReason_6 : decode cL_causeReason 6 = .ok (.i2l, 1) := by decide +kernel
theorem dL_causeReason_7 : decode cL_causeReason 7 = .ok (.lastore, 1) := by decide +kernel
theorem dL_causeReason_8 : decode cL_causeReason 8 = .ok (.goto 6, 3) := by decide +kernel
theorem dL_causeReason_11 : decode cL_causeReason 11 = .ok (.astore_n 2, 1) := by decide +kernel
theorem dL_causeReason_12 : decode cL_causeReason 12 = .ok (.iconst 1, 1) := by decide +kernel
theorem dL_causeReason_13 : decode cL_causeReason 13 = .ok (.ireturn, 1) := by decide +kernel
theorem dL_causeReason_14 : decode cL_causeReason 14 = .ok (.iconst 0, 1) := by decide +kernel
theorem dL_causeReason_15 : decode cL_causeReason 15 = .ok (.ireturn, 1) := by decide +kernel
theorem dL_undo_0 : decode cL_undo 0 = .ok (.aload_n 1, 1) := by decide +kernel
theorem dL_undo_1 : decode cL_undo 1 = .ok (.iconst 0, 1) := by decide +kernel
theorem dL_undo_2 : decode cL_undo 2 = .ok (.aload_n 0, 1) := by decide +kernel
theorem dL_undo_3 : decode cL_undo 3 = .ok (.invokevirtual 187, 3) := by decide +kernel
theorem dL_undo_6 : decode cL_undo 6 = .ok (.i2l, 1) := by decide +kernel
theorem dL_undo_7 : decode cL_undo 7 = .ok (.lastore, 1) := by decide +kernel
theorem dL_undo_8 : decode cL_undo 8 = .ok (.goto 6, 3) := by decide +kernel
theorem dL_undo_11 : decode cL_undo 11 = .ok (.astore_n 2, 1) := by decide +kernel
theorem dL_undo_12 : decode cL_undo 12 = .ok (.iconst 1, 1) := by decide +kernel
theorem dL_undo_13 : decode cL_undo 13 = .ok (.ireturn, 1) := by decide +kernel
theorem dL_undo_14 : decode cL_undo 14 = .ok (.iconst 0, 1) := by decide +kernel
theorem dL_undo_15 : decode cL_undo 15 = .ok (.ireturn, 1) := by decide +kernel
theorem dL_restoreSnapshot_0 : decode cL_restoreSnapshot 0 = .ok (.aload_n 1, 1) := by decide +kernel
theorem dL_restoreSnapshot_1 : decode cL_restoreSnapshot 1 = .ok (.iconst 0, 1) := by decide +kernel
theorem dL_restoreSnapshot_2 : decode cL_restoreSnapshot 2 = .ok (.aload_n 0, 1) := by decide +kernel
theorem dL_restoreSnapshot_3 : decode cL_restoreSnapshot 3 = .ok (.invokevirtual 190, 3) := by decide +kernel
theorem dL_restoreSnapshot_6 : decode cL_restoreSnapshot 6 = .ok (.i2l, 1) := by decide +kernel
theorem dL_restoreSnapshot_7 : decode cL_restoreSnapshot 7 = .ok (.lastore, 1) := by decide +kernel
theorem dL_restoreSnapshot_8 : decode cL_restoreSnapshot 8 = .ok (.goto 6, 3) := by decide +kernel
theorem dL_restoreSnapshot_11 : decode cL_restoreSnapshot 11 = .ok (.astore_n 2, 1) := by decide +kernel
theorem dL_restoreSnapshot_12 : decode cL_restoreSnapshot 12 = .ok (.iconst 1, 1) := by decide +kernel
theorem dL_restoreSnapshot_13 : decode cL_restoreSnapshot 13 = .ok (.ireturn, 1) := by decide +kernel
theorem dL_restoreSnapshot_14 : decode cL_restoreSnapshot 14 = .ok (.iconst 0, 1) := by decide +kernel
theorem dL_restoreSnapshot_15 : decode cL_restoreSnapshot 15 = .ok (.ireturn, 1) := by decide +kernel
