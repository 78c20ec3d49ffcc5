/-! names of the law's helpers (printed by g78.py) -/
abbrev bL_append : ByteArray := method_3_code
def yL_append : MethodName := ⟨"ChannelScheduleLaw", "append", "(LChannelSchedule;IIIII[J)I"⟩
theorem dL_append_0 : decode bL_append 0 = .ok (.aload 6, 2) := by decide +kernel
theorem dL_append_2 : decode bL_append 2 = .ok (.iconst 0, 1) := by decide +kernel
theorem dL_append_3 : decode bL_append 3 = .ok (.aload_n 0, 1) := by decide +kernel
theorem dL_append_4 : decode bL_append 4 = .ok (.iload_n 1, 1) := by decide +kernel
theorem dL_append_5 : decode bL_append 5 = .ok (.iload_n 2, 1) := by decide +kernel
theorem dL_append_6 : decode bL_append 6 = .ok (.iload_n 3, 1) := by decide +kernel
theorem dL_append_7 : decode bL_append 7 = .ok (.iload 4, 2) := by decide +kernel
theorem dL_append_9 : decode bL_append 9 = .ok (.iload 5, 2) := by decide +kernel
theorem dL_append_11 : decode bL_append 11 = .ok (.invokevirtual 7, 3) := by decide +kernel
theorem dL_append_14 : decode bL_append 14 = .ok (.i2l, 1) := by decide +kernel
theorem dL_append_15 : decode bL_append 15 = .ok (.lastore, 1) := by decide +kernel
theorem dL_append_16 : decode bL_append 16 = .ok (.goto 7, 3) := by decide +kernel
theorem dL_append_19 : decode bL_append 19 = .ok (.astore 7, 2) := by decide +kernel
theorem dL_append_21 : decode bL_append 21 = .ok (.iconst 1, 1) := by decide +kernel
theorem dL_append_22 : decode bL_append 22 = .ok (.ireturn, 1) := by decide +kernel
theorem dL_append_23 : decode bL_append 23 = .ok (.iconst 0, 1) := by decide +kernel
theorem dL_append_24 : decode bL_append 24 = .ok (.ireturn, 1) := by decide +kernel
abbrev bL_truncate : ByteArray := method_4_code
def yL_truncate : MethodName := ⟨"ChannelScheduleLaw", "truncate", "(LChannelSchedule;I[J)I"⟩
theorem dL_truncate_0 : decode bL_truncate 0 = .ok (.aload_n 2, 1) := by decide +kernel
theorem dL_truncate_1 : decode bL_truncate 1 = .ok (.iconst 0, 1) := by decide +kernel
theorem dL_truncate_2 : decode bL_truncate 2 = .ok (.aload_n 0, 1) := by decide +kernel
theorem dL_truncate_3 : decode bL_truncate 3 = .ok (.iload_n 1, 1) := by decide +kernel
theorem dL_truncate_4 : decode bL_truncate 4 = .ok (.invokevirtual 15, 3) := by decide +kernel
theorem dL_truncate_7 : decode bL_truncate 7 = .ok (.i2l, 1) := by decide +kernel
theorem dL_truncate_8 : decode bL_truncate 8 = .ok (.lastore, 1) := by decide +kernel
theorem dL_truncate_9 : decode bL_truncate 9 = .ok (.goto 6, 3) := by decide +kernel
theorem dL_truncate_12 : decode bL_truncate 12 = .ok (.astore_n 3, 1) := by decide +kernel
theorem dL_truncate_13 : decode bL_truncate 13 = .ok (.iconst 1, 1) := by decide +kernel
theorem dL_truncate_14 : decode bL_truncate 14 = .ok (.ireturn, 1) := by decide +kernel
theorem dL_truncate_15 : decode bL_truncate 15 = .ok (.iconst 0, 1) := by decide +kernel
theorem dL_truncate_16 : decode bL_truncate 16 = .ok (.ireturn, 1) := by decide +kernel
abbrev bL_load : ByteArray := method_5_code
def yL_load : MethodName := ⟨"ChannelScheduleLaw", "load", "(LChannelSchedule;[J)I"⟩
theorem dL_load_0 : decode bL_load 0 = .ok (.aload_n 1, 1) := by decide +kernel
theorem dL_load_1 : decode bL_load 1 = .ok (.iconst 0, 1) := by decide +kernel
theorem dL_load_2 : decode bL_load 2 = .ok (.aload_n 0, 1) := by decide +kernel
theorem dL_load_3 : decode bL_load 3 = .ok (.invokevirtual 21, 3) := by decide +kernel
theorem dL_load_6 : decode bL_load 6 = .ok (.i2l, 1) := by decide +kernel
theorem dL_load_7 : decode bL_load 7 = .ok (.lastore, 1) := by decide +kernel
theorem dL_load_8 : decode bL_load 8 = .ok (.goto 6, 3) := by decide +kernel
theorem dL_load_11 : decode bL_load 11 = .ok (.astore_n 2, 1) := by decide +kernel
theorem dL_load_12 : decode bL_load 12 = .ok (.iconst 1, 1) := by decide +kernel
theorem dL_load_13 : decode bL_load 13 = .ok (.ireturn, 1) := by decide +kernel
theorem dL_load_14 : decode bL_load 14 = .ok (.iconst 0, 1) := by decide +kernel
theorem dL_load_15 : decode bL_load 15 = .ok (.ireturn, 1) := by decide +kernel
abbrev bL_transitTime : ByteArray := method_6_code
def yL_transitTime : MethodName := ⟨"ChannelScheduleLaw", "transitTime", "(LChannelSchedule;I[J)I"⟩
theorem dL_transitTime_0 : decode bL_transitTime 0 = .ok (.aload_n 2, 1) := by decide +kernel
theorem dL_transitTime_1 : decode bL_transitTime 1 = .ok (.iconst 0, 1) := by decide +kernel
theorem dL_transitTime_2 : decode bL_transitTime 2 = .ok (.aload_n 0, 1) := by decide +kernel
theorem dL_transitTime_3 : decode bL_transitTime 3 = .ok (.iload_n 1, 1) := by decide +kernel
theorem dL_transitTime_4 : decode bL_transitTime 4 = .ok (.invokevirtual 25, 3) := by decide +kernel
theorem dL_transitTime_7 : decode bL_transitTime 7 = .ok (.i2l, 1) := by decide +kernel
theorem dL_transitTime_8 : decode bL_transitTime 8 = .ok (.lastore, 1) := by decide +kernel
theorem dL_transitTime_9 : decode bL_transitTime 9 = .ok (.goto 6, 3) := by decide +kernel
theorem dL_transitTime_12 : decode bL_transitTime 12 = .ok (.astore_n 3, 1) := by decide +kernel
theorem dL_transitTime_13 : decode bL_transitTime 13 = .ok (.iconst 1, 1) := by decide +kernel
theorem dL_transitTime_14 : decode bL_transitTime 14 = .ok (.ireturn, 1) := by decide +kernel
theorem dL_transitTime_15 : decode bL_transitTime 15 = .ok (.iconst 0, 1) := by decide +kernel
theorem dL_transitTime_16 : decode bL_transitTime 16 = .ok (.ireturn, 1) := by decide +kernel
abbrev bL_iceClass : ByteArray := method_7_code
def yL_iceClass : MethodName := ⟨"ChannelScheduleLaw", "iceClass", "(LChannelSchedule;I[J)I"⟩
theorem dL_iceClass_0 : decode bL_iceClass 0 = .ok (.aload_n 2, 1) := by decide +kernel
theorem dL_iceClass_1 : decode bL_iceClass 1 = .ok (.iconst 0, 1) := by decide +kernel
theorem dL_iceClass_2 : decode bL_iceClass 2 = .ok (.aload_n 0, 1) := by decide +kernel
theorem dL_iceClass_3 : decode bL_iceClass 3 = .ok (.iload_n 1, 1) := by decide +kernel
theorem dL_iceClass_4 : decode bL_iceClass 4 = .ok (.invokevirtual 30, 3) := by decide +kernel
theorem dL_iceClass_7 : decode bL_iceClass 7 = .ok (.i2l, 1) := by decide +kernel
theorem dL_iceClass_8 : decode bL_iceClass 8 = .ok (.lastore, 1) := by decide +kernel
theorem dL_iceClass_9 : decode bL_iceClass 9 = .ok (.goto 6, 3) := by decide +kernel
theorem dL_iceClass_12 : decode bL_iceClass 12 = .ok (.astore_n 3, 1) := by decide +kernel
theorem dL_iceClass_13 : decode bL_iceClass 13 = .ok (.iconst 1, 1) := by decide +kernel
theorem dL_iceClass_14 : decode bL_iceClass 14 = .ok (.ireturn, 1) := by decide +kernel
theorem dL_iceClass_15 : decode bL_iceClass 15 = .ok (.iconst 0, 1) := by decide +kernel
theorem dL_iceClass_16 : decode bL_iceClass 16 = .ok (.ireturn, 1) := by decide +kernel
abbrev bL_weight : ByteArray := method_8_code
def yL_weight : MethodName := ⟨"ChannelScheduleLaw", "weight", "(LChannelSchedule;I[J)I"⟩
theorem dL_weight_0 : decode bL_weight 0 = .ok (.aload_n 2, 1) := by decide +kernel
theorem dL_weight_1 : decode bL_weight 1 = .ok (.iconst 0, 1) := by decide +kernel
theorem dL_weight_2 : decode bL_weight 2 = .ok (.aload_n 0, 1) := by decide +kernel
theorem dL_weight_3 : decode bL_weight 3 = .ok (.iload_n 1, 1) := by decide +kernel
theorem dL_weight_4 : decode bL_weight 4 = .ok (.invokevirtual 33, 3) := by decide +kernel
theorem dL_weight_7 : decode bL_weight 7 = .ok (.i2l, 1) := by decide +kernel
theorem dL_weight_8 : decode bL_weight 8 = .ok (.lastore, 1) := by decide +kernel
theorem dL_weight_9 : decode bL_weight 9 = .ok (.goto 6, 3) := by decide +kernel
theorem dL_weight_12 : decode bL_weight 12 = .ok (.astore_n 3, 1) := by decide +kernel
theorem dL_weight_13 : decode bL_weight 13 = .ok (.iconst 1, 1) := by decide +kernel
theorem dL_weight_14 : decode bL_weight 14 = .ok (.ireturn, 1) := by decide +kernel
theorem dL_weight_15 : decode bL_weight 15 = .ok (.iconst 0, 1) := by decide +kernel
theorem dL_weight_16 : decode bL_weight 16 = .ok (.ireturn, 1) := by decide +kernel
abbrev bL_shipNameByte : ByteArray := method_9_code
def yL_shipNameByte : MethodName := ⟨"ChannelScheduleLaw", "shipNameByte", "(LChannelSchedule;II[J)I"⟩
theorem dL_shipNameByte_0 : decode bL_shipNameByte 0 = .ok (.aload_n 3, 1) := by decide +kernel
theorem dL_shipNameByte_1 : decode bL_shipNameByte 1 = .ok (.iconst 0, 1) := by decide +kernel
theorem dL_shipNameByte_2 : decode bL_shipNameByte 2 = .ok (.aload_n 0, 1) := by decide +kernel
theorem dL_shipNameByte_3 : decode bL_shipNameByte 3 = .ok (.iload_n 1, 1) := by decide +kernel
theorem dL_shipNameByte_4 : decode bL_shipNameByte 4 = .ok (.iload_n 2, 1) := by decide +kernel
theorem dL_shipNameByte_5 : decode bL_shipNameByte 5 = .ok (.invokevirtual 36, 3) := by decide +kernel
theorem dL_shipNameByte_8 : decode bL_shipNameByte 8 = .ok (.i2l, 1) := by decide +kernel
theorem dL_shipNameByte_9 : decode bL_shipNameByte 9 = .ok (.lastore, 1) := by decide +kernel
theorem dL_shipNameByte_10 : decode bL_shipNameByte 10 = .ok (.goto 7, 3) := by decide +kernel
theorem dL_shipNameByte_13 : decode bL_shipNameByte 13 = .ok (.astore 4, 2) := by decide +kernel
theorem dL_shipNameByte_15 : decode bL_shipNameByte 15 = .ok (.iconst 1, 1) := by decide +kernel
theorem dL_shipNameByte_16 : decode bL_shipNameByte 16 = .ok (.ireturn, 1) := by decide +kernel
theorem dL_shipNameByte_17 : decode bL_shipNameByte 17 = .ok (.iconst 0, 1) := by decide +kernel
theorem dL_shipNameByte_18 : decode bL_shipNameByte 18 = .ok (.ireturn, 1) := by decide +kernel
abbrev bL_findShip : ByteArray := method_10_code
def yL_findShip : MethodName := ⟨"ChannelScheduleLaw", "findShip", "(LChannelSchedule;[J)I"⟩
theorem dL_findShip_0 : decode bL_findShip 0 = .ok (.aload_n 1, 1) := by decide +kernel
theorem dL_findShip_1 : decode bL_findShip 1 = .ok (.iconst 0, 1) := by decide +kernel
theorem dL_findShip_2 : decode bL_findShip 2 = .ok (.aload_n 0, 1) := by decide +kernel
theorem dL_findShip_3 : decode bL_findShip 3 = .ok (.invokevirtual 40, 3) := by decide +kernel
theorem dL_findShip_6 : decode bL_findShip 6 = .ok (.i2l, 1) := by decide +kernel
theorem dL_findShip_7 : decode bL_findShip 7 = .ok (.lastore, 1) := by decide +kernel
theorem dL_findShip_8 : decode bL_findShip 8 = .ok (.goto 6, 3) := by decide +kernel
theorem dL_findShip_11 : decode bL_findShip 11 = .ok (.astore_n 2, 1) := by decide +kernel
theorem dL_findShip_12 : decode bL_findShip 12 = .ok (.iconst 1, 1) := by decide +kernel
theorem dL_findShip_13 : decode bL_findShip 13 = .ok (.ireturn, 1) := by decide +kernel
theorem dL_findShip_14 : decode bL_findShip 14 = .ok (.iconst 0, 1) := by decide +kernel
theorem dL_findShip_15 : decode bL_findShip 15 = .ok (.ireturn, 1) := by decide +kernel
abbrev bL_bookedShip : ByteArray := method_11_code
def yL_bookedShip : MethodName := ⟨"ChannelScheduleLaw", "bookedShip", "(LChannelSchedule;I[J)I"⟩
theorem dL_bookedShip_0 : decode bL_bookedShip 0 = .ok (.aload_n 2, 1) := by decide +kernel
theorem dL_bookedShip_1 : decode bL_bookedShip 1 = .ok (.iconst 0, 1) := by decide +kernel
theorem dL_bookedShip_2 : decode bL_bookedShip 2 = .ok (.aload_n 0, 1) := by decide +kernel
theorem dL_bookedShip_3 : decode bL_bookedShip 3 = .ok (.iload_n 1, 1) := by decide +kernel
theorem dL_bookedShip_4 : decode bL_bookedShip 4 = .ok (.invokevirtual 45, 3) := by decide +kernel
theorem dL_bookedShip_7 : decode bL_bookedShip 7 = .ok (.i2l, 1) := by decide +kernel
theorem dL_bookedShip_8 : decode bL_bookedShip 8 = .ok (.lastore, 1) := by decide +kernel
theorem dL_bookedShip_9 : decode bL_bookedShip 9 = .ok (.goto 6, 3) := by decide +kernel
theorem dL_bookedShip_12 : decode bL_bookedShip 12 = .ok (.astore_n 3, 1) := by decide +kernel
theorem dL_bookedShip_13 : decode bL_bookedShip 13 = .ok (.iconst 1, 1) := by decide +kernel
theorem dL_bookedShip_14 : decode bL_bookedShip 14 = .ok (.ireturn, 1) := by decide +kernel
theorem dL_bookedShip_15 : decode bL_bookedShip 15 = .ok (.iconst 0, 1) := by decide +kernel
theorem dL_bookedShip_16 : decode bL_bookedShip 16 = .ok (.ireturn, 1) := by decide +kernel
abbrev bL_startMinute : ByteArray := method_12_code
def yL_startMinute : MethodName := ⟨"ChannelScheduleLaw", "startMinute", "(LChannelSchedule;I[J)I"⟩
theorem dL_startMinute_0 : decode bL_startMinute 0 = .ok (.aload_n 2, 1) := by decide +kernel
theorem dL_startMinute_1 : decode bL_startMinute 1 = .ok (.iconst 0, 1) := by decide +kernel
theorem dL_startMinute_2 : decode bL_startMinute 2 = .ok (.aload_n 0, 1) := by decide +kernel
theorem dL_startMinute_3 : decode bL_startMinute 3 = .ok (.iload_n 1, 1) := by decide +kernel
theorem dL_startMinute_4 : decode bL_startMinute 4 = .ok (.invokevirtual 48, 3) := by decide +kernel
theorem dL_startMinute_7 : decode bL_startMinute 7 = .ok (.i2l, 1) := by decide +kernel
theorem dL_startMinute_8 : decode bL_startMinute 8 = .ok (.lastore, 1) := by decide +kernel
theorem dL_startMinute_9 : decode bL_startMinute 9 = .ok (.goto 6, 3) := by decide +kernel
theorem dL_startMinute_12 : decode bL_startMinute 12 = .ok (.astore_n 3, 1) := by decide +kernel
theorem dL_startMinute_13 : decode bL_startMinute 13 = .ok (.iconst 1, 1) := by decide +kernel
theorem dL_startMinute_14 : decode bL_startMinute 14 = .ok (.ireturn, 1) := by decide +kernel
theorem dL_startMinute_15 : decode bL_startMinute 15 = .ok (.iconst 0, 1) := by decide +kernel
theorem dL_startMinute_16 : decode bL_startMinute 16 = .ok (.ireturn, 1) := by decide +kernel
abbrev bL_endMinute : ByteArray := method_13_code
def yL_endMinute : MethodName := ⟨"ChannelScheduleLaw", "endMinute", "(LChannelSchedule;I[J)I"⟩
theorem dL_endMinute_0 : decode bL_endMinute 0 = .ok (.aload_n 2, 1) := by decide +kernel
theorem dL_endMinute_1 : decode bL_endMinute 1 = .ok (.iconst 0, 1) := by decide +kernel
theorem dL_endMinute_2 : decode bL_endMinute 2 = .ok (.aload_n 0, 1) := by decide +kernel
theorem dL_endMinute_3 : decode bL_endMinute 3 = .ok (.iload_n 1, 1) := by decide +kernel
theorem dL_endMinute_4 : decode bL_endMinute 4 = .ok (.invokevirtual 51, 3) := by decide +kernel
theorem dL_endMinute_7 : decode bL_endMinute 7 = .ok (.i2l, 1) := by decide +kernel
theorem dL_endMinute_8 : decode bL_endMinute 8 = .ok (.lastore, 1) := by decide +kernel
theorem dL_endMinute_9 : decode bL_endMinute 9 = .ok (.goto 6, 3) := by decide +kernel
theorem dL_endMinute_12 : decode bL_endMinute 12 = .ok (.astore_n 3, 1) := by decide +kernel
theorem dL_endMinute_13 : decode bL_endMinute 13 = .ok (.iconst 1, 1) := by decide +kernel
theorem dL_endMinute_14 : decode bL_endMinute 14 = .ok (.ireturn, 1) := by decide +kernel
theorem dL_endMinute_15 : decode bL_endMinute 15 = .ok (.iconst 0, 1) := by decide +kernel
theorem dL_endMinute_16 : decode bL_endMinute 16 = .ok (.ireturn, 1) := by decide +kernel
abbrev bL_isInbound : ByteArray := method_14_code
def yL_isInbound : MethodName := ⟨"ChannelScheduleLaw", "isInbound", "(LChannelSchedule;I[J)I"⟩
theorem dL_isInbound_0 : decode bL_isInbound 0 = .ok (.aload_n 2, 1) := by decide +kernel
theorem dL_isInbound_1 : decode bL_isInbound 1 = .ok (.iconst 0, 1) := by decide +kernel
theorem dL_isInbound_2 : decode bL_isInbound 2 = .ok (.aload_n 0, 1) := by decide +kernel
theorem dL_isInbound_3 : decode bL_isInbound 3 = .ok (.iload_n 1, 1) := by decide +kernel
theorem dL_isInbound_4 : decode bL_isInbound 4 = .ok (.invokevirtual 54, 3) := by decide +kernel
theorem dL_isInbound_7 : decode bL_isInbound 7 = .ok (.ifCond .eq 7, 3) := by decide +kernel
theorem dL_isInbound_10 : decode bL_isInbound 10 = .ok (.lconst 1, 1) := by decide +kernel
theorem dL_isInbound_11 : decode bL_isInbound 11 = .ok (.goto 4, 3) := by decide +kernel
theorem dL_isInbound_14 : decode bL_isInbound 14 = .ok (.lconst 0, 1) := by decide +kernel
theorem dL_isInbound_15 : decode bL_isInbound 15 = .ok (.lastore, 1) := by decide +kernel
theorem dL_isInbound_16 : decode bL_isInbound 16 = .ok (.goto 6, 3) := by decide +kernel
theorem dL_isInbound_19 : decode bL_isInbound 19 = .ok (.astore_n 3, 1) := by decide +kernel
theorem dL_isInbound_20 : decode bL_isInbound 20 = .ok (.iconst 1, 1) := by decide +kernel
theorem dL_isInbound_21 : decode bL_isInbound 21 = .ok (.ireturn, 1) := by decide +kernel
theorem dL_isInbound_22 : decode bL_isInbound 22 = .ok (.iconst 0, 1) := by decide +kernel
theorem dL_isInbound_23 : decode bL_isInbound 23 = .ok (.ireturn, 1) := by decide +kernel
abbrev bL_isFinished : ByteArray := method_15_code
def yL_isFinished : MethodName := ⟨"ChannelScheduleLaw", "isFinished", "(LChannelSchedule;I[J)I"⟩
theorem dL_isFinished_0 : decode bL_isFinished 0 = .ok (.aload_n 2, 1) := by decide +kernel
theorem dL_isFinished_1 : decode bL_isFinished 1 = .ok (.iconst 0, 1) := by decide +kernel
theorem dL_isFinished_2 : decode bL_isFinished 2 = .ok (.aload_n 0, 1) := by decide +kernel
theorem dL_isFinished_3 : decode bL_isFinished 3 = .ok (.iload_n 1, 1) := by decide +kernel
theorem dL_isFinished_4 : decode bL_isFinished 4 = .ok (.invokevirtual 58, 3) := by decide +kernel
theorem dL_isFinished_7 : decode bL_isFinished 7 = .ok (.ifCond .eq 7, 3) := by decide +kernel
theorem dL_isFinished_10 : decode bL_isFinished 10 = .ok (.lconst 1, 1) := by decide +kernel
theorem dL_isFinished_11 : decode bL_isFinished 11 = .ok (.goto 4, 3) := by decide +kernel
theorem dL_isFinished_14 : decode bL_isFinished 14 = .ok (.lconst 0, 1) := by decide +kernel
theorem dL_isFinished_15 : decode bL_isFinished 15 = .ok (.lastore, 1) := by decide +kernel
theorem dL_isFinished_16 : decode bL_isFinished 16 = .ok (.goto 6, 3) := by decide +kernel
theorem dL_isFinished_19 : decode bL_isFinished 19 = .ok (.astore_n 3, 1) := by decide +kernel
theorem dL_isFinished_20 : decode bL_isFinished 20 = .ok (.iconst 1, 1) := by decide +kernel
theorem dL_isFinished_21 : decode bL_isFinished 21 = .ok (.ireturn, 1) := by decide +kernel
theorem dL_isFinished_22 : decode bL_isFinished 22 = .ok (.iconst 0, 1) := by decide +kernel
theorem dL_isFinished_23 : decode bL_isFinished 23 = .ok (.ireturn, 1) := by decide +kernel
abbrev bL_isUnderWay : ByteArray := method_16_code
def yL_isUnderWay : MethodName := ⟨"ChannelScheduleLaw", "isUnderWay", "(LChannelSchedule;I[J)I"⟩
theorem dL_isUnderWay_0 : decode bL_isUnderWay 0 = .ok (.aload_n 2, 1) := by decide +kernel
theorem dL_isUnderWay_1 : decode bL_isUnderWay 1 = .ok (.iconst 0, 1) := by decide +kernel
theorem dL_isUnderWay_2 : decode bL_isUnderWay 2 = .ok (.aload_n 0, 1) := by decide +kernel
theorem dL_isUnderWay_3 : decode bL_isUnderWay 3 = .ok (.iload_n 1, 1) := by decide +kernel
theorem dL_isUnderWay_4 : decode bL_isUnderWay 4 = .ok (.invokevirtual 61, 3) := by decide +kernel
theorem dL_isUnderWay_7 : decode bL_isUnderWay 7 = .ok (.ifCond .eq 7, 3) := by decide +kernel
theorem dL_isUnderWay_10 : decode bL_isUnderWay 10 = .ok (.lconst 1, 1) := by decide +kernel
theorem dL_isUnderWay_11 : decode bL_isUnderWay 11 = .ok (.goto 4, 3) := by decide +kernel
theorem dL_isUnderWay_14 : decode bL_isUnderWay 14 = .ok (.lconst 0, 1) := by decide +kernel
theorem dL_isUnderWay_15 : decode bL_isUnderWay 15 = .ok (.lastore, 1) := by decide +kernel
theorem dL_isUnderWay_16 : decode bL_isUnderWay 16 = .ok (.goto 6, 3) := by decide +kernel
theorem dL_isUnderWay_19 : decode bL_isUnderWay 19 = .ok (.astore_n 3, 1) := by decide +kernel
theorem dL_isUnderWay_20 : decode bL_isUnderWay 20 = .ok (.iconst 1, 1) := by decide +kernel
theorem dL_isUnderWay_21 : decode bL_isUnderWay 21 = .ok (.ireturn, 1) := by decide +kernel
theorem dL_isUnderWay_22 : decode bL_isUnderWay 22 = .ok (.iconst 0, 1) := by decide +kernel
theorem dL_isUnderWay_23 : decode bL_isUnderWay 23 = .ok (.ireturn, 1) := by decide +kernel
abbrev bL_occupancy : ByteArray := method_17_code
def yL_occupancy : MethodName := ⟨"ChannelScheduleLaw", "occupancy", "(LChannelSchedule;I[J)I"⟩
theorem dL_occupancy_0 : decode bL_occupancy 0 = .ok (.aload_n 2, 1) := by decide +kernel
theorem dL_occupancy_1 : decode bL_occupancy 1 = .ok (.iconst 0, 1) := by decide +kernel
theorem dL_occupancy_2 : decode bL_occupancy 2 = .ok (.aload_n 0, 1) := by decide +kernel
theorem dL_occupancy_3 : decode bL_occupancy 3 = .ok (.iload_n 1, 1) := by decide +kernel
theorem dL_occupancy_4 : decode bL_occupancy 4 = .ok (.invokevirtual 64, 3) := by decide +kernel
theorem dL_occupancy_7 : decode bL_occupancy 7 = .ok (.i2l, 1) := by decide +kernel
theorem dL_occupancy_8 : decode bL_occupancy 8 = .ok (.lastore, 1) := by decide +kernel
theorem dL_occupancy_9 : decode bL_occupancy 9 = .ok (.goto 6, 3) := by decide +kernel
theorem dL_occupancy_12 : decode bL_occupancy 12 = .ok (.astore_n 3, 1) := by decide +kernel
theorem dL_occupancy_13 : decode bL_occupancy 13 = .ok (.iconst 1, 1) := by decide +kernel
theorem dL_occupancy_14 : decode bL_occupancy 14 = .ok (.ireturn, 1) := by decide +kernel
theorem dL_occupancy_15 : decode bL_occupancy 15 = .ok (.iconst 0, 1) := by decide +kernel
theorem dL_occupancy_16 : decode bL_occupancy 16 = .ok (.ireturn, 1) := by decide +kernel
abbrev bL_emptyMinutes : ByteArray := method_18_code
def yL_emptyMinutes : MethodName := ⟨"ChannelScheduleLaw", "emptyMinutes", "(LChannelSchedule;II[J)I"⟩
theorem dL_emptyMinutes_0 : decode bL_emptyMinutes 0 = .ok (.aload_n 3, 1) := by decide +kernel
theorem dL_emptyMinutes_1 : decode bL_emptyMinutes 1 = .ok (.iconst 0, 1) := by decide +kernel
theorem dL_emptyMinutes_2 : decode bL_emptyMinutes 2 = .ok (.aload_n 0, 1) := by decide +kernel
theorem dL_emptyMinutes_3 : decode bL_emptyMinutes 3 = .ok (.iload_n 1, 1) := by decide +kernel
theorem dL_emptyMinutes_4 : decode bL_emptyMinutes 4 = .ok (.iload_n 2, 1) := by decide +kernel
theorem dL_emptyMinutes_5 : decode bL_emptyMinutes 5 = .ok (.invokevirtual 67, 3) := by decide +kernel
theorem dL_emptyMinutes_8 : decode bL_emptyMinutes 8 = .ok (.i2l, 1) := by decide +kernel
theorem dL_emptyMinutes_9 : decode bL_emptyMinutes 9 = .ok (.lastore, 1) := by decide +kernel
theorem dL_emptyMinutes_10 : decode bL_emptyMinutes 10 = .ok (.goto 7, 3) := by decide +kernel
theorem dL_emptyMinutes_13 : decode bL_emptyMinutes 13 = .ok (.astore 4, 2) := by decide +kernel
theorem dL_emptyMinutes_15 : decode bL_emptyMinutes 15 = .ok (.iconst 1, 1) := by decide +kernel
theorem dL_emptyMinutes_16 : decode bL_emptyMinutes 16 = .ok (.ireturn, 1) := by decide +kernel
theorem dL_emptyMinutes_17 : decode bL_emptyMinutes 17 = .ok (.iconst 0, 1) := by decide +kernel
theorem dL_emptyMinutes_18 : decode bL_emptyMinutes 18 = .ok (.ireturn, 1) := by decide +kernel
abbrev bL_longestEmptyRun : ByteArray := method_19_code
def yL_longestEmptyRun : MethodName := ⟨"ChannelScheduleLaw", "longestEmptyRun", "(LChannelSchedule;II[J)I"⟩
theorem dL_longestEmptyRun_0 : decode bL_longestEmptyRun 0 = .ok (.aload_n 3, 1) := by decide +kernel
theorem dL_longestEmptyRun_1 : decode bL_longestEmptyRun 1 = .ok (.iconst 0, 1) := by decide +kernel
theorem dL_longestEmptyRun_2 : decode bL_longestEmptyRun 2 = .ok (.aload_n 0, 1) := by decide +kernel
theorem dL_longestEmptyRun_3 : decode bL_longestEmptyRun 3 = .ok (.iload_n 1, 1) := by decide +kernel
theorem dL_longestEmptyRun_4 : decode bL_longestEmptyRun 4 = .ok (.iload_n 2, 1) := by decide +kernel
theorem dL_longestEmptyRun_5 : decode bL_longestEmptyRun 5 = .ok (.invokevirtual 70, 3) := by decide +kernel
theorem dL_longestEmptyRun_8 : decode bL_longestEmptyRun 8 = .ok (.i2l, 1) := by decide +kernel
theorem dL_longestEmptyRun_9 : decode bL_longestEmptyRun 9 = .ok (.lastore, 1) := by decide +kernel
theorem dL_longestEmptyRun_10 : decode bL_longestEmptyRun 10 = .ok (.goto 7, 3) := by decide +kernel
theorem dL_longestEmptyRun_13 : decode bL_longestEmptyRun 13 = .ok (.astore 4, 2) := by decide +kernel
theorem dL_longestEmptyRun_15 : decode bL_longestEmptyRun 15 = .ok (.iconst 1, 1) := by decide +kernel
theorem dL_longestEmptyRun_16 : decode bL_longestEmptyRun 16 = .ok (.ireturn, 1) := by decide +kernel
theorem dL_longestEmptyRun_17 : decode bL_longestEmptyRun 17 = .ok (.iconst 0, 1) := by decide +kernel
theorem dL_longestEmptyRun_18 : decode bL_longestEmptyRun 18 = .ok (.ireturn, 1) := by decide +kernel
abbrev bL_conflictCount : ByteArray := method_20_code
def yL_conflictCount : MethodName := ⟨"ChannelScheduleLaw", "conflictCount", "(LChannelSchedule;IZI[J)I"⟩
theorem dL_conflictCount_0 : decode bL_conflictCount 0 = .ok (.aload 4, 2) := by decide +kernel
theorem dL_conflictCount_2 : decode bL_conflictCount 2 = .ok (.iconst 0, 1) := by decide +kernel
theorem dL_conflictCount_3 : decode bL_conflictCount 3 = .ok (.aload_n 0, 1) := by decide +kernel
theorem dL_conflictCount_4 : decode bL_conflictCount 4 = .ok (.iload_n 1, 1) := by decide +kernel
theorem dL_conflictCount_5 : decode bL_conflictCount 5 = .ok (.iload_n 2, 1) := by decide +kernel
theorem dL_conflictCount_6 : decode bL_conflictCount 6 = .ok (.iload_n 3, 1) := by decide +kernel
theorem dL_conflictCount_7 : decode bL_conflictCount 7 = .ok (.invokevirtual 73, 3) := by decide +kernel
theorem dL_conflictCount_10 : decode bL_conflictCount 10 = .ok (.i2l, 1) := by decide +kernel
theorem dL_conflictCount_11 : decode bL_conflictCount 11 = .ok (.lastore, 1) := by decide +kernel
theorem dL_conflictCount_12 : decode bL_conflictCount 12 = .ok (.goto 11, 3) := by decide +kernel
theorem dL_conflictCount_15 : decode bL_conflictCount 15 = .ok (.astore 5, 2) := by decide +kernel
theorem dL_conflictCount_17 : decode bL_conflictCount 17 = .ok (.iconst 1, 1) := by decide +kernel
theorem dL_conflictCount_18 : decode bL_conflictCount 18 = .ok (.ireturn, 1) := by decide +kernel
theorem dL_conflictCount_19 : decode bL_conflictCount 19 = .ok (.astore 5, 2) := by decide +kernel
theorem dL_conflictCount_21 : decode bL_conflictCount 21 = .ok (.iconst 2, 1) := by decide +kernel
theorem dL_conflictCount_22 : decode bL_conflictCount 22 = .ok (.ireturn, 1) := by decide +kernel
theorem dL_conflictCount_23 : decode bL_conflictCount 23 = .ok (.iconst 0, 1) := by decide +kernel
theorem dL_conflictCount_24 : decode bL_conflictCount 24 = .ok (.ireturn, 1) := by decide +kernel
abbrev bL_firstConflict : ByteArray := method_21_code
def yL_firstConflict : MethodName := ⟨"ChannelScheduleLaw", "firstConflict", "(LChannelSchedule;IZI[J)I"⟩
theorem dL_firstConflict_0 : decode bL_firstConflict 0 = .ok (.aload 4, 2) := by decide +kernel
theorem dL_firstConflict_2 : decode bL_firstConflict 2 = .ok (.iconst 0, 1) := by decide +kernel
theorem dL_firstConflict_3 : decode bL_firstConflict 3 = .ok (.aload_n 0, 1) := by decide +kernel
theorem dL_firstConflict_4 : decode bL_firstConflict 4 = .ok (.iload_n 1, 1) := by decide +kernel
theorem dL_firstConflict_5 : decode bL_firstConflict 5 = .ok (.iload_n 2, 1) := by decide +kernel
theorem dL_firstConflict_6 : decode bL_firstConflict 6 = .ok (.iload_n 3, 1) := by decide +kernel
theorem dL_firstConflict_7 : decode bL_firstConflict 7 = .ok (.invokevirtual 77, 3) := by decide +kernel
theorem dL_firstConflict_10 : decode bL_firstConflict 10 = .ok (.i2l, 1) := by decide +kernel
theorem dL_firstConflict_11 : decode bL_firstConflict 11 = .ok (.lastore, 1) := by decide +kernel
theorem dL_firstConflict_12 : decode bL_firstConflict 12 = .ok (.goto 11, 3) := by decide +kernel
theorem dL_firstConflict_15 : decode bL_firstConflict 15 = .ok (.astore 5, 2) := by decide +kernel
theorem dL_firstConflict_17 : decode bL_firstConflict 17 = .ok (.iconst 1, 1) := by decide +kernel
theorem dL_firstConflict_18 : decode bL_firstConflict 18 = .ok (.ireturn, 1) := by decide +kernel
theorem dL_firstConflict_19 : decode bL_firstConflict 19 = .ok (.astore 5, 2) := by decide +kernel
theorem dL_firstConflict_21 : decode bL_firstConflict 21 = .ok (.iconst 2, 1) := by decide +kernel
theorem dL_firstConflict_22 : decode bL_firstConflict 22 = .ok (.ireturn, 1) := by decide +kernel
theorem dL_firstConflict_23 : decode bL_firstConflict 23 = .ok (.iconst 0, 1) := by decide +kernel
theorem dL_firstConflict_24 : decode bL_firstConflict 24 = .ok (.ireturn, 1) := by decide +kernel
abbrev bL_earliestStart : ByteArray := method_22_code
def yL_earliestStart : MethodName := ⟨"ChannelScheduleLaw", "earliestStart", "(LChannelSchedule;IZI[J)I"⟩
theorem dL_earliestStart_0 : decode bL_earliestStart 0 = .ok (.aload 4, 2) := by decide +kernel
theorem dL_earliestStart_2 : decode bL_earliestStart 2 = .ok (.iconst 0, 1) := by decide +kernel
theorem dL_earliestStart_3 : decode bL_earliestStart 3 = .ok (.aload_n 0, 1) := by decide +kernel
theorem dL_earliestStart_4 : decode bL_earliestStart 4 = .ok (.iload_n 1, 1) := by decide +kernel
theorem dL_earliestStart_5 : decode bL_earliestStart 5 = .ok (.iload_n 2, 1) := by decide +kernel
theorem dL_earliestStart_6 : decode bL_earliestStart 6 = .ok (.iload_n 3, 1) := by decide +kernel
theorem dL_earliestStart_7 : decode bL_earliestStart 7 = .ok (.invokevirtual 80, 3) := by decide +kernel
theorem dL_earliestStart_10 : decode bL_earliestStart 10 = .ok (.i2l, 1) := by decide +kernel
theorem dL_earliestStart_11 : decode bL_earliestStart 11 = .ok (.lastore, 1) := by decide +kernel
theorem dL_earliestStart_12 : decode bL_earliestStart 12 = .ok (.goto 11, 3) := by decide +kernel
theorem dL_earliestStart_15 : decode bL_earliestStart 15 = .ok (.astore 5, 2) := by decide +kernel
theorem dL_earliestStart_17 : decode bL_earliestStart 17 = .ok (.iconst 1, 1) := by decide +kernel
theorem dL_earliestStart_18 : decode bL_earliestStart 18 = .ok (.ireturn, 1) := by decide +kernel
theorem dL_earliestStart_19 : decode bL_earliestStart 19 = .ok (.astore 5, 2) := by decide +kernel
theorem dL_earliestStart_21 : decode bL_earliestStart 21 = .ok (.iconst 2, 1) := by decide +kernel
theorem dL_earliestStart_22 : decode bL_earliestStart 22 = .ok (.ireturn, 1) := by decide +kernel
theorem dL_earliestStart_23 : decode bL_earliestStart 23 = .ok (.iconst 0, 1) := by decide +kernel
theorem dL_earliestStart_24 : decode bL_earliestStart 24 = .ok (.ireturn, 1) := by decide +kernel
abbrev bL_latestStart : ByteArray := method_23_code
def yL_latestStart : MethodName := ⟨"ChannelScheduleLaw", "latestStart", "(LChannelSchedule;IZI[J)I"⟩
theorem dL_latestStart_0 : decode bL_latestStart 0 = .ok (.aload 4, 2) := by decide +kernel
theorem dL_latestStart_2 : decode bL_latestStart 2 = .ok (.iconst 0, 1) := by decide +kernel
theorem dL_latestStart_3 : decode bL_latestStart 3 = .ok (.aload_n 0, 1) := by decide +kernel
theorem dL_latestStart_4 : decode bL_latestStart 4 = .ok (.iload_n 1, 1) := by decide +kernel
theorem dL_latestStart_5 : decode bL_latestStart 5 = .ok (.iload_n 2, 1) := by decide +kernel
theorem dL_latestStart_6 : decode bL_latestStart 6 = .ok (.iload_n 3, 1) := by decide +kernel
theorem dL_latestStart_7 : decode bL_latestStart 7 = .ok (.invokevirtual 83, 3) := by decide +kernel
theorem dL_latestStart_10 : decode bL_latestStart 10 = .ok (.i2l, 1) := by decide +kernel
theorem dL_latestStart_11 : decode bL_latestStart 11 = .ok (.lastore, 1) := by decide +kernel
theorem dL_latestStart_12 : decode bL_latestStart 12 = .ok (.goto 11, 3) := by decide +kernel
theorem dL_latestStart_15 : decode bL_latestStart 15 = .ok (.astore 5, 2) := by decide +kernel
theorem dL_latestStart_17 : decode bL_latestStart 17 = .ok (.iconst 1, 1) := by decide +kernel
theorem dL_latestStart_18 : decode bL_latestStart 18 = .ok (.ireturn, 1) := by decide +kernel
theorem dL_latestStart_19 : decode bL_latestStart 19 = .ok (.astore 5, 2) := by decide +kernel
theorem dL_latestStart_21 : decode bL_latestStart 21 = .ok (.iconst 2, 1) := by decide +kernel
theorem dL_latestStart_22 : decode bL_latestStart 22 = .ok (.ireturn, 1) := by decide +kernel
theorem dL_latestStart_23 : decode bL_latestStart 23 = .ok (.iconst 0, 1) := by decide +kernel
theorem dL_latestStart_24 : decode bL_latestStart 24 = .ok (.ireturn, 1) := by decide +kernel
abbrev bL_bestCancellation : ByteArray := method_24_code
def yL_bestCancellation : MethodName := ⟨"ChannelScheduleLaw", "bestCancellation", "(LChannelSchedule;IZI[J)I"⟩
theorem dL_bestCancellation_0 : decode bL_bestCancellation 0 = .ok (.aload 4, 2) := by decide +kernel
theorem dL_bestCancellation_2 : decode bL_bestCancellation 2 = .ok (.iconst 0, 1) := by decide +kernel
theorem dL_bestCancellation_3 : decode bL_bestCancellation 3 = .ok (.aload_n 0, 1) := by decide +kernel
theorem dL_bestCancellation_4 : decode bL_bestCancellation 4 = .ok (.iload_n 1, 1) := by decide +kernel
theorem dL_bestCancellation_5 : decode bL_bestCancellation 5 = .ok (.iload_n 2, 1) := by decide +kernel
theorem dL_bestCancellation_6 : decode bL_bestCancellation 6 = .ok (.iload_n 3, 1) := by decide +kernel
theorem dL_bestCancellation_7 : decode bL_bestCancellation 7 = .ok (.invokevirtual 86, 3) := by decide +kernel
theorem dL_bestCancellation_10 : decode bL_bestCancellation 10 = .ok (.i2l, 1) := by decide +kernel
theorem dL_bestCancellation_11 : decode bL_bestCancellation 11 = .ok (.lastore, 1) := by decide +kernel
theorem dL_bestCancellation_12 : decode bL_bestCancellation 12 = .ok (.goto 15, 3) := by decide +kernel
theorem dL_bestCancellation_15 : decode bL_bestCancellation 15 = .ok (.astore 5, 2) := by decide +kernel
theorem dL_bestCancellation_17 : decode bL_bestCancellation 17 = .ok (.iconst 1, 1) := by decide +kernel
theorem dL_bestCancellation_18 : decode bL_bestCancellation 18 = .ok (.ireturn, 1) := by decide +kernel
theorem dL_bestCancellation_19 : decode bL_bestCancellation 19 = .ok (.astore 5, 2) := by decide +kernel
theorem dL_bestCancellation_21 : decode bL_bestCancellation 21 = .ok (.iconst 2, 1) := by decide +kernel
theorem dL_bestCancellation_22 : decode bL_bestCancellation 22 = .ok (.ireturn, 1) := by decide +kernel
theorem dL_bestCancellation_23 : decode bL_bestCancellation 23 = .ok (.astore 5, 2) := by decide +kernel
theorem dL_bestCancellation_25 : decode bL_bestCancellation 25 = .ok (.iconst 3, 1) := by decide +kernel
theorem dL_bestCancellation_26 : decode bL_bestCancellation 26 = .ok (.ireturn, 1) := by decide +kernel
theorem dL_bestCancellation_27 : decode bL_bestCancellation 27 = .ok (.iconst 0, 1) := by decide +kernel
theorem dL_bestCancellation_28 : decode bL_bestCancellation 28 = .ok (.ireturn, 1) := by decide +kernel
abbrev bL_slack : ByteArray := method_25_code
def yL_slack : MethodName := ⟨"ChannelScheduleLaw", "slack", "(LChannelSchedule;I[J)I"⟩
theorem dL_slack_0 : decode bL_slack 0 = .ok (.aload_n 2, 1) := by decide +kernel
theorem dL_slack_1 : decode bL_slack 1 = .ok (.iconst 0, 1) := by decide +kernel
theorem dL_slack_2 : decode bL_slack 2 = .ok (.aload_n 0, 1) := by decide +kernel
theorem dL_slack_3 : decode bL_slack 3 = .ok (.iload_n 1, 1) := by decide +kernel
theorem dL_slack_4 : decode bL_slack 4 = .ok (.invokevirtual 89, 3) := by decide +kernel
theorem dL_slack_7 : decode bL_slack 7 = .ok (.i2l, 1) := by decide +kernel
theorem dL_slack_8 : decode bL_slack 8 = .ok (.lastore, 1) := by decide +kernel
theorem dL_slack_9 : decode bL_slack 9 = .ok (.goto 6, 3) := by decide +kernel
theorem dL_slack_12 : decode bL_slack 12 = .ok (.astore_n 3, 1) := by decide +kernel
theorem dL_slack_13 : decode bL_slack 13 = .ok (.iconst 1, 1) := by decide +kernel
theorem dL_slack_14 : decode bL_slack 14 = .ok (.ireturn, 1) := by decide +kernel
theorem dL_slack_15 : decode bL_slack 15 = .ok (.iconst 0, 1) := by decide +kernel
theorem dL_slack_16 : decode bL_slack 16 = .ok (.ireturn, 1) := by decide +kernel
abbrev bL_whyNotMovable : ByteArray := method_26_code
def yL_whyNotMovable : MethodName := ⟨"ChannelScheduleLaw", "whyNotMovable", "(LChannelSchedule;II[J)I"⟩
theorem dL_whyNotMovable_0 : decode bL_whyNotMovable 0 = .ok (.aload_n 3, 1) := by decide +kernel
theorem dL_whyNotMovable_1 : decode bL_whyNotMovable 1 = .ok (.iconst 0, 1) := by decide +kernel
theorem dL_whyNotMovable_2 : decode bL_whyNotMovable 2 = .ok (.aload_n 0, 1) := by decide +kernel
theorem dL_whyNotMovable_3 : decode bL_whyNotMovable 3 = .ok (.iload_n 1, 1) := by decide +kernel
theorem dL_whyNotMovable_4 : decode bL_whyNotMovable 4 = .ok (.iload_n 2, 1) := by decide +kernel
theorem dL_whyNotMovable_5 : decode bL_whyNotMovable 5 = .ok (.invokevirtual 92, 3) := by decide +kernel
theorem dL_whyNotMovable_8 : decode bL_whyNotMovable 8 = .ok (.i2l, 1) := by decide +kernel
theorem dL_whyNotMovable_9 : decode bL_whyNotMovable 9 = .ok (.lastore, 1) := by decide +kernel
theorem dL_whyNotMovable_10 : decode bL_whyNotMovable 10 = .ok (.goto 11, 3) := by decide +kernel
theorem dL_whyNotMovable_13 : decode bL_whyNotMovable 13 = .ok (.astore 4, 2) := by decide +kernel
theorem dL_whyNotMovable_15 : decode bL_whyNotMovable 15 = .ok (.iconst 1, 1) := by decide +kernel
theorem dL_whyNotMovable_16 : decode bL_whyNotMovable 16 = .ok (.ireturn, 1) := by decide +kernel
theorem dL_whyNotMovable_17 : decode bL_whyNotMovable 17 = .ok (.astore 4, 2) := by decide +kernel
theorem dL_whyNotMovable_19 : decode bL_whyNotMovable 19 = .ok (.iconst 2, 1) := by decide +kernel
theorem dL_whyNotMovable_20 : decode bL_whyNotMovable 20 = .ok (.ireturn, 1) := by decide +kernel
theorem dL_whyNotMovable_21 : decode bL_whyNotMovable 21 = .ok (.iconst 0, 1) := by decide +kernel
theorem dL_whyNotMovable_22 : decode bL_whyNotMovable 22 = .ok (.ireturn, 1) := by decide +kernel
abbrev bL_requestedShip : ByteArray := method_27_code
def yL_requestedShip : MethodName := ⟨"ChannelScheduleLaw", "requestedShip", "(LChannelSchedule;I[J)I"⟩
theorem dL_requestedShip_0 : decode bL_requestedShip 0 = .ok (.aload_n 2, 1) := by decide +kernel
theorem dL_requestedShip_1 : decode bL_requestedShip 1 = .ok (.iconst 0, 1) := by decide +kernel
theorem dL_requestedShip_2 : decode bL_requestedShip 2 = .ok (.aload_n 0, 1) := by decide +kernel
theorem dL_requestedShip_3 : decode bL_requestedShip 3 = .ok (.iload_n 1, 1) := by decide +kernel
theorem dL_requestedShip_4 : decode bL_requestedShip 4 = .ok (.invokevirtual 95, 3) := by decide +kernel
theorem dL_requestedShip_7 : decode bL_requestedShip 7 = .ok (.i2l, 1) := by decide +kernel
theorem dL_requestedShip_8 : decode bL_requestedShip 8 = .ok (.lastore, 1) := by decide +kernel
theorem dL_requestedShip_9 : decode bL_requestedShip 9 = .ok (.goto 6, 3) := by decide +kernel
theorem dL_requestedShip_12 : decode bL_requestedShip 12 = .ok (.astore_n 3, 1) := by decide +kernel
theorem dL_requestedShip_13 : decode bL_requestedShip 13 = .ok (.iconst 1, 1) := by decide +kernel
theorem dL_requestedShip_14 : decode bL_requestedShip 14 = .ok (.ireturn, 1) := by decide +kernel
theorem dL_requestedShip_15 : decode bL_requestedShip 15 = .ok (.iconst 0, 1) := by decide +kernel
theorem dL_requestedShip_16 : decode bL_requestedShip 16 = .ok (.ireturn, 1) := by decide +kernel
abbrev bL_isRequestInbound : ByteArray := method_28_code
def yL_isRequestInbound : MethodName := ⟨"ChannelScheduleLaw", "isRequestInbound", "(LChannelSchedule;I[J)I"⟩
theorem dL_isRequestInbound_0 : decode bL_isRequestInbound 0 = .ok (.aload_n 2, 1) := by decide +kernel
theorem dL_isRequestInbound_1 : decode bL_isRequestInbound 1 = .ok (.iconst 0, 1) := by decide +kernel
theorem dL_isRequestInbound_2 : decode bL_isRequestInbound 2 = .ok (.aload_n 0, 1) := by decide +kernel
theorem dL_isRequestInbound_3 : decode bL_isRequestInbound 3 = .ok (.iload_n 1, 1) := by decide +kernel
theorem dL_isRequestInbound_4 : decode bL_isRequestInbound 4 = .ok (.invokevirtual 98, 3) := by decide +kernel
theorem dL_isRequestInbound_7 : decode bL_isRequestInbound 7 = .ok (.ifCond .eq 7, 3) := by decide +kernel
theorem dL_isRequestInbound_10 : decode bL_isRequestInbound 10 = .ok (.lconst 1, 1) := by decide +kernel
theorem dL_isRequestInbound_11 : decode bL_isRequestInbound 11 = .ok (.goto 4, 3) := by decide +kernel
theorem dL_isRequestInbound_14 : decode bL_isRequestInbound 14 = .ok (.lconst 0, 1) := by decide +kernel
theorem dL_isRequestInbound_15 : decode bL_isRequestInbound 15 = .ok (.lastore, 1) := by decide +kernel
theorem dL_isRequestInbound_16 : decode bL_isRequestInbound 16 = .ok (.goto 6, 3) := by decide +kernel
theorem dL_isRequestInbound_19 : decode bL_isRequestInbound 19 = .ok (.astore_n 3, 1) := by decide +kernel
theorem dL_isRequestInbound_20 : decode bL_isRequestInbound 20 = .ok (.iconst 1, 1) := by decide +kernel
theorem dL_isRequestInbound_21 : decode bL_isRequestInbound 21 = .ok (.ireturn, 1) := by decide +kernel
theorem dL_isRequestInbound_22 : decode bL_isRequestInbound 22 = .ok (.iconst 0, 1) := by decide +kernel
theorem dL_isRequestInbound_23 : decode bL_isRequestInbound 23 = .ok (.ireturn, 1) := by decide +kernel
abbrev bL_earliestRequested : ByteArray := method_29_code
def yL_earliestRequested : MethodName := ⟨"ChannelScheduleLaw", "earliestRequested", "(LChannelSchedule;I[J)I"⟩
theorem dL_earliestRequested_0 : decode bL_earliestRequested 0 = .ok (.aload_n 2, 1) := by decide +kernel
theorem dL_earliestRequested_1 : decode bL_earliestRequested 1 = .ok (.iconst 0, 1) := by decide +kernel
theorem dL_earliestRequested_2 : decode bL_earliestRequested 2 = .ok (.aload_n 0, 1) := by decide +kernel
theorem dL_earliestRequested_3 : decode bL_earliestRequested 3 = .ok (.iload_n 1, 1) := by decide +kernel
theorem dL_earliestRequested_4 : decode bL_earliestRequested 4 = .ok (.invokevirtual 101, 3) := by decide +kernel
theorem dL_earliestRequested_7 : decode bL_earliestRequested 7 = .ok (.i2l, 1) := by decide +kernel
theorem dL_earliestRequested_8 : decode bL_earliestRequested 8 = .ok (.lastore, 1) := by decide +kernel
theorem dL_earliestRequested_9 : decode bL_earliestRequested 9 = .ok (.goto 6, 3) := by decide +kernel
theorem dL_earliestRequested_12 : decode bL_earliestRequested 12 = .ok (.astore_n 3, 1) := by decide +kernel
theorem dL_earliestRequested_13 : decode bL_earliestRequested 13 = .ok (.iconst 1, 1) := by decide +kernel
theorem dL_earliestRequested_14 : decode bL_earliestRequested 14 = .ok (.ireturn, 1) := by decide +kernel
theorem dL_earliestRequested_15 : decode bL_earliestRequested 15 = .ok (.iconst 0, 1) := by decide +kernel
theorem dL_earliestRequested_16 : decode bL_earliestRequested 16 = .ok (.ireturn, 1) := by decide +kernel
abbrev bL_latestRequested : ByteArray := method_30_code
def yL_latestRequested : MethodName := ⟨"ChannelScheduleLaw", "latestRequested", "(LChannelSchedule;I[J)I"⟩
theorem dL_latestRequested_0 : decode bL_latestRequested 0 = .ok (.aload_n 2, 1) := by decide +kernel
theorem dL_latestRequested_1 : decode bL_latestRequested 1 = .ok (.iconst 0, 1) := by decide +kernel
theorem dL_latestRequested_2 : decode bL_latestRequested 2 = .ok (.aload_n 0, 1) := by decide +kernel
theorem dL_latestRequested_3 : decode bL_latestRequested 3 = .ok (.iload_n 1, 1) := by decide +kernel
theorem dL_latestRequested_4 : decode bL_latestRequested 4 = .ok (.invokevirtual 104, 3) := by decide +kernel
theorem dL_latestRequested_7 : decode bL_latestRequested 7 = .ok (.i2l, 1) := by decide +kernel
theorem dL_latestRequested_8 : decode bL_latestRequested 8 = .ok (.lastore, 1) := by decide +kernel
theorem dL_latestRequested_9 : decode bL_latestRequested 9 = .ok (.goto 6, 3) := by decide +kernel
theorem dL_latestRequested_12 : decode bL_latestRequested 12 = .ok (.astore_n 3, 1) := by decide +kernel
theorem dL_latestRequested_13 : decode bL_latestRequested 13 = .ok (.iconst 1, 1) := by decide +kernel
theorem dL_latestRequested_14 : decode bL_latestRequested 14 = .ok (.ireturn, 1) := by decide +kernel
theorem dL_latestRequested_15 : decode bL_latestRequested 15 = .ok (.iconst 0, 1) := by decide +kernel
theorem dL_latestRequested_16 : decode bL_latestRequested 16 = .ok (.ireturn, 1) := by decide +kernel
abbrev bL_whyNotFeasible : ByteArray := method_31_code
def yL_whyNotFeasible : MethodName := ⟨"ChannelScheduleLaw", "whyNotFeasible", "(LChannelSchedule;I[J)I"⟩
theorem dL_whyNotFeasible_0 : decode bL_whyNotFeasible 0 = .ok (.aload_n 2, 1) := by decide +kernel
theorem dL_whyNotFeasible_1 : decode bL_whyNotFeasible 1 = .ok (.iconst 0, 1) := by decide +kernel
theorem dL_whyNotFeasible_2 : decode bL_whyNotFeasible 2 = .ok (.aload_n 0, 1) := by decide +kernel
theorem dL_whyNotFeasible_3 : decode bL_whyNotFeasible 3 = .ok (.iload_n 1, 1) := by decide +kernel
theorem dL_whyNotFeasible_4 : decode bL_whyNotFeasible 4 = .ok (.invokevirtual 107, 3) := by decide +kernel
theorem dL_whyNotFeasible_7 : decode bL_whyNotFeasible 7 = .ok (.i2l, 1) := by decide +kernel
theorem dL_whyNotFeasible_8 : decode bL_whyNotFeasible 8 = .ok (.lastore, 1) := by decide +kernel
theorem dL_whyNotFeasible_9 : decode bL_whyNotFeasible 9 = .ok (.goto 6, 3) := by decide +kernel
theorem dL_whyNotFeasible_12 : decode bL_whyNotFeasible 12 = .ok (.astore_n 3, 1) := by decide +kernel
theorem dL_whyNotFeasible_13 : decode bL_whyNotFeasible 13 = .ok (.iconst 1, 1) := by decide +kernel
theorem dL_whyNotFeasible_14 : decode bL_whyNotFeasible 14 = .ok (.ireturn, 1) := by decide +kernel
theorem dL_whyNotFeasible_15 : decode bL_whyNotFeasible 15 = .ok (.iconst 0, 1) := by decide +kernel
theorem dL_whyNotFeasible_16 : decode bL_whyNotFeasible 16 = .ok (.ireturn, 1) := by decide +kernel
abbrev bL_isSelected : ByteArray := method_32_code
def yL_isSelected : MethodName := ⟨"ChannelScheduleLaw", "isSelected", "(LChannelSchedule;I[J)I"⟩
theorem dL_isSelected_0 : decode bL_isSelected 0 = .ok (.aload_n 2, 1) := by decide +kernel
theorem dL_isSelected_1 : decode bL_isSelected 1 = .ok (.iconst 0, 1) := by decide +kernel
theorem dL_isSelected_2 : decode bL_isSelected 2 = .ok (.aload_n 0, 1) := by decide +kernel
theorem dL_isSelected_3 : decode bL_isSelected 3 = .ok (.iload_n 1, 1) := by decide +kernel
theorem dL_isSelected_4 : decode bL_isSelected 4 = .ok (.invokevirtual 110, 3) := by decide +kernel
theorem dL_isSelected_7 : decode bL_isSelected 7 = .ok (.ifCond .eq 7, 3) := by decide +kernel
theorem dL_isSelected_10 : decode bL_isSelected 10 = .ok (.lconst 1, 1) := by decide +kernel
theorem dL_isSelected_11 : decode bL_isSelected 11 = .ok (.goto 4, 3) := by decide +kernel
theorem dL_isSelected_14 : decode bL_isSelected 14 = .ok (.lconst 0, 1) := by decide +kernel
theorem dL_isSelected_15 : decode bL_isSelected 15 = .ok (.lastore, 1) := by decide +kernel
theorem dL_isSelected_16 : decode bL_isSelected 16 = .ok (.goto 6, 3) := by decide +kernel
theorem dL_isSelected_19 : decode bL_isSelected 19 = .ok (.astore_n 3, 1) := by decide +kernel
theorem dL_isSelected_20 : decode bL_isSelected 20 = .ok (.iconst 1, 1) := by decide +kernel
theorem dL_isSelected_21 : decode bL_isSelected 21 = .ok (.ireturn, 1) := by decide +kernel
theorem dL_isSelected_22 : decode bL_isSelected 22 = .ok (.iconst 0, 1) := by decide +kernel
theorem dL_isSelected_23 : decode bL_isSelected 23 = .ok (.ireturn, 1) := by decide +kernel
abbrev bL_servedWithout : ByteArray := method_33_code
def yL_servedWithout : MethodName := ⟨"ChannelScheduleLaw", "servedWithout", "(LChannelSchedule;I[J)I"⟩
theorem dL_servedWithout_0 : decode bL_servedWithout 0 = .ok (.aload_n 2, 1) := by decide +kernel
theorem dL_servedWithout_1 : decode bL_servedWithout 1 = .ok (.iconst 0, 1) := by decide +kernel
theorem dL_servedWithout_2 : decode bL_servedWithout 2 = .ok (.aload_n 0, 1) := by decide +kernel
theorem dL_servedWithout_3 : decode bL_servedWithout 3 = .ok (.iload_n 1, 1) := by decide +kernel
theorem dL_servedWithout_4 : decode bL_servedWithout 4 = .ok (.invokevirtual 113, 3) := by decide +kernel
theorem dL_servedWithout_7 : decode bL_servedWithout 7 = .ok (.i2l, 1) := by decide +kernel
theorem dL_servedWithout_8 : decode bL_servedWithout 8 = .ok (.lastore, 1) := by decide +kernel
theorem dL_servedWithout_9 : decode bL_servedWithout 9 = .ok (.goto 6, 3) := by decide +kernel
theorem dL_servedWithout_12 : decode bL_servedWithout 12 = .ok (.astore_n 3, 1) := by decide +kernel
theorem dL_servedWithout_13 : decode bL_servedWithout 13 = .ok (.iconst 1, 1) := by decide +kernel
theorem dL_servedWithout_14 : decode bL_servedWithout 14 = .ok (.ireturn, 1) := by decide +kernel
theorem dL_servedWithout_15 : decode bL_servedWithout 15 = .ok (.iconst 0, 1) := by decide +kernel
theorem dL_servedWithout_16 : decode bL_servedWithout 16 = .ok (.ireturn, 1) := by decide +kernel
abbrev bL_feasibleStart : ByteArray := method_34_code
def yL_feasibleStart : MethodName := ⟨"ChannelScheduleLaw", "feasibleStart", "(LChannelSchedule;I[J)I"⟩
theorem dL_feasibleStart_0 : decode bL_feasibleStart 0 = .ok (.aload_n 2, 1) := by decide +kernel
theorem dL_feasibleStart_1 : decode bL_feasibleStart 1 = .ok (.iconst 0, 1) := by decide +kernel
theorem dL_feasibleStart_2 : decode bL_feasibleStart 2 = .ok (.aload_n 0, 1) := by decide +kernel
theorem dL_feasibleStart_3 : decode bL_feasibleStart 3 = .ok (.iload_n 1, 1) := by decide +kernel
theorem dL_feasibleStart_4 : decode bL_feasibleStart 4 = .ok (.invokevirtual 116, 3) := by decide +kernel
theorem dL_feasibleStart_7 : decode bL_feasibleStart 7 = .ok (.i2l, 1) := by decide +kernel
theorem dL_feasibleStart_8 : decode bL_feasibleStart 8 = .ok (.lastore, 1) := by decide +kernel
theorem dL_feasibleStart_9 : decode bL_feasibleStart 9 = .ok (.goto 6, 3) := by decide +kernel
theorem dL_feasibleStart_12 : decode bL_feasibleStart 12 = .ok (.astore_n 3, 1) := by decide +kernel
theorem dL_feasibleStart_13 : decode bL_feasibleStart 13 = .ok (.iconst 1, 1) := by decide +kernel
theorem dL_feasibleStart_14 : decode bL_feasibleStart 14 = .ok (.ireturn, 1) := by decide +kernel
theorem dL_feasibleStart_15 : decode bL_feasibleStart 15 = .ok (.iconst 0, 1) := by decide +kernel
theorem dL_feasibleStart_16 : decode bL_feasibleStart 16 = .ok (.ireturn, 1) := by decide +kernel
abbrev bL_book : ByteArray := method_35_code
def yL_book : MethodName := ⟨"ChannelScheduleLaw", "book", "(LChannelSchedule;IZI[J)I"⟩
theorem dL_book_0 : decode bL_book 0 = .ok (.aload 4, 2) := by decide +kernel
theorem dL_book_2 : decode bL_book 2 = .ok (.iconst 0, 1) := by decide +kernel
theorem dL_book_3 : decode bL_book 3 = .ok (.aload_n 0, 1) := by decide +kernel
theorem dL_book_4 : decode bL_book 4 = .ok (.iload_n 1, 1) := by decide +kernel
theorem dL_book_5 : decode bL_book 5 = .ok (.iload_n 2, 1) := by decide +kernel
theorem dL_book_6 : decode bL_book 6 = .ok (.iload_n 3, 1) := by decide +kernel
theorem dL_book_7 : decode bL_book 7 = .ok (.invokevirtual 119, 3) := by decide +kernel
theorem dL_book_10 : decode bL_book 10 = .ok (.i2l, 1) := by decide +kernel
theorem dL_book_11 : decode bL_book 11 = .ok (.lastore, 1) := by decide +kernel
theorem dL_book_12 : decode bL_book 12 = .ok (.goto 15, 3) := by decide +kernel
theorem dL_book_15 : decode bL_book 15 = .ok (.astore 5, 2) := by decide +kernel
theorem dL_book_17 : decode bL_book 17 = .ok (.iconst 1, 1) := by decide +kernel
theorem dL_book_18 : decode bL_book 18 = .ok (.ireturn, 1) := by decide +kernel
theorem dL_book_19 : decode bL_book 19 = .ok (.astore 5, 2) := by decide +kernel
theorem dL_book_21 : decode bL_book 21 = .ok (.iconst 2, 1) := by decide +kernel
theorem dL_book_22 : decode bL_book 22 = .ok (.ireturn, 1) := by decide +kernel
theorem dL_book_23 : decode bL_book 23 = .ok (.astore 5, 2) := by decide +kernel
theorem dL_book_25 : decode bL_book 25 = .ok (.iconst 3, 1) := by decide +kernel
theorem dL_book_26 : decode bL_book 26 = .ok (.ireturn, 1) := by decide +kernel
theorem dL_book_27 : decode bL_book 27 = .ok (.iconst 0, 1) := by decide +kernel
theorem dL_book_28 : decode bL_book 28 = .ok (.ireturn, 1) := by decide +kernel
abbrev bL_request : ByteArray := method_36_code
def yL_request : MethodName := ⟨"ChannelScheduleLaw", "request", "(LChannelSchedule;IZII[J)I"⟩
theorem dL_request_0 : decode bL_request 0 = .ok (.aload 5, 2) := by decide +kernel
theorem dL_request_2 : decode bL_request 2 = .ok (.iconst 0, 1) := by decide +kernel
theorem dL_request_3 : decode bL_request 3 = .ok (.aload_n 0, 1) := by decide +kernel
theorem dL_request_4 : decode bL_request 4 = .ok (.iload_n 1, 1) := by decide +kernel
theorem dL_request_5 : decode bL_request 5 = .ok (.iload_n 2, 1) := by decide +kernel
theorem dL_request_6 : decode bL_request 6 = .ok (.iload_n 3, 1) := by decide +kernel
theorem dL_request_7 : decode bL_request 7 = .ok (.iload 4, 2) := by decide +kernel
theorem dL_request_9 : decode bL_request 9 = .ok (.invokevirtual 122, 3) := by decide +kernel
theorem dL_request_12 : decode bL_request 12 = .ok (.i2l, 1) := by decide +kernel
theorem dL_request_13 : decode bL_request 13 = .ok (.lastore, 1) := by decide +kernel
theorem dL_request_14 : decode bL_request 14 = .ok (.goto 15, 3) := by decide +kernel
theorem dL_request_17 : decode bL_request 17 = .ok (.astore 6, 2) := by decide +kernel
theorem dL_request_19 : decode bL_request 19 = .ok (.iconst 1, 1) := by decide +kernel
theorem dL_request_20 : decode bL_request 20 = .ok (.ireturn, 1) := by decide +kernel
theorem dL_request_21 : decode bL_request 21 = .ok (.astore 6, 2) := by decide +kernel
theorem dL_request_23 : decode bL_request 23 = .ok (.iconst 2, 1) := by decide +kernel
theorem dL_request_24 : decode bL_request 24 = .ok (.ireturn, 1) := by decide +kernel
theorem dL_request_25 : decode bL_request 25 = .ok (.astore 6, 2) := by decide +kernel
theorem dL_request_27 : decode bL_request 27 = .ok (.iconst 3, 1) := by decide +kernel
theorem dL_request_28 : decode bL_request 28 = .ok (.ireturn, 1) := by decide +kernel
theorem dL_request_29 : decode bL_request 29 = .ok (.iconst 0, 1) := by decide +kernel
theorem dL_request_30 : decode bL_request 30 = .ok (.ireturn, 1) := by decide +kernel
abbrev bL_cancel : ByteArray := method_37_code
def yL_cancel : MethodName := ⟨"ChannelScheduleLaw", "cancel", "(LChannelSchedule;I[J)I"⟩
theorem dL_cancel_0 : decode bL_cancel 0 = .ok (.aload_n 2, 1) := by decide +kernel
theorem dL_cancel_1 : decode bL_cancel 1 = .ok (.iconst 0, 1) := by decide +kernel
theorem dL_cancel_2 : decode bL_cancel 2 = .ok (.aload_n 0, 1) := by decide +kernel
theorem dL_cancel_3 : decode bL_cancel 3 = .ok (.iload_n 1, 1) := by decide +kernel
theorem dL_cancel_4 : decode bL_cancel 4 = .ok (.invokevirtual 126, 3) := by decide +kernel
theorem dL_cancel_7 : decode bL_cancel 7 = .ok (.i2l, 1) := by decide +kernel
theorem dL_cancel_8 : decode bL_cancel 8 = .ok (.lastore, 1) := by decide +kernel
theorem dL_cancel_9 : decode bL_cancel 9 = .ok (.goto 9, 3) := by decide +kernel
theorem dL_cancel_12 : decode bL_cancel 12 = .ok (.astore_n 3, 1) := by decide +kernel
theorem dL_cancel_13 : decode bL_cancel 13 = .ok (.iconst 1, 1) := by decide +kernel
theorem dL_cancel_14 : decode bL_cancel 14 = .ok (.ireturn, 1) := by decide +kernel
theorem dL_cancel_15 : decode bL_cancel 15 = .ok (.astore_n 3, 1) := by decide +kernel
theorem dL_cancel_16 : decode bL_cancel 16 = .ok (.iconst 2, 1) := by decide +kernel
theorem dL_cancel_17 : decode bL_cancel 17 = .ok (.ireturn, 1) := by decide +kernel
theorem dL_cancel_18 : decode bL_cancel 18 = .ok (.iconst 0, 1) := by decide +kernel
theorem dL_cancel_19 : decode bL_cancel 19 = .ok (.ireturn, 1) := by decide +kernel
abbrev bL_moveBooking : ByteArray := method_38_code
def yL_moveBooking : MethodName := ⟨"ChannelScheduleLaw", "moveBooking", "(LChannelSchedule;II[J)I"⟩
theorem dL_moveBooking_0 : decode bL_moveBooking 0 = .ok (.aload_n 3, 1) := by decide +kernel
theorem dL_moveBooking_1 : decode bL_moveBooking 1 = .ok (.iconst 0, 1) := by decide +kernel
theorem dL_moveBooking_2 : decode bL_moveBooking 2 = .ok (.aload_n 0, 1) := by decide +kernel
theorem dL_moveBooking_3 : decode bL_moveBooking 3 = .ok (.iload_n 1, 1) := by decide +kernel
theorem dL_moveBooking_4 : decode bL_moveBooking 4 = .ok (.iload_n 2, 1) := by decide +kernel
theorem dL_moveBooking_5 : decode bL_moveBooking 5 = .ok (.invokevirtual 129, 3) := by decide +kernel
theorem dL_moveBooking_8 : decode bL_moveBooking 8 = .ok (.i2l, 1) := by decide +kernel
theorem dL_moveBooking_9 : decode bL_moveBooking 9 = .ok (.lastore, 1) := by decide +kernel
theorem dL_moveBooking_10 : decode bL_moveBooking 10 = .ok (.goto 15, 3) := by decide +kernel
theorem dL_moveBooking_13 : decode bL_moveBooking 13 = .ok (.astore 4, 2) := by decide +kernel
theorem dL_moveBooking_15 : decode bL_moveBooking 15 = .ok (.iconst 1, 1) := by decide +kernel
theorem dL_moveBooking_16 : decode bL_moveBooking 16 = .ok (.ireturn, 1) := by decide +kernel
theorem dL_moveBooking_17 : decode bL_moveBooking 17 = .ok (.astore 4, 2) := by decide +kernel
theorem dL_moveBooking_19 : decode bL_moveBooking 19 = .ok (.iconst 2, 1) := by decide +kernel
theorem dL_moveBooking_20 : decode bL_moveBooking 20 = .ok (.ireturn, 1) := by decide +kernel
theorem dL_moveBooking_21 : decode bL_moveBooking 21 = .ok (.astore 4, 2) := by decide +kernel
theorem dL_moveBooking_23 : decode bL_moveBooking 23 = .ok (.iconst 3, 1) := by decide +kernel
theorem dL_moveBooking_24 : decode bL_moveBooking 24 = .ok (.ireturn, 1) := by decide +kernel
theorem dL_moveBooking_25 : decode bL_moveBooking 25 = .ok (.iconst 0, 1) := by decide +kernel
theorem dL_moveBooking_26 : decode bL_moveBooking 26 = .ok (.ireturn, 1) := by decide +kernel
abbrev bL_withdraw : ByteArray := method_39_code
def yL_withdraw : MethodName := ⟨"ChannelScheduleLaw", "withdraw", "(LChannelSchedule;I[J)I"⟩
theorem dL_withdraw_0 : decode bL_withdraw 0 = .ok (.aload_n 2, 1) := by decide +kernel
theorem dL_withdraw_1 : decode bL_withdraw 1 = .ok (.iconst 0, 1) := by decide +kernel
theorem dL_withdraw_2 : decode bL_withdraw 2 = .ok (.aload_n 0, 1) := by decide +kernel
theorem dL_withdraw_3 : decode bL_withdraw 3 = .ok (.iload_n 1, 1) := by decide +kernel
theorem dL_withdraw_4 : decode bL_withdraw 4 = .ok (.invokevirtual 132, 3) := by decide +kernel
theorem dL_withdraw_7 : decode bL_withdraw 7 = .ok (.i2l, 1) := by decide +kernel
theorem dL_withdraw_8 : decode bL_withdraw 8 = .ok (.lastore, 1) := by decide +kernel
theorem dL_withdraw_9 : decode bL_withdraw 9 = .ok (.goto 6, 3) := by decide +kernel
theorem dL_withdraw_12 : decode bL_withdraw 12 = .ok (.astore_n 3, 1) := by decide +kernel
theorem dL_withdraw_13 : decode bL_withdraw 13 = .ok (.iconst 1, 1) := by decide +kernel
theorem dL_withdraw_14 : decode bL_withdraw 14 = .ok (.ireturn, 1) := by decide +kernel
theorem dL_withdraw_15 : decode bL_withdraw 15 = .ok (.iconst 0, 1) := by decide +kernel
theorem dL_withdraw_16 : decode bL_withdraw 16 = .ok (.ireturn, 1) := by decide +kernel
abbrev bL_setThickness : ByteArray := method_40_code
def yL_setThickness : MethodName := ⟨"ChannelScheduleLaw", "setThickness", "(LChannelSchedule;I[J)I"⟩
theorem dL_setThickness_0 : decode bL_setThickness 0 = .ok (.aload_n 2, 1) := by decide +kernel
theorem dL_setThickness_1 : decode bL_setThickness 1 = .ok (.iconst 0, 1) := by decide +kernel
theorem dL_setThickness_2 : decode bL_setThickness 2 = .ok (.aload_n 0, 1) := by decide +kernel
theorem dL_setThickness_3 : decode bL_setThickness 3 = .ok (.iload_n 1, 1) := by decide +kernel
theorem dL_setThickness_4 : decode bL_setThickness 4 = .ok (.invokevirtual 135, 3) := by decide +kernel
theorem dL_setThickness_7 : decode bL_setThickness 7 = .ok (.i2l, 1) := by decide +kernel
theorem dL_setThickness_8 : decode bL_setThickness 8 = .ok (.lastore, 1) := by decide +kernel
theorem dL_setThickness_9 : decode bL_setThickness 9 = .ok (.goto 6, 3) := by decide +kernel
theorem dL_setThickness_12 : decode bL_setThickness 12 = .ok (.astore_n 3, 1) := by decide +kernel
theorem dL_setThickness_13 : decode bL_setThickness 13 = .ok (.iconst 1, 1) := by decide +kernel
theorem dL_setThickness_14 : decode bL_setThickness 14 = .ok (.ireturn, 1) := by decide +kernel
theorem dL_setThickness_15 : decode bL_setThickness 15 = .ok (.iconst 0, 1) := by decide +kernel
theorem dL_setThickness_16 : decode bL_setThickness 16 = .ok (.ireturn, 1) := by decide +kernel
abbrev bL_advance : ByteArray := method_41_code
def yL_advance : MethodName := ⟨"ChannelScheduleLaw", "advance", "(LChannelSchedule;I[J)I"⟩
theorem dL_advance_0 : decode bL_advance 0 = .ok (.aload_n 2, 1) := by decide +kernel
theorem dL_advance_1 : decode bL_advance 1 = .ok (.iconst 0, 1) := by decide +kernel
theorem dL_advance_2 : decode bL_advance 2 = .ok (.aload_n 0, 1) := by decide +kernel
theorem dL_advance_3 : decode bL_advance 3 = .ok (.iload_n 1, 1) := by decide +kernel
theorem dL_advance_4 : decode bL_advance 4 = .ok (.invokevirtual 138, 3) := by decide +kernel
theorem dL_advance_7 : decode bL_advance 7 = .ok (.i2l, 1) := by decide +kernel
theorem dL_advance_8 : decode bL_advance 8 = .ok (.lastore, 1) := by decide +kernel
theorem dL_advance_9 : decode bL_advance 9 = .ok (.goto 9, 3) := by decide +kernel
theorem dL_advance_12 : decode bL_advance 12 = .ok (.astore_n 3, 1) := by decide +kernel
theorem dL_advance_13 : decode bL_advance 13 = .ok (.iconst 1, 1) := by decide +kernel
theorem dL_advance_14 : decode bL_advance 14 = .ok (.ireturn, 1) := by decide +kernel
theorem dL_advance_15 : decode bL_advance 15 = .ok (.astore_n 3, 1) := by decide +kernel
theorem dL_advance_16 : decode bL_advance 16 = .ok (.iconst 2, 1) := by decide +kernel
theorem dL_advance_17 : decode bL_advance 17 = .ok (.ireturn, 1) := by decide +kernel
theorem dL_advance_18 : decode bL_advance 18 = .ok (.iconst 0, 1) := by decide +kernel
theorem dL_advance_19 : decode bL_advance 19 = .ok (.ireturn, 1) := by decide +kernel
abbrev bL_runScript : ByteArray := method_42_code
def yL_runScript : MethodName := ⟨"ChannelScheduleLaw", "runScript", "(LChannelSchedule;[J)I"⟩
theorem dL_runScript_0 : decode bL_runScript 0 = .ok (.aload_n 1, 1) := by decide +kernel
theorem dL_runScript_1 : decode bL_runScript 1 = .ok (.iconst 0, 1) := by decide +kernel
theorem dL_runScript_2 : decode bL_runScript 2 = .ok (.aload_n 0, 1) := by decide +kernel
theorem dL_runScript_3 : decode bL_runScript 3 = .ok (.invokevirtual 141, 3) := by decide +kernel
theorem dL_runScript_6 : decode bL_runScript 6 = .ok (.i2l, 1) := by decide +kernel
theorem dL_runScript_7 : decode bL_runScript 7 = .ok (.lastore, 1) := by decide +kernel
theorem dL_runScript_8 : decode bL_runScript 8 = .ok (.goto 6, 3) := by decide +kernel
theorem dL_runScript_11 : decode bL_runScript 11 = .ok (.astore_n 2, 1) := by decide +kernel
theorem dL_runScript_12 : decode bL_runScript 12 = .ok (.iconst 1, 1) := by decide +kernel
theorem dL_runScript_13 : decode bL_runScript 13 = .ok (.ireturn, 1) := by decide +kernel
theorem dL_runScript_14 : decode bL_runScript 14 = .ok (.iconst 0, 1) := by decide +kernel
theorem dL_runScript_15 : decode bL_runScript 15 = .ok (.ireturn, 1) := by decide +kernel
abbrev bL_undo : ByteArray := method_43_code
def yL_undo : MethodName := ⟨"ChannelScheduleLaw", "undo", "(LChannelSchedule;[J)I"⟩
theorem dL_undo_0 : decode bL_undo 0 = .ok (.aload_n 1, 1) := by decide +kernel
theorem dL_undo_1 : decode bL_undo 1 = .ok (.iconst 0, 1) := by decide +kernel
theorem dL_undo_2 : decode bL_undo 2 = .ok (.aload_n 0, 1) := by decide +kernel
theorem dL_undo_3 : decode bL_undo 3 = .ok (.invokevirtual 144, 3) := by decide +kernel
theorem dL_undo_6 : decode bL_undo 6 = .ok (.i2l, 1) := by decide +kernel
theorem dL_undo_7 : decode bL_undo 7 = .ok (.lastore, 1) := by decide +kernel
theorem dL_undo_8 : decode bL_undo 8 = .ok (.goto 6, 3) := by decide +kernel
theorem dL_undo_11 : decode bL_undo 11 = .ok (.astore_n 2, 1) := by decide +kernel
theorem dL_undo_12 : decode bL_undo 12 = .ok (.iconst 1, 1) := by decide +kernel
theorem dL_undo_13 : decode bL_undo 13 = .ok (.ireturn, 1) := by decide +kernel
theorem dL_undo_14 : decode bL_undo 14 = .ok (.iconst 0, 1) := by decide +kernel
theorem dL_undo_15 : decode bL_undo 15 = .ok (.ireturn, 1) := by decide +kernel
abbrev bL_save : ByteArray := method_44_code
def yL_save : MethodName := ⟨"ChannelScheduleLaw", "save", "(LChannelSchedule;I[J)I"⟩
theorem dL_save_0 : decode bL_save 0 = .ok (.aload_n 2, 1) := by decide +kernel
theorem dL_save_1 : decode bL_save 1 = .ok (.iconst 0, 1) := by decide +kernel
theorem dL_save_2 : decode bL_save 2 = .ok (.aload_n 0, 1) := by decide +kernel
theorem dL_save_3 : decode bL_save 3 = .ok (.iload_n 1, 1) := by decide +kernel
theorem dL_save_4 : decode bL_save 4 = .ok (.invokevirtual 147, 3) := by decide +kernel
theorem dL_save_7 : decode bL_save 7 = .ok (.i2l, 1) := by decide +kernel
theorem dL_save_8 : decode bL_save 8 = .ok (.lastore, 1) := by decide +kernel
theorem dL_save_9 : decode bL_save 9 = .ok (.goto 6, 3) := by decide +kernel
theorem dL_save_12 : decode bL_save 12 = .ok (.astore_n 3, 1) := by decide +kernel
theorem dL_save_13 : decode bL_save 13 = .ok (.iconst 1, 1) := by decide +kernel
theorem dL_save_14 : decode bL_save 14 = .ok (.ireturn, 1) := by decide +kernel
theorem dL_save_15 : decode bL_save 15 = .ok (.iconst 0, 1) := by decide +kernel
theorem dL_save_16 : decode bL_save 16 = .ok (.ireturn, 1) := by decide +kernel
abbrev bL_restore : ByteArray := method_45_code
def yL_restore : MethodName := ⟨"ChannelScheduleLaw", "restore", "(LChannelSchedule;I[J)I"⟩
theorem dL_restore_0 : decode bL_restore 0 = .ok (.aload_n 2, 1) := by decide +kernel
theorem dL_restore_1 : decode bL_restore 1 = .ok (.iconst 0, 1) := by decide +kernel
theorem dL_restore_2 : decode bL_restore 2 = .ok (.aload_n 0, 1) := by decide +kernel
theorem dL_restore_3 : decode bL_restore 3 = .ok (.iload_n 1, 1) := by decide +kernel
theorem dL_restore_4 : decode bL_restore 4 = .ok (.invokevirtual 150, 3) := by decide +kernel
theorem dL_restore_7 : decode bL_restore 7 = .ok (.i2l, 1) := by decide +kernel
theorem dL_restore_8 : decode bL_restore 8 = .ok (.lastore, 1) := by decide +kernel
theorem dL_restore_9 : decode bL_restore 9 = .ok (.goto 9, 3) := by decide +kernel
theorem dL_restore_12 : decode bL_restore 12 = .ok (.astore_n 3, 1) := by decide +kernel
theorem dL_restore_13 : decode bL_restore 13 = .ok (.iconst 1, 1) := by decide +kernel
theorem dL_restore_14 : decode bL_restore 14 = .ok (.ireturn, 1) := by decide +kernel
theorem dL_restore_15 : decode bL_restore 15 = .ok (.astore_n 3, 1) := by decide +kernel
theorem dL_restore_16 : decode bL_restore 16 = .ok (.iconst 2, 1) := by decide +kernel
theorem dL_restore_17 : decode bL_restore 17 = .ok (.ireturn, 1) := by decide +kernel
theorem dL_restore_18 : decode bL_restore 18 = .ok (.iconst 0, 1) := by decide +kernel
theorem dL_restore_19 : decode bL_restore 19 = .ok (.ireturn, 1) := by decide +kernel
abbrev bL_outputByte : ByteArray := method_46_code
def yL_outputByte : MethodName := ⟨"ChannelScheduleLaw", "outputByte", "(LChannelSchedule;I[J)I"⟩
theorem dL_outputByte_0 : decode bL_outputByte 0 = .ok (.aload_n 2, 1) := by decide +kernel
theorem dL_outputByte_1 : decode bL_outputByte 1 = .ok (.iconst 0, 1) := by decide +kernel
theorem dL_outputByte_2 : decode bL_outputByte 2 = .ok (.aload_n 0, 1) := by decide +kernel
theorem dL_outputByte_3 : decode bL_outputByte 3 = .ok (.iload_n 1, 1) := by decide +kernel
theorem dL_outputByte_4 : decode bL_outputByte 4 = .ok (.invokevirtual 153, 3) := by decide +kernel
theorem dL_outputByte_7 : decode bL_outputByte 7 = .ok (.i2l, 1) := by decide +kernel
theorem dL_outputByte_8 : decode bL_outputByte 8 = .ok (.lastore, 1) := by decide +kernel
theorem dL_outputByte_9 : decode bL_outputByte 9 = .ok (.goto 6, 3) := by decide +kernel
theorem dL_outputByte_12 : decode bL_outputByte 12 = .ok (.astore_n 3, 1) := by decide +kernel
theorem dL_outputByte_13 : decode bL_outputByte 13 = .ok (.iconst 1, 1) := by decide +kernel
theorem dL_outputByte_14 : decode bL_outputByte 14 = .ok (.ireturn, 1) := by decide +kernel
theorem dL_outputByte_15 : decode bL_outputByte 15 = .ok (.iconst 0, 1) := by decide +kernel
theorem dL_outputByte_16 : decode bL_outputByte 16 = .ok (.ireturn, 1) := by decide +kernel
def hhL_append : List (Nat × Nat × Nat × Nat) := [(0, 16, 19, 13)]
theorem whL_append : .static yL_append ∈ LW ∧ .codeWith yL_append bL_append 8 (some .int) hhL_append ∈ LW := ⟨LW_i 654 (by decide +kernel) (by decide +kernel), LW_i 655 (by decide +kernel) (by decide +kernel)⟩
def hhL_truncate : List (Nat × Nat × Nat × Nat) := [(0, 9, 12, 19)]
theorem whL_truncate : .static yL_truncate ∈ LW ∧ .codeWith yL_truncate bL_truncate 4 (some .int) hhL_truncate ∈ LW := ⟨LW_i 734 (by decide +kernel) (by decide +kernel), LW_i 735 (by decide +kernel) (by decide +kernel)⟩
def hhL_load : List (Nat × Nat × Nat × Nat) := [(0, 8, 11, 19)]
theorem whL_load : .static yL_load ∈ LW ∧ .codeWith yL_load bL_load 3 (some .int) hhL_load ∈ LW := ⟨LW_i 763 (by decide +kernel) (by decide +kernel), LW_i 764 (by decide +kernel) (by decide +kernel)⟩
def hhL_transitTime : List (Nat × Nat × Nat × Nat) := [(0, 9, 12, 28)]
theorem whL_transitTime : .static yL_transitTime ∈ LW ∧ .codeWith yL_transitTime bL_transitTime 4 (some .int) hhL_transitTime ∈ LW := ⟨LW_i 770 (by decide +kernel) (by decide +kernel), LW_i 771 (by decide +kernel) (by decide +kernel)⟩
def hhL_iceClass : List (Nat × Nat × Nat × Nat) := [(0, 9, 12, 28)]
theorem whL_iceClass : .static yL_iceClass ∈ LW ∧ .codeWith yL_iceClass bL_iceClass 4 (some .int) hhL_iceClass ∈ LW := ⟨LW_i 803 (by decide +kernel) (by decide +kernel), LW_i 804 (by decide +kernel) (by decide +kernel)⟩
def hhL_weight : List (Nat × Nat × Nat × Nat) := [(0, 9, 12, 28)]
theorem whL_weight : .static yL_weight ∈ LW ∧ .codeWith yL_weight bL_weight 4 (some .int) hhL_weight ∈ LW := ⟨LW_i 810 (by decide +kernel) (by decide +kernel), LW_i 811 (by decide +kernel) (by decide +kernel)⟩
def hhL_shipNameByte : List (Nat × Nat × Nat × Nat) := [(0, 10, 13, 28)]
theorem whL_shipNameByte : .static yL_shipNameByte ∈ LW ∧ .codeWith yL_shipNameByte bL_shipNameByte 5 (some .int) hhL_shipNameByte ∈ LW := ⟨LW_i 817 (by decide +kernel) (by decide +kernel), LW_i 818 (by decide +kernel) (by decide +kernel)⟩
def hhL_findShip : List (Nat × Nat × Nat × Nat) := [(0, 8, 11, 43)]
theorem whL_findShip : .static yL_findShip ∈ LW ∧ .codeWith yL_findShip bL_findShip 3 (some .int) hhL_findShip ∈ LW := ⟨LW_i 824 (by decide +kernel) (by decide +kernel), LW_i 825 (by decide +kernel) (by decide +kernel)⟩
def hhL_bookedShip : List (Nat × Nat × Nat × Nat) := [(0, 9, 12, 28)]
theorem whL_bookedShip : .static yL_bookedShip ∈ LW ∧ .codeWith yL_bookedShip bL_bookedShip 4 (some .int) hhL_bookedShip ∈ LW := ⟨LW_i 850 (by decide +kernel) (by decide +kernel), LW_i 851 (by decide +kernel) (by decide +kernel)⟩
def hhL_startMinute : List (Nat × Nat × Nat × Nat) := [(0, 9, 12, 28)]
theorem whL_startMinute : .static yL_startMinute ∈ LW ∧ .codeWith yL_startMinute bL_startMinute 4 (some .int) hhL_startMinute ∈ LW := ⟨LW_i 861 (by decide +kernel) (by decide +kernel), LW_i 862 (by decide +kernel) (by decide +kernel)⟩
def hhL_endMinute : List (Nat × Nat × Nat × Nat) := [(0, 9, 12, 28)]
theorem whL_endMinute : .static yL_endMinute ∈ LW ∧ .codeWith yL_endMinute bL_endMinute 4 (some .int) hhL_endMinute ∈ LW := ⟨LW_i 868 (by decide +kernel) (by decide +kernel), LW_i 869 (by decide +kernel) (by decide +kernel)⟩
def hhL_isInbound : List (Nat × Nat × Nat × Nat) := [(0, 16, 19, 28)]
theorem whL_isInbound : .static yL_isInbound ∈ LW ∧ .codeWith yL_isInbound bL_isInbound 4 (some .int) hhL_isInbound ∈ LW := ⟨LW_i 875 (by decide +kernel) (by decide +kernel), LW_i 876 (by decide +kernel) (by decide +kernel)⟩
def hhL_isFinished : List (Nat × Nat × Nat × Nat) := [(0, 16, 19, 28)]
theorem whL_isFinished : .static yL_isFinished ∈ LW ∧ .codeWith yL_isFinished bL_isFinished 4 (some .int) hhL_isFinished ∈ LW := ⟨LW_i 882 (by decide +kernel) (by decide +kernel), LW_i 883 (by decide +kernel) (by decide +kernel)⟩
def hhL_isUnderWay : List (Nat × Nat × Nat × Nat) := [(0, 16, 19, 28)]
theorem whL_isUnderWay : .static yL_isUnderWay ∈ LW ∧ .codeWith yL_isUnderWay bL_isUnderWay 4 (some .int) hhL_isUnderWay ∈ LW := ⟨LW_i 889 (by decide +kernel) (by decide +kernel), LW_i 890 (by decide +kernel) (by decide +kernel)⟩
def hhL_occupancy : List (Nat × Nat × Nat × Nat) := [(0, 9, 12, 19)]
theorem whL_occupancy : .static yL_occupancy ∈ LW ∧ .codeWith yL_occupancy bL_occupancy 4 (some .int) hhL_occupancy ∈ LW := ⟨LW_i 896 (by decide +kernel) (by decide +kernel), LW_i 897 (by decide +kernel) (by decide +kernel)⟩
def hhL_emptyMinutes : List (Nat × Nat × Nat × Nat) := [(0, 10, 13, 19)]
theorem whL_emptyMinutes : .static yL_emptyMinutes ∈ LW ∧ .codeWith yL_emptyMinutes bL_emptyMinutes 5 (some .int) hhL_emptyMinutes ∈ LW := ⟨LW_i 903 (by decide +kernel) (by decide +kernel), LW_i 904 (by decide +kernel) (by decide +kernel)⟩
def hhL_longestEmptyRun : List (Nat × Nat × Nat × Nat) := [(0, 10, 13, 19)]
theorem whL_longestEmptyRun : .static yL_longestEmptyRun ∈ LW ∧ .codeWith yL_longestEmptyRun bL_longestEmptyRun 5 (some .int) hhL_longestEmptyRun ∈ LW := ⟨LW_i 910 (by decide +kernel) (by decide +kernel), LW_i 911 (by decide +kernel) (by decide +kernel)⟩
def hhL_conflictCount : List (Nat × Nat × Nat × Nat) := [(0, 12, 15, 28), (0, 12, 19, 19)]
theorem whL_conflictCount : .static yL_conflictCount ∈ LW ∧ .codeWith yL_conflictCount bL_conflictCount 6 (some .int) hhL_conflictCount ∈ LW := ⟨LW_i 917 (by decide +kernel) (by decide +kernel), LW_i 918 (by decide +kernel) (by decide +kernel)⟩
def hhL_firstConflict : List (Nat × Nat × Nat × Nat) := [(0, 12, 15, 28), (0, 12, 19, 19)]
theorem whL_firstConflict : .static yL_firstConflict ∈ LW ∧ .codeWith yL_firstConflict bL_firstConflict 6 (some .int) hhL_firstConflict ∈ LW := ⟨LW_i 924 (by decide +kernel) (by decide +kernel), LW_i 925 (by decide +kernel) (by decide +kernel)⟩
def hhL_earliestStart : List (Nat × Nat × Nat × Nat) := [(0, 12, 15, 28), (0, 12, 19, 19)]
theorem whL_earliestStart : .static yL_earliestStart ∈ LW ∧ .codeWith yL_earliestStart bL_earliestStart 6 (some .int) hhL_earliestStart ∈ LW := ⟨LW_i 931 (by decide +kernel) (by decide +kernel), LW_i 932 (by decide +kernel) (by decide +kernel)⟩
def hhL_latestStart : List (Nat × Nat × Nat × Nat) := [(0, 12, 15, 28), (0, 12, 19, 19)]
theorem whL_latestStart : .static yL_latestStart ∈ LW ∧ .codeWith yL_latestStart bL_latestStart 6 (some .int) hhL_latestStart ∈ LW := ⟨LW_i 942 (by decide +kernel) (by decide +kernel), LW_i 943 (by decide +kernel) (by decide +kernel)⟩
def hhL_bestCancellation : List (Nat × Nat × Nat × Nat) := [(0, 12, 15, 28), (0, 12, 19, 19), (0, 12, 23, 43)]
theorem whL_bestCancellation : .static yL_bestCancellation ∈ LW ∧ .codeWith yL_bestCancellation bL_bestCancellation 6 (some .int) hhL_bestCancellation ∈ LW := ⟨LW_i 953 (by decide +kernel) (by decide +kernel), LW_i 954 (by decide +kernel) (by decide +kernel)⟩
def hhL_slack : List (Nat × Nat × Nat × Nat) := [(0, 9, 12, 28)]
theorem whL_slack : .static yL_slack ∈ LW ∧ .codeWith yL_slack bL_slack 4 (some .int) hhL_slack ∈ LW := ⟨LW_i 960 (by decide +kernel) (by decide +kernel), LW_i 961 (by decide +kernel) (by decide +kernel)⟩
def hhL_whyNotMovable : List (Nat × Nat × Nat × Nat) := [(0, 10, 13, 28), (0, 10, 17, 19)]
theorem whL_whyNotMovable : .static yL_whyNotMovable ∈ LW ∧ .codeWith yL_whyNotMovable bL_whyNotMovable 5 (some .int) hhL_whyNotMovable ∈ LW := ⟨LW_i 967 (by decide +kernel) (by decide +kernel), LW_i 968 (by decide +kernel) (by decide +kernel)⟩
def hhL_requestedShip : List (Nat × Nat × Nat × Nat) := [(0, 9, 12, 28)]
theorem whL_requestedShip : .static yL_requestedShip ∈ LW ∧ .codeWith yL_requestedShip bL_requestedShip 4 (some .int) hhL_requestedShip ∈ LW := ⟨LW_i 978 (by decide +kernel) (by decide +kernel), LW_i 979 (by decide +kernel) (by decide +kernel)⟩
def hhL_isRequestInbound : List (Nat × Nat × Nat × Nat) := [(0, 16, 19, 28)]
theorem whL_isRequestInbound : .static yL_isRequestInbound ∈ LW ∧ .codeWith yL_isRequestInbound bL_isRequestInbound 4 (some .int) hhL_isRequestInbound ∈ LW := ⟨LW_i 989 (by decide +kernel) (by decide +kernel), LW_i 990 (by decide +kernel) (by decide +kernel)⟩
def hhL_earliestRequested : List (Nat × Nat × Nat × Nat) := [(0, 9, 12, 28)]
theorem whL_earliestRequested : .static yL_earliestRequested ∈ LW ∧ .codeWith yL_earliestRequested bL_earliestRequested 4 (some .int) hhL_earliestRequested ∈ LW := ⟨LW_i 996 (by decide +kernel) (by decide +kernel), LW_i 997 (by decide +kernel) (by decide +kernel)⟩
def hhL_latestRequested : List (Nat × Nat × Nat × Nat) := [(0, 9, 12, 28)]
theorem whL_latestRequested : .static yL_latestRequested ∈ LW ∧ .codeWith yL_latestRequested bL_latestRequested 4 (some .int) hhL_latestRequested ∈ LW := ⟨LW_i 1003 (by decide +kernel) (by decide +kernel), LW_i 1004 (by decide +kernel) (by decide +kernel)⟩
def hhL_whyNotFeasible : List (Nat × Nat × Nat × Nat) := [(0, 9, 12, 28)]
theorem whL_whyNotFeasible : .static yL_whyNotFeasible ∈ LW ∧ .codeWith yL_whyNotFeasible bL_whyNotFeasible 4 (some .int) hhL_whyNotFeasible ∈ LW := ⟨LW_i 1010 (by decide +kernel) (by decide +kernel), LW_i 1011 (by decide +kernel) (by decide +kernel)⟩
def hhL_isSelected : List (Nat × Nat × Nat × Nat) := [(0, 16, 19, 28)]
theorem whL_isSelected : .static yL_isSelected ∈ LW ∧ .codeWith yL_isSelected bL_isSelected 4 (some .int) hhL_isSelected ∈ LW := ⟨LW_i 1025 (by decide +kernel) (by decide +kernel), LW_i 1026 (by decide +kernel) (by decide +kernel)⟩
def hhL_servedWithout : List (Nat × Nat × Nat × Nat) := [(0, 9, 12, 28)]
theorem whL_servedWithout : .static yL_servedWithout ∈ LW ∧ .codeWith yL_servedWithout bL_servedWithout 4 (some .int) hhL_servedWithout ∈ LW := ⟨LW_i 1032 (by decide +kernel) (by decide +kernel), LW_i 1033 (by decide +kernel) (by decide +kernel)⟩
def hhL_feasibleStart : List (Nat × Nat × Nat × Nat) := [(0, 9, 12, 28)]
theorem whL_feasibleStart : .static yL_feasibleStart ∈ LW ∧ .codeWith yL_feasibleStart bL_feasibleStart 4 (some .int) hhL_feasibleStart ∈ LW := ⟨LW_i 1075 (by decide +kernel) (by decide +kernel), LW_i 1076 (by decide +kernel) (by decide +kernel)⟩
def hhL_book : List (Nat × Nat × Nat × Nat) := [(0, 12, 15, 28), (0, 12, 19, 19), (0, 12, 23, 13)]
theorem whL_book : .static yL_book ∈ LW ∧ .codeWith yL_book bL_book 6 (some .int) hhL_book ∈ LW := ⟨LW_i 1082 (by decide +kernel) (by decide +kernel), LW_i 1083 (by decide +kernel) (by decide +kernel)⟩
def hhL_request : List (Nat × Nat × Nat × Nat) := [(0, 14, 17, 28), (0, 14, 21, 19), (0, 14, 25, 13)]
theorem whL_request : .static yL_request ∈ LW ∧ .codeWith yL_request bL_request 7 (some .int) hhL_request ∈ LW := ⟨LW_i 1100 (by decide +kernel) (by decide +kernel), LW_i 1101 (by decide +kernel) (by decide +kernel)⟩
def hhL_cancel : List (Nat × Nat × Nat × Nat) := [(0, 9, 12, 28), (0, 9, 15, 13)]
theorem whL_cancel : .static yL_cancel ∈ LW ∧ .codeWith yL_cancel bL_cancel 4 (some .int) hhL_cancel ∈ LW := ⟨LW_i 1119 (by decide +kernel) (by decide +kernel), LW_i 1120 (by decide +kernel) (by decide +kernel)⟩
def hhL_moveBooking : List (Nat × Nat × Nat × Nat) := [(0, 10, 13, 28), (0, 10, 17, 19), (0, 10, 21, 13)]
theorem whL_moveBooking : .static yL_moveBooking ∈ LW ∧ .codeWith yL_moveBooking bL_moveBooking 5 (some .int) hhL_moveBooking ∈ LW := ⟨LW_i 1130 (by decide +kernel) (by decide +kernel), LW_i 1131 (by decide +kernel) (by decide +kernel)⟩
def hhL_withdraw : List (Nat × Nat × Nat × Nat) := [(0, 9, 12, 28)]
theorem whL_withdraw : .static yL_withdraw ∈ LW ∧ .codeWith yL_withdraw bL_withdraw 4 (some .int) hhL_withdraw ∈ LW := ⟨LW_i 1145 (by decide +kernel) (by decide +kernel), LW_i 1146 (by decide +kernel) (by decide +kernel)⟩
def hhL_setThickness : List (Nat × Nat × Nat × Nat) := [(0, 9, 12, 19)]
theorem whL_setThickness : .static yL_setThickness ∈ LW ∧ .codeWith yL_setThickness bL_setThickness 4 (some .int) hhL_setThickness ∈ LW := ⟨LW_i 1152 (by decide +kernel) (by decide +kernel), LW_i 1153 (by decide +kernel) (by decide +kernel)⟩
def hhL_advance : List (Nat × Nat × Nat × Nat) := [(0, 9, 12, 19), (0, 9, 15, 13)]
theorem whL_advance : .static yL_advance ∈ LW ∧ .codeWith yL_advance bL_advance 4 (some .int) hhL_advance ∈ LW := ⟨LW_i 1163 (by decide +kernel) (by decide +kernel), LW_i 1164 (by decide +kernel) (by decide +kernel)⟩
def hhL_runScript : List (Nat × Nat × Nat × Nat) := [(0, 8, 11, 19)]
theorem whL_runScript : .static yL_runScript ∈ LW ∧ .codeWith yL_runScript bL_runScript 3 (some .int) hhL_runScript ∈ LW := ⟨LW_i 1178 (by decide +kernel) (by decide +kernel), LW_i 1179 (by decide +kernel) (by decide +kernel)⟩
def hhL_undo : List (Nat × Nat × Nat × Nat) := [(0, 8, 11, 13)]
theorem whL_undo : .static yL_undo ∈ LW ∧ .codeWith yL_undo bL_undo 3 (some .int) hhL_undo ∈ LW := ⟨LW_i 1218 (by decide +kernel) (by decide +kernel), LW_i 1219 (by decide +kernel) (by decide +kernel)⟩
def hhL_save : List (Nat × Nat × Nat × Nat) := [(0, 9, 12, 28)]
theorem whL_save : .static yL_save ∈ LW ∧ .codeWith yL_save bL_save 4 (some .int) hhL_save ∈ LW := ⟨LW_i 1225 (by decide +kernel) (by decide +kernel), LW_i 1226 (by decide +kernel) (by decide +kernel)⟩
def hhL_restore : List (Nat × Nat × Nat × Nat) := [(0, 9, 12, 28), (0, 9, 15, 13)]
theorem whL_restore : .static yL_restore ∈ LW ∧ .codeWith yL_restore bL_restore 4 (some .int) hhL_restore ∈ LW := ⟨LW_i 1232 (by decide +kernel) (by decide +kernel), LW_i 1233 (by decide +kernel) (by decide +kernel)⟩
def hhL_outputByte : List (Nat × Nat × Nat × Nat) := [(0, 9, 12, 28)]
theorem whL_outputByte : .static yL_outputByte ∈ LW ∧ .codeWith yL_outputByte bL_outputByte 4 (some .int) hhL_outputByte ∈ LW := ⟨LW_i 1239 (by decide +kernel) (by decide +kernel), LW_i 1240 (by decide +kernel) (by decide +kernel)⟩
theorem wiL : .initialized "ChannelScheduleLaw" ∈ LW := LW_i 109 (by decide +kernel) (by decide +kernel)
theorem lL_7 : .methodLink "ChannelScheduleLaw" 7 y5_append ∈ LW := LW_i 657 (by decide +kernel) (by decide +kernel)
theorem lL_15 : .methodLink "ChannelScheduleLaw" 15 y5_truncate ∈ LW := LW_i 737 (by decide +kernel) (by decide +kernel)
theorem lL_21 : .methodLink "ChannelScheduleLaw" 21 y5_load ∈ LW := LW_i 765 (by decide +kernel) (by decide +kernel)
theorem lL_25 : .methodLink "ChannelScheduleLaw" 25 y5_transitTime ∈ LW := LW_i 773 (by decide +kernel) (by decide +kernel)
theorem lL_30 : .methodLink "ChannelScheduleLaw" 30 y5_iceClass ∈ LW := LW_i 805 (by decide +kernel) (by decide +kernel)
theorem lL_33 : .methodLink "ChannelScheduleLaw" 33 y5_weight ∈ LW := LW_i 812 (by decide +kernel) (by decide +kernel)
theorem lL_36 : .methodLink "ChannelScheduleLaw" 36 y5_shipNameByte ∈ LW := LW_i 819 (by decide +kernel) (by decide +kernel)
theorem lL_40 : .methodLink "ChannelScheduleLaw" 40 y5_findShip ∈ LW := LW_i 827 (by decide +kernel) (by decide +kernel)
theorem lL_45 : .methodLink "ChannelScheduleLaw" 45 y5_bookedShip ∈ LW := LW_i 852 (by decide +kernel) (by decide +kernel)
theorem lL_48 : .methodLink "ChannelScheduleLaw" 48 y5_startMinute ∈ LW := LW_i 863 (by decide +kernel) (by decide +kernel)
theorem lL_51 : .methodLink "ChannelScheduleLaw" 51 y5_endMinute ∈ LW := LW_i 870 (by decide +kernel) (by decide +kernel)
theorem lL_54 : .methodLink "ChannelScheduleLaw" 54 y5_isInbound ∈ LW := LW_i 877 (by decide +kernel) (by decide +kernel)
theorem lL_58 : .methodLink "ChannelScheduleLaw" 58 y5_isFinished ∈ LW := LW_i 884 (by decide +kernel) (by decide +kernel)
theorem lL_61 : .methodLink "ChannelScheduleLaw" 61 y5_isUnderWay ∈ LW := LW_i 891 (by decide +kernel) (by decide +kernel)
theorem lL_64 : .methodLink "ChannelScheduleLaw" 64 y5_occupancy ∈ LW := LW_i 898 (by decide +kernel) (by decide +kernel)
theorem lL_67 : .methodLink "ChannelScheduleLaw" 67 y5_emptyMinutes ∈ LW := LW_i 905 (by decide +kernel) (by decide +kernel)
theorem lL_70 : .methodLink "ChannelScheduleLaw" 70 y5_longestEmptyRun ∈ LW := LW_i 912 (by decide +kernel) (by decide +kernel)
theorem lL_73 : .methodLink "ChannelScheduleLaw" 73 y5_conflictCount ∈ LW := LW_i 919 (by decide +kernel) (by decide +kernel)
theorem lL_77 : .methodLink "ChannelScheduleLaw" 77 y5_firstConflict ∈ LW := LW_i 926 (by decide +kernel) (by decide +kernel)
theorem lL_80 : .methodLink "ChannelScheduleLaw" 80 y5_earliestStart ∈ LW := LW_i 933 (by decide +kernel) (by decide +kernel)
theorem lL_83 : .methodLink "ChannelScheduleLaw" 83 y5_latestStart ∈ LW := LW_i 944 (by decide +kernel) (by decide +kernel)
theorem lL_86 : .methodLink "ChannelScheduleLaw" 86 y5_bestCancellation ∈ LW := LW_i 955 (by decide +kernel) (by decide +kernel)
theorem lL_89 : .methodLink "ChannelScheduleLaw" 89 y5_slack ∈ LW := LW_i 962 (by decide +kernel) (by decide +kernel)
theorem lL_92 : .methodLink "ChannelScheduleLaw" 92 y5_whyNotMovable ∈ LW := LW_i 969 (by decide +kernel) (by decide +kernel)
theorem lL_95 : .methodLink "ChannelScheduleLaw" 95 y5_requestedShip ∈ LW := LW_i 980 (by decide +kernel) (by decide +kernel)
theorem lL_98 : .methodLink "ChannelScheduleLaw" 98 y5_isRequestInbound ∈ LW := LW_i 991 (by decide +kernel) (by decide +kernel)
theorem lL_101 : .methodLink "ChannelScheduleLaw" 101 y5_earliestRequested ∈ LW := LW_i 998 (by decide +kernel) (by decide +kernel)
theorem lL_104 : .methodLink "ChannelScheduleLaw" 104 y5_latestRequested ∈ LW := LW_i 1005 (by decide +kernel) (by decide +kernel)
theorem lL_107 : .methodLink "ChannelScheduleLaw" 107 y5_whyNotFeasible ∈ LW := LW_i 1012 (by decide +kernel) (by decide +kernel)
theorem lL_110 : .methodLink "ChannelScheduleLaw" 110 y5_isSelected ∈ LW := LW_i 1027 (by decide +kernel) (by decide +kernel)
theorem lL_113 : .methodLink "ChannelScheduleLaw" 113 y5_servedWithout ∈ LW := LW_i 1034 (by decide +kernel) (by decide +kernel)
theorem lL_116 : .methodLink "ChannelScheduleLaw" 116 y5_feasibleStart ∈ LW := LW_i 1077 (by decide +kernel) (by decide +kernel)
theorem lL_119 : .methodLink "ChannelScheduleLaw" 119 y5_book ∈ LW := LW_i 1084 (by decide +kernel) (by decide +kernel)
theorem lL_122 : .methodLink "ChannelScheduleLaw" 122 y5_request ∈ LW := LW_i 1102 (by decide +kernel) (by decide +kernel)
theorem lL_126 : .methodLink "ChannelScheduleLaw" 126 y5_cancel ∈ LW := LW_i 1121 (by decide +kernel) (by decide +kernel)
theorem lL_129 : .methodLink "ChannelScheduleLaw" 129 y5_moveBooking ∈ LW := LW_i 1132 (by decide +kernel) (by decide +kernel)
theorem lL_132 : .methodLink "ChannelScheduleLaw" 132 y5_withdraw ∈ LW := LW_i 1147 (by decide +kernel) (by decide +kernel)
theorem lL_135 : .methodLink "ChannelScheduleLaw" 135 y5_setThickness ∈ LW := LW_i 1154 (by decide +kernel) (by decide +kernel)
theorem lL_138 : .methodLink "ChannelScheduleLaw" 138 y5_advance ∈ LW := LW_i 1165 (by decide +kernel) (by decide +kernel)
theorem lL_141 : .methodLink "ChannelScheduleLaw" 141 y5_runScript ∈ LW := LW_i 1180 (by decide +kernel) (by decide +kernel)
theorem lL_144 : .methodLink "ChannelScheduleLaw" 144 y5_undo ∈ LW := LW_i 1220 (by decide +kernel) (by decide +kernel)
theorem lL_147 : .methodLink "ChannelScheduleLaw" 147 y5_save ∈ LW := LW_i 1227 (by decide +kernel) (by decide +kernel)
theorem lL_150 : .methodLink "ChannelScheduleLaw" 150 y5_restore ∈ LW := LW_i 1234 (by decide +kernel) (by decide +kernel)
theorem lL_153 : .methodLink "ChannelScheduleLaw" 153 y5_outputByte ∈ LW := LW_i 1241 (by decide +kernel) (by decide +kernel)
theorem lL_156 : .methodLink "ChannelScheduleLaw" 156 y5_init ∈ LW := LW_i 131 (by decide +kernel) (by decide +kernel)
theorem lL_159 : .methodLink "ChannelScheduleLaw" 159 y6_init ∈ LW := LW_i 1251 (by decide +kernel) (by decide +kernel)
theorem lL_160 : .methodLink "ChannelScheduleLaw" 160 ⟨"ChannelScheduleLaw", "append", "(LChannelSchedule;IIIII[J)I"⟩ ∈ LW := LW_i 653 (by decide +kernel) (by decide +kernel)
theorem lL_165 : .methodLink "ChannelScheduleLaw" 165 y6_append ∈ LW := LW_i 1359 (by decide +kernel) (by decide +kernel)
theorem lL_166 : .methodLink "ChannelScheduleLaw" 166 y6_thrown ∈ LW := LW_i 1245 (by decide +kernel) (by decide +kernel)
theorem lL_169 : .methodLink "ChannelScheduleLaw" 169 ⟨"ChannelScheduleLaw", "truncate", "(LChannelSchedule;I[J)I"⟩ ∈ LW := LW_i 733 (by decide +kernel) (by decide +kernel)
theorem lL_172 : .methodLink "ChannelScheduleLaw" 172 y6_truncate ∈ LW := LW_i 1371 (by decide +kernel) (by decide +kernel)
theorem lL_173 : .methodLink "ChannelScheduleLaw" 173 ⟨"ChannelScheduleLaw", "load", "(LChannelSchedule;[J)I"⟩ ∈ LW := LW_i 762 (by decide +kernel) (by decide +kernel)
theorem lL_176 : .methodLink "ChannelScheduleLaw" 176 y6_load ∈ LW := LW_i 1375 (by decide +kernel) (by decide +kernel)
theorem lL_177 : .methodLink "ChannelScheduleLaw" 177 y5_errorCode ∈ LW := LW_i 507 (by decide +kernel) (by decide +kernel)
theorem lL_180 : .methodLink "ChannelScheduleLaw" 180 y6_errorCode ∈ LW := LW_i 1539 (by decide +kernel) (by decide +kernel)
theorem lL_181 : .methodLink "ChannelScheduleLaw" 181 y5_errorPosition ∈ LW := LW_i 511 (by decide +kernel) (by decide +kernel)
theorem lL_184 : .methodLink "ChannelScheduleLaw" 184 y6_errorPosition ∈ LW := LW_i 1543 (by decide +kernel) (by decide +kernel)
theorem lL_185 : .methodLink "ChannelScheduleLaw" 185 y5_shipCount ∈ LW := LW_i 515 (by decide +kernel) (by decide +kernel)
theorem lL_188 : .methodLink "ChannelScheduleLaw" 188 y6_shipCount ∈ LW := LW_i 1547 (by decide +kernel) (by decide +kernel)
theorem lL_189 : .methodLink "ChannelScheduleLaw" 189 y5_headway ∈ LW := LW_i 519 (by decide +kernel) (by decide +kernel)
theorem lL_192 : .methodLink "ChannelScheduleLaw" 192 y6_headway ∈ LW := LW_i 1555 (by decide +kernel) (by decide +kernel)
theorem lL_193 : .methodLink "ChannelScheduleLaw" 193 y5_clearance ∈ LW := LW_i 523 (by decide +kernel) (by decide +kernel)
theorem lL_196 : .methodLink "ChannelScheduleLaw" 196 y6_clearance ∈ LW := LW_i 1559 (by decide +kernel) (by decide +kernel)
theorem lL_197 : .methodLink "ChannelScheduleLaw" 197 y5_thickness ∈ LW := LW_i 527 (by decide +kernel) (by decide +kernel)
theorem lL_200 : .methodLink "ChannelScheduleLaw" 200 y6_thickness ∈ LW := LW_i 1563 (by decide +kernel) (by decide +kernel)
theorem lL_201 : .methodLink "ChannelScheduleLaw" 201 y5_minute ∈ LW := LW_i 531 (by decide +kernel) (by decide +kernel)
theorem lL_204 : .methodLink "ChannelScheduleLaw" 204 y6_minute ∈ LW := LW_i 1567 (by decide +kernel) (by decide +kernel)
theorem lL_205 : .methodLink "ChannelScheduleLaw" 205 ⟨"ChannelScheduleLaw", "transitTime", "(LChannelSchedule;I[J)I"⟩ ∈ LW := LW_i 769 (by decide +kernel) (by decide +kernel)
theorem lL_207 : .methodLink "ChannelScheduleLaw" 207 y6_transitTime ∈ LW := LW_i 1571 (by decide +kernel) (by decide +kernel)
theorem lL_208 : .methodLink "ChannelScheduleLaw" 208 ⟨"ChannelScheduleLaw", "iceClass", "(LChannelSchedule;I[J)I"⟩ ∈ LW := LW_i 802 (by decide +kernel) (by decide +kernel)
theorem lL_210 : .methodLink "ChannelScheduleLaw" 210 y6_iceClass ∈ LW := LW_i 1579 (by decide +kernel) (by decide +kernel)
theorem lL_211 : .methodLink "ChannelScheduleLaw" 211 ⟨"ChannelScheduleLaw", "weight", "(LChannelSchedule;I[J)I"⟩ ∈ LW := LW_i 809 (by decide +kernel) (by decide +kernel)
theorem lL_213 : .methodLink "ChannelScheduleLaw" 213 y6_weight ∈ LW := LW_i 1583 (by decide +kernel) (by decide +kernel)
theorem lL_214 : .methodLink "ChannelScheduleLaw" 214 ⟨"ChannelScheduleLaw", "shipNameByte", "(LChannelSchedule;II[J)I"⟩ ∈ LW := LW_i 816 (by decide +kernel) (by decide +kernel)
theorem lL_217 : .methodLink "ChannelScheduleLaw" 217 y6_shipNameByte ∈ LW := LW_i 1587 (by decide +kernel) (by decide +kernel)
theorem lL_218 : .methodLink "ChannelScheduleLaw" 218 ⟨"ChannelScheduleLaw", "findShip", "(LChannelSchedule;[J)I"⟩ ∈ LW := LW_i 823 (by decide +kernel) (by decide +kernel)
theorem lL_220 : .methodLink "ChannelScheduleLaw" 220 y6_findShip ∈ LW := LW_i 1591 (by decide +kernel) (by decide +kernel)
theorem lL_221 : .methodLink "ChannelScheduleLaw" 221 y5_bookingCount ∈ LW := LW_i 535 (by decide +kernel) (by decide +kernel)
theorem lL_224 : .methodLink "ChannelScheduleLaw" 224 y6_bookingCount ∈ LW := LW_i 1595 (by decide +kernel) (by decide +kernel)
theorem lL_225 : .methodLink "ChannelScheduleLaw" 225 ⟨"ChannelScheduleLaw", "bookedShip", "(LChannelSchedule;I[J)I"⟩ ∈ LW := LW_i 849 (by decide +kernel) (by decide +kernel)
theorem lL_227 : .methodLink "ChannelScheduleLaw" 227 y6_bookedShip ∈ LW := LW_i 1599 (by decide +kernel) (by decide +kernel)
theorem lL_228 : .methodLink "ChannelScheduleLaw" 228 ⟨"ChannelScheduleLaw", "startMinute", "(LChannelSchedule;I[J)I"⟩ ∈ LW := LW_i 860 (by decide +kernel) (by decide +kernel)
theorem lL_230 : .methodLink "ChannelScheduleLaw" 230 y6_startMinute ∈ LW := LW_i 1607 (by decide +kernel) (by decide +kernel)
theorem lL_231 : .methodLink "ChannelScheduleLaw" 231 ⟨"ChannelScheduleLaw", "endMinute", "(LChannelSchedule;I[J)I"⟩ ∈ LW := LW_i 867 (by decide +kernel) (by decide +kernel)
theorem lL_233 : .methodLink "ChannelScheduleLaw" 233 y6_endMinute ∈ LW := LW_i 1611 (by decide +kernel) (by decide +kernel)
theorem lL_234 : .methodLink "ChannelScheduleLaw" 234 ⟨"ChannelScheduleLaw", "isInbound", "(LChannelSchedule;I[J)I"⟩ ∈ LW := LW_i 874 (by decide +kernel) (by decide +kernel)
theorem lL_236 : .methodLink "ChannelScheduleLaw" 236 y6_isInbound ∈ LW := LW_i 1615 (by decide +kernel) (by decide +kernel)
theorem lL_237 : .methodLink "ChannelScheduleLaw" 237 ⟨"ChannelScheduleLaw", "isFinished", "(LChannelSchedule;I[J)I"⟩ ∈ LW := LW_i 881 (by decide +kernel) (by decide +kernel)
theorem lL_239 : .methodLink "ChannelScheduleLaw" 239 y6_isFinished ∈ LW := LW_i 1619 (by decide +kernel) (by decide +kernel)
theorem lL_240 : .methodLink "ChannelScheduleLaw" 240 ⟨"ChannelScheduleLaw", "isUnderWay", "(LChannelSchedule;I[J)I"⟩ ∈ LW := LW_i 888 (by decide +kernel) (by decide +kernel)
theorem lL_242 : .methodLink "ChannelScheduleLaw" 242 y6_isUnderWay ∈ LW := LW_i 1623 (by decide +kernel) (by decide +kernel)
theorem lL_243 : .methodLink "ChannelScheduleLaw" 243 ⟨"ChannelScheduleLaw", "occupancy", "(LChannelSchedule;I[J)I"⟩ ∈ LW := LW_i 895 (by decide +kernel) (by decide +kernel)
theorem lL_245 : .methodLink "ChannelScheduleLaw" 245 y6_occupancy ∈ LW := LW_i 1627 (by decide +kernel) (by decide +kernel)
theorem lL_246 : .methodLink "ChannelScheduleLaw" 246 ⟨"ChannelScheduleLaw", "emptyMinutes", "(LChannelSchedule;II[J)I"⟩ ∈ LW := LW_i 902 (by decide +kernel) (by decide +kernel)
theorem lL_248 : .methodLink "ChannelScheduleLaw" 248 y6_emptyMinutes ∈ LW := LW_i 1635 (by decide +kernel) (by decide +kernel)
theorem lL_249 : .methodLink "ChannelScheduleLaw" 249 ⟨"ChannelScheduleLaw", "longestEmptyRun", "(LChannelSchedule;II[J)I"⟩ ∈ LW := LW_i 909 (by decide +kernel) (by decide +kernel)
theorem lL_251 : .methodLink "ChannelScheduleLaw" 251 y6_longestEmptyRun ∈ LW := LW_i 1642 (by decide +kernel) (by decide +kernel)
theorem lL_252 : .methodLink "ChannelScheduleLaw" 252 ⟨"ChannelScheduleLaw", "conflictCount", "(LChannelSchedule;IZI[J)I"⟩ ∈ LW := LW_i 916 (by decide +kernel) (by decide +kernel)
theorem lL_255 : .methodLink "ChannelScheduleLaw" 255 y6_conflictCount ∈ LW := LW_i 1646 (by decide +kernel) (by decide +kernel)
theorem lL_256 : .methodLink "ChannelScheduleLaw" 256 ⟨"ChannelScheduleLaw", "firstConflict", "(LChannelSchedule;IZI[J)I"⟩ ∈ LW := LW_i 923 (by decide +kernel) (by decide +kernel)
theorem lL_258 : .methodLink "ChannelScheduleLaw" 258 y6_firstConflict ∈ LW := LW_i 1650 (by decide +kernel) (by decide +kernel)
theorem lL_259 : .methodLink "ChannelScheduleLaw" 259 ⟨"ChannelScheduleLaw", "earliestStart", "(LChannelSchedule;IZI[J)I"⟩ ∈ LW := LW_i 930 (by decide +kernel) (by decide +kernel)
theorem lL_261 : .methodLink "ChannelScheduleLaw" 261 y6_earliestStart ∈ LW := LW_i 1654 (by decide +kernel) (by decide +kernel)
theorem lL_262 : .methodLink "ChannelScheduleLaw" 262 ⟨"ChannelScheduleLaw", "latestStart", "(LChannelSchedule;IZI[J)I"⟩ ∈ LW := LW_i 941 (by decide +kernel) (by decide +kernel)
theorem lL_264 : .methodLink "ChannelScheduleLaw" 264 y6_latestStart ∈ LW := LW_i 1658 (by decide +kernel) (by decide +kernel)
theorem lL_265 : .methodLink "ChannelScheduleLaw" 265 ⟨"ChannelScheduleLaw", "bestCancellation", "(LChannelSchedule;IZI[J)I"⟩ ∈ LW := LW_i 952 (by decide +kernel) (by decide +kernel)
theorem lL_267 : .methodLink "ChannelScheduleLaw" 267 y6_bestCancellation ∈ LW := LW_i 1662 (by decide +kernel) (by decide +kernel)
theorem lL_268 : .methodLink "ChannelScheduleLaw" 268 y5_directionSwitches ∈ LW := LW_i 539 (by decide +kernel) (by decide +kernel)
theorem lL_271 : .methodLink "ChannelScheduleLaw" 271 y6_directionSwitches ∈ LW := LW_i 1666 (by decide +kernel) (by decide +kernel)
theorem lL_272 : .methodLink "ChannelScheduleLaw" 272 y5_longestConvoy ∈ LW := LW_i 543 (by decide +kernel) (by decide +kernel)
theorem lL_275 : .methodLink "ChannelScheduleLaw" 275 y6_longestConvoy ∈ LW := LW_i 1670 (by decide +kernel) (by decide +kernel)
theorem lL_276 : .methodLink "ChannelScheduleLaw" 276 ⟨"ChannelScheduleLaw", "slack", "(LChannelSchedule;I[J)I"⟩ ∈ LW := LW_i 959 (by decide +kernel) (by decide +kernel)
theorem lL_278 : .methodLink "ChannelScheduleLaw" 278 y6_slack ∈ LW := LW_i 1674 (by decide +kernel) (by decide +kernel)
theorem lL_279 : .methodLink "ChannelScheduleLaw" 279 ⟨"ChannelScheduleLaw", "whyNotMovable", "(LChannelSchedule;II[J)I"⟩ ∈ LW := LW_i 966 (by decide +kernel) (by decide +kernel)
theorem lL_281 : .methodLink "ChannelScheduleLaw" 281 y6_whyNotMovable ∈ LW := LW_i 1678 (by decide +kernel) (by decide +kernel)
theorem lL_282 : .methodLink "ChannelScheduleLaw" 282 y5_requestCount ∈ LW := LW_i 550 (by decide +kernel) (by decide +kernel)
theorem lL_285 : .methodLink "ChannelScheduleLaw" 285 y6_requestCount ∈ LW := LW_i 1682 (by decide +kernel) (by decide +kernel)
theorem lL_286 : .methodLink "ChannelScheduleLaw" 286 ⟨"ChannelScheduleLaw", "requestedShip", "(LChannelSchedule;I[J)I"⟩ ∈ LW := LW_i 977 (by decide +kernel) (by decide +kernel)
theorem lL_288 : .methodLink "ChannelScheduleLaw" 288 y6_requestedShip ∈ LW := LW_i 1686 (by decide +kernel) (by decide +kernel)
theorem lL_289 : .methodLink "ChannelScheduleLaw" 289 ⟨"ChannelScheduleLaw", "isRequestInbound", "(LChannelSchedule;I[J)I"⟩ ∈ LW := LW_i 988 (by decide +kernel) (by decide +kernel)
theorem lL_291 : .methodLink "ChannelScheduleLaw" 291 y6_isRequestInbound ∈ LW := LW_i 1694 (by decide +kernel) (by decide +kernel)
theorem lL_292 : .methodLink "ChannelScheduleLaw" 292 ⟨"ChannelScheduleLaw", "earliestRequested", "(LChannelSchedule;I[J)I"⟩ ∈ LW := LW_i 995 (by decide +kernel) (by decide +kernel)
theorem lL_294 : .methodLink "ChannelScheduleLaw" 294 y6_earliestRequested ∈ LW := LW_i 1698 (by decide +kernel) (by decide +kernel)
theorem lL_295 : .methodLink "ChannelScheduleLaw" 295 ⟨"ChannelScheduleLaw", "latestRequested", "(LChannelSchedule;I[J)I"⟩ ∈ LW := LW_i 1002 (by decide +kernel) (by decide +kernel)
theorem lL_297 : .methodLink "ChannelScheduleLaw" 297 y6_latestRequested ∈ LW := LW_i 1702 (by decide +kernel) (by decide +kernel)
theorem lL_298 : .methodLink "ChannelScheduleLaw" 298 ⟨"ChannelScheduleLaw", "whyNotFeasible", "(LChannelSchedule;I[J)I"⟩ ∈ LW := LW_i 1009 (by decide +kernel) (by decide +kernel)
theorem lL_300 : .methodLink "ChannelScheduleLaw" 300 y6_whyNotFeasible ∈ LW := LW_i 1718 (by decide +kernel) (by decide +kernel)
theorem lL_301 : .methodLink "ChannelScheduleLaw" 301 y5_bestValue ∈ LW := LW_i 554 (by decide +kernel) (by decide +kernel)
theorem lL_304 : .methodLink "ChannelScheduleLaw" 304 y6_bestValue ∈ LW := LW_i 1722 (by decide +kernel) (by decide +kernel)
theorem lL_305 : .methodLink "ChannelScheduleLaw" 305 ⟨"ChannelScheduleLaw", "isSelected", "(LChannelSchedule;I[J)I"⟩ ∈ LW := LW_i 1024 (by decide +kernel) (by decide +kernel)
theorem lL_307 : .methodLink "ChannelScheduleLaw" 307 y6_isSelected ∈ LW := LW_i 1745 (by decide +kernel) (by decide +kernel)
theorem lL_308 : .methodLink "ChannelScheduleLaw" 308 ⟨"ChannelScheduleLaw", "servedWithout", "(LChannelSchedule;I[J)I"⟩ ∈ LW := LW_i 1031 (by decide +kernel) (by decide +kernel)
theorem lL_310 : .methodLink "ChannelScheduleLaw" 310 y6_servedWithout ∈ LW := LW_i 1749 (by decide +kernel) (by decide +kernel)
theorem lL_311 : .methodLink "ChannelScheduleLaw" 311 ⟨"ChannelScheduleLaw", "feasibleStart", "(LChannelSchedule;I[J)I"⟩ ∈ LW := LW_i 1074 (by decide +kernel) (by decide +kernel)
theorem lL_313 : .methodLink "ChannelScheduleLaw" 313 y6_feasibleStart ∈ LW := LW_i 1706 (by decide +kernel) (by decide +kernel)
theorem lL_314 : .methodLink "ChannelScheduleLaw" 314 y5_waitingWeight ∈ LW := LW_i 602 (by decide +kernel) (by decide +kernel)
theorem lL_317 : .methodLink "ChannelScheduleLaw" 317 y6_waitingWeight ∈ LW := LW_i 1714 (by decide +kernel) (by decide +kernel)
theorem lL_318 : .methodLink "ChannelScheduleLaw" 318 y5_bookingsMade ∈ LW := LW_i 606 (by decide +kernel) (by decide +kernel)
theorem lL_321 : .methodLink "ChannelScheduleLaw" 321 y6_bookingsMade ∈ LW := LW_i 1753 (by decide +kernel) (by decide +kernel)
theorem lL_322 : .methodLink "ChannelScheduleLaw" 322 y5_bookingsCancelled ∈ LW := LW_i 610 (by decide +kernel) (by decide +kernel)
theorem lL_325 : .methodLink "ChannelScheduleLaw" 325 y6_bookingsCancelled ∈ LW := LW_i 1757 (by decide +kernel) (by decide +kernel)
theorem lL_326 : .methodLink "ChannelScheduleLaw" 326 y5_requestsServed ∈ LW := LW_i 614 (by decide +kernel) (by decide +kernel)
theorem lL_329 : .methodLink "ChannelScheduleLaw" 329 y6_requestsServed ∈ LW := LW_i 1761 (by decide +kernel) (by decide +kernel)
theorem lL_330 : .methodLink "ChannelScheduleLaw" 330 y5_utilization ∈ LW := LW_i 618 (by decide +kernel) (by decide +kernel)
theorem lL_334 : .methodLink "ChannelScheduleLaw" 334 y6_utilization ∈ LW := LW_i 1765 (by decide +kernel) (by decide +kernel)
theorem lL_335 : .methodLink "ChannelScheduleLaw" 335 y5_meanTransit ∈ LW := LW_i 633 (by decide +kernel) (by decide +kernel)
theorem lL_339 : .methodLink "ChannelScheduleLaw" 339 y6_meanTransit ∈ LW := LW_i 1769 (by decide +kernel) (by decide +kernel)
theorem lL_340 : .methodLink "ChannelScheduleLaw" 340 y5_inconsistencies ∈ LW := LW_i 637 (by decide +kernel) (by decide +kernel)
theorem lL_343 : .methodLink "ChannelScheduleLaw" 343 y6_inconsistencies ∈ LW := LW_i 1773 (by decide +kernel) (by decide +kernel)
theorem lL_344 : .methodLink "ChannelScheduleLaw" 344 ⟨"ChannelScheduleLaw", "book", "(LChannelSchedule;IZI[J)I"⟩ ∈ LW := LW_i 1081 (by decide +kernel) (by decide +kernel)
theorem lL_346 : .methodLink "ChannelScheduleLaw" 346 y6_book ∈ LW := LW_i 1777 (by decide +kernel) (by decide +kernel)
theorem lL_347 : .methodLink "ChannelScheduleLaw" 347 ⟨"ChannelScheduleLaw", "request", "(LChannelSchedule;IZII[J)I"⟩ ∈ LW := LW_i 1099 (by decide +kernel) (by decide +kernel)
theorem lL_350 : .methodLink "ChannelScheduleLaw" 350 y6_request ∈ LW := LW_i 1781 (by decide +kernel) (by decide +kernel)
theorem lL_351 : .methodLink "ChannelScheduleLaw" 351 ⟨"ChannelScheduleLaw", "cancel", "(LChannelSchedule;I[J)I"⟩ ∈ LW := LW_i 1118 (by decide +kernel) (by decide +kernel)
theorem lL_353 : .methodLink "ChannelScheduleLaw" 353 y6_cancel ∈ LW := LW_i 1785 (by decide +kernel) (by decide +kernel)
theorem lL_354 : .methodLink "ChannelScheduleLaw" 354 ⟨"ChannelScheduleLaw", "moveBooking", "(LChannelSchedule;II[J)I"⟩ ∈ LW := LW_i 1129 (by decide +kernel) (by decide +kernel)
theorem lL_356 : .methodLink "ChannelScheduleLaw" 356 y6_moveBooking ∈ LW := LW_i 1789 (by decide +kernel) (by decide +kernel)
theorem lL_357 : .methodLink "ChannelScheduleLaw" 357 ⟨"ChannelScheduleLaw", "withdraw", "(LChannelSchedule;I[J)I"⟩ ∈ LW := LW_i 1144 (by decide +kernel) (by decide +kernel)
theorem lL_359 : .methodLink "ChannelScheduleLaw" 359 y6_withdraw ∈ LW := LW_i 1793 (by decide +kernel) (by decide +kernel)
theorem lL_360 : .methodLink "ChannelScheduleLaw" 360 ⟨"ChannelScheduleLaw", "setThickness", "(LChannelSchedule;I[J)I"⟩ ∈ LW := LW_i 1151 (by decide +kernel) (by decide +kernel)
theorem lL_362 : .methodLink "ChannelScheduleLaw" 362 y6_setThickness ∈ LW := LW_i 1797 (by decide +kernel) (by decide +kernel)
theorem lL_363 : .methodLink "ChannelScheduleLaw" 363 ⟨"ChannelScheduleLaw", "advance", "(LChannelSchedule;I[J)I"⟩ ∈ LW := LW_i 1162 (by decide +kernel) (by decide +kernel)
theorem lL_365 : .methodLink "ChannelScheduleLaw" 365 y6_advance ∈ LW := LW_i 1801 (by decide +kernel) (by decide +kernel)
theorem lL_366 : .methodLink "ChannelScheduleLaw" 366 ⟨"ChannelScheduleLaw", "runScript", "(LChannelSchedule;[J)I"⟩ ∈ LW := LW_i 1177 (by decide +kernel) (by decide +kernel)
theorem lL_368 : .methodLink "ChannelScheduleLaw" 368 y6_runScript ∈ LW := LW_i 1383 (by decide +kernel) (by decide +kernel)
theorem lL_369 : .methodLink "ChannelScheduleLaw" 369 ⟨"ChannelScheduleLaw", "undo", "(LChannelSchedule;[J)I"⟩ ∈ LW := LW_i 1217 (by decide +kernel) (by decide +kernel)
theorem lL_371 : .methodLink "ChannelScheduleLaw" 371 y6_undo ∈ LW := LW_i 1805 (by decide +kernel) (by decide +kernel)
theorem lL_372 : .methodLink "ChannelScheduleLaw" 372 ⟨"ChannelScheduleLaw", "save", "(LChannelSchedule;I[J)I"⟩ ∈ LW := LW_i 1224 (by decide +kernel) (by decide +kernel)
theorem lL_374 : .methodLink "ChannelScheduleLaw" 374 y6_save ∈ LW := LW_i 1809 (by decide +kernel) (by decide +kernel)
theorem lL_375 : .methodLink "ChannelScheduleLaw" 375 ⟨"ChannelScheduleLaw", "restore", "(LChannelSchedule;I[J)I"⟩ ∈ LW := LW_i 1231 (by decide +kernel) (by decide +kernel)
theorem lL_377 : .methodLink "ChannelScheduleLaw" 377 y6_restore ∈ LW := LW_i 1813 (by decide +kernel) (by decide +kernel)
theorem lL_378 : .methodLink "ChannelScheduleLaw" 378 y5_writeSchedule ∈ LW := LW_i 641 (by decide +kernel) (by decide +kernel)
theorem lL_381 : .methodLink "ChannelScheduleLaw" 381 y6_writeSchedule ∈ LW := LW_i 1817 (by decide +kernel) (by decide +kernel)
theorem lL_382 : .methodLink "ChannelScheduleLaw" 382 ⟨"ChannelScheduleLaw", "outputByte", "(LChannelSchedule;I[J)I"⟩ ∈ LW := LW_i 1238 (by decide +kernel) (by decide +kernel)
theorem lL_384 : .methodLink "ChannelScheduleLaw" 384 y6_outputByte ∈ LW := LW_i 1829 (by decide +kernel) (by decide +kernel)
