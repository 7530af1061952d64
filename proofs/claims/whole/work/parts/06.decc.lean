abbrev b_L_station : ByteArray := method_3_code
def y_L_station : MethodName := ⟨"StationRowsLaw", "station", "(LStationRows;I[J)I"⟩
abbrev hs_L_station : List (Nat × Nat × Nat × Nat) := [(0, 9, 12, 13), (0, 9, 15, 15)]
theorem d_L_station_0 : decode b_L_station 0 = .ok (.aload_n 2, 1) := by decide +kernel
theorem d_L_station_1 : decode b_L_station 1 = .ok (.iconst 0, 1) := by decide +kernel
theorem d_L_station_2 : decode b_L_station 2 = .ok (.aload_n 0, 1) := by decide +kernel
theorem d_L_station_3 : decode b_L_station 3 = .ok (.iload_n 1, 1) := by decide +kernel
theorem d_L_station_4 : decode b_L_station 4 = .ok (.invokevirtual 7, 3) := by decide +kernel
theorem d_L_station_7 : decode b_L_station 7 = .ok (.i2l, 1) := by decide +kernel
theorem d_L_station_8 : decode b_L_station 8 = .ok (.lastore, 1) := by decide +kernel
theorem d_L_station_9 : decode b_L_station 9 = .ok (.goto 9, 3) := by decide +kernel
theorem d_L_station_12 : decode b_L_station 12 = .ok (.astore_n 3, 1) := by decide +kernel
theorem d_L_station_13 : decode b_L_station 13 = .ok (.iconst 1, 1) := by decide +kernel
theorem d_L_station_14 : decode b_L_station 14 = .ok (.ireturn, 1) := by decide +kernel
theorem d_L_station_15 : decode b_L_station 15 = .ok (.astore_n 3, 1) := by decide +kernel
theorem d_L_station_16 : decode b_L_station 16 = .ok (.iconst 2, 1) := by decide +kernel
theorem d_L_station_17 : decode b_L_station 17 = .ok (.ireturn, 1) := by decide +kernel
theorem d_L_station_18 : decode b_L_station 18 = .ok (.iconst 0, 1) := by decide +kernel
theorem d_L_station_19 : decode b_L_station 19 = .ok (.ireturn, 1) := by decide +kernel
abbrev b_L_temporary : ByteArray := method_4_code
def y_L_temporary : MethodName := ⟨"StationRowsLaw", "temporary", "(LStationRows;III[J)I"⟩
abbrev hs_L_temporary : List (Nat × Nat × Nat × Nat) := [(0, 12, 15, 13), (0, 12, 19, 15)]
theorem d_L_temporary_0 : decode b_L_temporary 0 = .ok (.aload 4, 2) := by decide +kernel
theorem d_L_temporary_2 : decode b_L_temporary 2 = .ok (.iconst 0, 1) := by decide +kernel
theorem d_L_temporary_3 : decode b_L_temporary 3 = .ok (.aload_n 0, 1) := by decide +kernel
theorem d_L_temporary_4 : decode b_L_temporary 4 = .ok (.iload_n 1, 1) := by decide +kernel
theorem d_L_temporary_5 : decode b_L_temporary 5 = .ok (.iload_n 2, 1) := by decide +kernel
theorem d_L_temporary_6 : decode b_L_temporary 6 = .ok (.iload_n 3, 1) := by decide +kernel
theorem d_L_temporary_7 : decode b_L_temporary 7 = .ok (.invokevirtual 17, 3) := by decide +kernel
theorem d_L_temporary_10 : decode b_L_temporary 10 = .ok (.i2l, 1) := by decide +kernel
theorem d_L_temporary_11 : decode b_L_temporary 11 = .ok (.lastore, 1) := by decide +kernel
theorem d_L_temporary_12 : decode b_L_temporary 12 = .ok (.goto 11, 3) := by decide +kernel
theorem d_L_temporary_15 : decode b_L_temporary 15 = .ok (.astore 5, 2) := by decide +kernel
theorem d_L_temporary_17 : decode b_L_temporary 17 = .ok (.iconst 1, 1) := by decide +kernel
theorem d_L_temporary_18 : decode b_L_temporary 18 = .ok (.ireturn, 1) := by decide +kernel
theorem d_L_temporary_19 : decode b_L_temporary 19 = .ok (.astore 5, 2) := by decide +kernel
theorem d_L_temporary_21 : decode b_L_temporary 21 = .ok (.iconst 2, 1) := by decide +kernel
theorem d_L_temporary_22 : decode b_L_temporary 22 = .ok (.ireturn, 1) := by decide +kernel
theorem d_L_temporary_23 : decode b_L_temporary 23 = .ok (.iconst 0, 1) := by decide +kernel
theorem d_L_temporary_24 : decode b_L_temporary 24 = .ok (.ireturn, 1) := by decide +kernel
abbrev b_L_vehicle : ByteArray := method_5_code
def y_L_vehicle : MethodName := ⟨"StationRowsLaw", "vehicle", "(LStationRows;III[J)I"⟩
abbrev hs_L_vehicle : List (Nat × Nat × Nat × Nat) := [(0, 12, 15, 24), (0, 12, 19, 13), (0, 12, 23, 15)]
theorem d_L_vehicle_0 : decode b_L_vehicle 0 = .ok (.aload 4, 2) := by decide +kernel
theorem d_L_vehicle_2 : decode b_L_vehicle 2 = .ok (.iconst 0, 1) := by decide +kernel
theorem d_L_vehicle_3 : decode b_L_vehicle 3 = .ok (.aload_n 0, 1) := by decide +kernel
theorem d_L_vehicle_4 : decode b_L_vehicle 4 = .ok (.iload_n 1, 1) := by decide +kernel
theorem d_L_vehicle_5 : decode b_L_vehicle 5 = .ok (.iload_n 2, 1) := by decide +kernel
theorem d_L_vehicle_6 : decode b_L_vehicle 6 = .ok (.iload_n 3, 1) := by decide +kernel
theorem d_L_vehicle_7 : decode b_L_vehicle 7 = .ok (.invokevirtual 21, 3) := by decide +kernel
theorem d_L_vehicle_10 : decode b_L_vehicle 10 = .ok (.i2l, 1) := by decide +kernel
theorem d_L_vehicle_11 : decode b_L_vehicle 11 = .ok (.lastore, 1) := by decide +kernel
theorem d_L_vehicle_12 : decode b_L_vehicle 12 = .ok (.goto 15, 3) := by decide +kernel
theorem d_L_vehicle_15 : decode b_L_vehicle 15 = .ok (.astore 5, 2) := by decide +kernel
theorem d_L_vehicle_17 : decode b_L_vehicle 17 = .ok (.iconst 1, 1) := by decide +kernel
theorem d_L_vehicle_18 : decode b_L_vehicle 18 = .ok (.ireturn, 1) := by decide +kernel
theorem d_L_vehicle_19 : decode b_L_vehicle 19 = .ok (.astore 5, 2) := by decide +kernel
theorem d_L_vehicle_21 : decode b_L_vehicle 21 = .ok (.iconst 2, 1) := by decide +kernel
theorem d_L_vehicle_22 : decode b_L_vehicle 22 = .ok (.ireturn, 1) := by decide +kernel
theorem d_L_vehicle_23 : decode b_L_vehicle 23 = .ok (.astore 5, 2) := by decide +kernel
theorem d_L_vehicle_25 : decode b_L_vehicle 25 = .ok (.iconst 3, 1) := by decide +kernel
theorem d_L_vehicle_26 : decode b_L_vehicle 26 = .ok (.ireturn, 1) := by decide +kernel
theorem d_L_vehicle_27 : decode b_L_vehicle 27 = .ok (.iconst 0, 1) := by decide +kernel
theorem d_L_vehicle_28 : decode b_L_vehicle 28 = .ok (.ireturn, 1) := by decide +kernel
abbrev b_L_out : ByteArray := method_6_code
def y_L_out : MethodName := ⟨"StationRowsLaw", "out", "(LStationRows;III)I"⟩
abbrev hs_L_out : List (Nat × Nat × Nat × Nat) := [(0, 7, 10, 24), (0, 7, 14, 13), (0, 7, 18, 30), (0, 7, 22, 15)]
theorem d_L_out_0 : decode b_L_out 0 = .ok (.aload_n 0, 1) := by decide +kernel
theorem d_L_out_1 : decode b_L_out 1 = .ok (.iload_n 1, 1) := by decide +kernel
theorem d_L_out_2 : decode b_L_out 2 = .ok (.iload_n 2, 1) := by decide +kernel
theorem d_L_out_3 : decode b_L_out 3 = .ok (.iload_n 3, 1) := by decide +kernel
theorem d_L_out_4 : decode b_L_out 4 = .ok (.invokevirtual 26, 3) := by decide +kernel
theorem d_L_out_7 : decode b_L_out 7 = .ok (.goto 19, 3) := by decide +kernel
theorem d_L_out_10 : decode b_L_out 10 = .ok (.astore 4, 2) := by decide +kernel
theorem d_L_out_12 : decode b_L_out 12 = .ok (.iconst 1, 1) := by decide +kernel
theorem d_L_out_13 : decode b_L_out 13 = .ok (.ireturn, 1) := by decide +kernel
theorem d_L_out_14 : decode b_L_out 14 = .ok (.astore 4, 2) := by decide +kernel
theorem d_L_out_16 : decode b_L_out 16 = .ok (.iconst 2, 1) := by decide +kernel
theorem d_L_out_17 : decode b_L_out 17 = .ok (.ireturn, 1) := by decide +kernel
theorem d_L_out_18 : decode b_L_out 18 = .ok (.astore 4, 2) := by decide +kernel
theorem d_L_out_20 : decode b_L_out 20 = .ok (.iconst 3, 1) := by decide +kernel
theorem d_L_out_21 : decode b_L_out 21 = .ok (.ireturn, 1) := by decide +kernel
theorem d_L_out_22 : decode b_L_out 22 = .ok (.astore 4, 2) := by decide +kernel
theorem d_L_out_24 : decode b_L_out 24 = .ok (.iconst 4, 1) := by decide +kernel
theorem d_L_out_25 : decode b_L_out 25 = .ok (.ireturn, 1) := by decide +kernel
theorem d_L_out_26 : decode b_L_out 26 = .ok (.iconst 0, 1) := by decide +kernel
theorem d_L_out_27 : decode b_L_out 27 = .ok (.ireturn, 1) := by decide +kernel
abbrev b_L_person : ByteArray := method_7_code
def y_L_person : MethodName := ⟨"StationRowsLaw", "person", "(LStationRows;II[J)I"⟩
abbrev hs_L_person : List (Nat × Nat × Nat × Nat) := [(0, 10, 13, 24), (0, 10, 17, 13), (0, 10, 21, 15)]
theorem d_L_person_0 : decode b_L_person 0 = .ok (.aload_n 3, 1) := by decide +kernel
theorem d_L_person_1 : decode b_L_person 1 = .ok (.iconst 0, 1) := by decide +kernel
theorem d_L_person_2 : decode b_L_person 2 = .ok (.aload_n 0, 1) := by decide +kernel
theorem d_L_person_3 : decode b_L_person 3 = .ok (.iload_n 1, 1) := by decide +kernel
theorem d_L_person_4 : decode b_L_person 4 = .ok (.iload_n 2, 1) := by decide +kernel
theorem d_L_person_5 : decode b_L_person 5 = .ok (.invokevirtual 32, 3) := by decide +kernel
theorem d_L_person_8 : decode b_L_person 8 = .ok (.i2l, 1) := by decide +kernel
theorem d_L_person_9 : decode b_L_person 9 = .ok (.lastore, 1) := by decide +kernel
theorem d_L_person_10 : decode b_L_person 10 = .ok (.goto 15, 3) := by decide +kernel
theorem d_L_person_13 : decode b_L_person 13 = .ok (.astore 4, 2) := by decide +kernel
theorem d_L_person_15 : decode b_L_person 15 = .ok (.iconst 1, 1) := by decide +kernel
theorem d_L_person_16 : decode b_L_person 16 = .ok (.ireturn, 1) := by decide +kernel
theorem d_L_person_17 : decode b_L_person 17 = .ok (.astore 4, 2) := by decide +kernel
theorem d_L_person_19 : decode b_L_person 19 = .ok (.iconst 2, 1) := by decide +kernel
theorem d_L_person_20 : decode b_L_person 20 = .ok (.ireturn, 1) := by decide +kernel
theorem d_L_person_21 : decode b_L_person 21 = .ok (.astore 4, 2) := by decide +kernel
theorem d_L_person_23 : decode b_L_person 23 = .ok (.iconst 3, 1) := by decide +kernel
theorem d_L_person_24 : decode b_L_person 24 = .ok (.ireturn, 1) := by decide +kernel
theorem d_L_person_25 : decode b_L_person 25 = .ok (.iconst 0, 1) := by decide +kernel
theorem d_L_person_26 : decode b_L_person 26 = .ok (.ireturn, 1) := by decide +kernel
abbrev b_L_duty : ByteArray := method_8_code
def y_L_duty : MethodName := ⟨"StationRowsLaw", "duty", "(LStationRows;III)I"⟩
abbrev hs_L_duty : List (Nat × Nat × Nat × Nat) := [(0, 7, 10, 24), (0, 7, 14, 13), (0, 7, 18, 30), (0, 7, 22, 15)]
theorem d_L_duty_0 : decode b_L_duty 0 = .ok (.aload_n 0, 1) := by decide +kernel
theorem d_L_duty_1 : decode b_L_duty 1 = .ok (.iload_n 1, 1) := by decide +kernel
theorem d_L_duty_2 : decode b_L_duty 2 = .ok (.iload_n 2, 1) := by decide +kernel
theorem d_L_duty_3 : decode b_L_duty 3 = .ok (.iload_n 3, 1) := by decide +kernel
theorem d_L_duty_4 : decode b_L_duty 4 = .ok (.invokevirtual 36, 3) := by decide +kernel
theorem d_L_duty_7 : decode b_L_duty 7 = .ok (.goto 19, 3) := by decide +kernel
theorem d_L_duty_10 : decode b_L_duty 10 = .ok (.astore 4, 2) := by decide +kernel
theorem d_L_duty_12 : decode b_L_duty 12 = .ok (.iconst 1, 1) := by decide +kernel
theorem d_L_duty_13 : decode b_L_duty 13 = .ok (.ireturn, 1) := by decide +kernel
theorem d_L_duty_14 : decode b_L_duty 14 = .ok (.astore 4, 2) := by decide +kernel
theorem d_L_duty_16 : decode b_L_duty 16 = .ok (.iconst 2, 1) := by decide +kernel
theorem d_L_duty_17 : decode b_L_duty 17 = .ok (.ireturn, 1) := by decide +kernel
theorem d_L_duty_18 : decode b_L_duty 18 = .ok (.astore 4, 2) := by decide +kernel
theorem d_L_duty_20 : decode b_L_duty 20 = .ok (.iconst 3, 1) := by decide +kernel
theorem d_L_duty_21 : decode b_L_duty 21 = .ok (.ireturn, 1) := by decide +kernel
theorem d_L_duty_22 : decode b_L_duty 22 = .ok (.astore 4, 2) := by decide +kernel
theorem d_L_duty_24 : decode b_L_duty 24 = .ok (.iconst 4, 1) := by decide +kernel
theorem d_L_duty_25 : decode b_L_duty 25 = .ok (.ireturn, 1) := by decide +kernel
theorem d_L_duty_26 : decode b_L_duty 26 = .ok (.iconst 0, 1) := by decide +kernel
theorem d_L_duty_27 : decode b_L_duty 27 = .ok (.ireturn, 1) := by decide +kernel
abbrev b_L_move : ByteArray := method_9_code
def y_L_move : MethodName := ⟨"StationRowsLaw", "move", "(LStationRows;IIII)I"⟩
abbrev hs_L_move : List (Nat × Nat × Nat × Nat) := [(0, 9, 12, 24), (0, 9, 16, 13), (0, 9, 20, 30), (0, 9, 24, 15)]
theorem d_L_move_0 : decode b_L_move 0 = .ok (.aload_n 0, 1) := by decide +kernel
theorem d_L_move_1 : decode b_L_move 1 = .ok (.iload_n 1, 1) := by decide +kernel
theorem d_L_move_2 : decode b_L_move 2 = .ok (.iload_n 2, 1) := by decide +kernel
theorem d_L_move_3 : decode b_L_move 3 = .ok (.iload_n 3, 1) := by decide +kernel
theorem d_L_move_4 : decode b_L_move 4 = .ok (.iload 4, 2) := by decide +kernel
theorem d_L_move_6 : decode b_L_move 6 = .ok (.invokevirtual 39, 3) := by decide +kernel
theorem d_L_move_9 : decode b_L_move 9 = .ok (.goto 19, 3) := by decide +kernel
theorem d_L_move_12 : decode b_L_move 12 = .ok (.astore 5, 2) := by decide +kernel
theorem d_L_move_14 : decode b_L_move 14 = .ok (.iconst 1, 1) := by decide +kernel
theorem d_L_move_15 : decode b_L_move 15 = .ok (.ireturn, 1) := by decide +kernel
theorem d_L_move_16 : decode b_L_move 16 = .ok (.astore 5, 2) := by decide +kernel
theorem d_L_move_18 : decode b_L_move 18 = .ok (.iconst 2, 1) := by decide +kernel
theorem d_L_move_19 : decode b_L_move 19 = .ok (.ireturn, 1) := by decide +kernel
theorem d_L_move_20 : decode b_L_move 20 = .ok (.astore 5, 2) := by decide +kernel
theorem d_L_move_22 : decode b_L_move 22 = .ok (.iconst 3, 1) := by decide +kernel
theorem d_L_move_23 : decode b_L_move 23 = .ok (.ireturn, 1) := by decide +kernel
theorem d_L_move_24 : decode b_L_move 24 = .ok (.astore 5, 2) := by decide +kernel
theorem d_L_move_26 : decode b_L_move 26 = .ok (.iconst 4, 1) := by decide +kernel
theorem d_L_move_27 : decode b_L_move 27 = .ok (.ireturn, 1) := by decide +kernel
theorem d_L_move_28 : decode b_L_move 28 = .ok (.iconst 0, 1) := by decide +kernel
theorem d_L_move_29 : decode b_L_move 29 = .ok (.ireturn, 1) := by decide +kernel
abbrev b_L_limit : ByteArray := method_10_code
def y_L_limit : MethodName := ⟨"StationRowsLaw", "limit", "(LStationRows;I[J)I"⟩
abbrev hs_L_limit : List (Nat × Nat × Nat × Nat) := [(0, 9, 12, 13)]
theorem d_L_limit_0 : decode b_L_limit 0 = .ok (.aload_n 2, 1) := by decide +kernel
theorem d_L_limit_1 : decode b_L_limit 1 = .ok (.iconst 0, 1) := by decide +kernel
theorem d_L_limit_2 : decode b_L_limit 2 = .ok (.aload_n 0, 1) := by decide +kernel
theorem d_L_limit_3 : decode b_L_limit 3 = .ok (.iload_n 1, 1) := by decide +kernel
theorem d_L_limit_4 : decode b_L_limit 4 = .ok (.invokevirtual 43, 3) := by decide +kernel
theorem d_L_limit_7 : decode b_L_limit 7 = .ok (.i2l, 1) := by decide +kernel
theorem d_L_limit_8 : decode b_L_limit 8 = .ok (.lastore, 1) := by decide +kernel
theorem d_L_limit_9 : decode b_L_limit 9 = .ok (.goto 6, 3) := by decide +kernel
theorem d_L_limit_12 : decode b_L_limit 12 = .ok (.astore_n 3, 1) := by decide +kernel
theorem d_L_limit_13 : decode b_L_limit 13 = .ok (.iconst 1, 1) := by decide +kernel
theorem d_L_limit_14 : decode b_L_limit 14 = .ok (.ireturn, 1) := by decide +kernel
theorem d_L_limit_15 : decode b_L_limit 15 = .ok (.iconst 0, 1) := by decide +kernel
theorem d_L_limit_16 : decode b_L_limit 16 = .ok (.ireturn, 1) := by decide +kernel
abbrev b_L_on : ByteArray := method_11_code
def y_L_on : MethodName := ⟨"StationRowsLaw", "on", "(LStationRows;II[J)I"⟩
abbrev hs_L_on : List (Nat × Nat × Nat × Nat) := [(0, 10, 13, 24), (0, 10, 17, 13)]
theorem d_L_on_0 : decode b_L_on 0 = .ok (.aload_n 3, 1) := by decide +kernel
theorem d_L_on_1 : decode b_L_on 1 = .ok (.iconst 0, 1) := by decide +kernel
theorem d_L_on_2 : decode b_L_on 2 = .ok (.aload_n 0, 1) := by decide +kernel
theorem d_L_on_3 : decode b_L_on 3 = .ok (.iload_n 1, 1) := by decide +kernel
theorem d_L_on_4 : decode b_L_on 4 = .ok (.iload_n 2, 1) := by decide +kernel
theorem d_L_on_5 : decode b_L_on 5 = .ok (.invokevirtual 46, 3) := by decide +kernel
theorem d_L_on_8 : decode b_L_on 8 = .ok (.i2l, 1) := by decide +kernel
theorem d_L_on_9 : decode b_L_on 9 = .ok (.lastore, 1) := by decide +kernel
theorem d_L_on_10 : decode b_L_on 10 = .ok (.goto 11, 3) := by decide +kernel
theorem d_L_on_13 : decode b_L_on 13 = .ok (.astore 4, 2) := by decide +kernel
theorem d_L_on_15 : decode b_L_on 15 = .ok (.iconst 1, 1) := by decide +kernel
theorem d_L_on_16 : decode b_L_on 16 = .ok (.ireturn, 1) := by decide +kernel
theorem d_L_on_17 : decode b_L_on 17 = .ok (.astore 4, 2) := by decide +kernel
theorem d_L_on_19 : decode b_L_on 19 = .ok (.iconst 2, 1) := by decide +kernel
theorem d_L_on_20 : decode b_L_on 20 = .ok (.ireturn, 1) := by decide +kernel
theorem d_L_on_21 : decode b_L_on 21 = .ok (.iconst 0, 1) := by decide +kernel
theorem d_L_on_22 : decode b_L_on 22 = .ok (.ireturn, 1) := by decide +kernel
abbrev b_L_at : ByteArray := method_12_code
def y_L_at : MethodName := ⟨"StationRowsLaw", "at", "(LStationRows;III[J)I"⟩
abbrev hs_L_at : List (Nat × Nat × Nat × Nat) := [(0, 12, 15, 24), (0, 12, 19, 13)]
theorem d_L_at_0 : decode b_L_at 0 = .ok (.aload 4, 2) := by decide +kernel
theorem d_L_at_2 : decode b_L_at 2 = .ok (.iconst 0, 1) := by decide +kernel
theorem d_L_at_3 : decode b_L_at 3 = .ok (.aload_n 0, 1) := by decide +kernel
theorem d_L_at_4 : decode b_L_at 4 = .ok (.iload_n 1, 1) := by decide +kernel
theorem d_L_at_5 : decode b_L_at 5 = .ok (.iload_n 2, 1) := by decide +kernel
theorem d_L_at_6 : decode b_L_at 6 = .ok (.iload_n 3, 1) := by decide +kernel
theorem d_L_at_7 : decode b_L_at 7 = .ok (.invokevirtual 49, 3) := by decide +kernel
theorem d_L_at_10 : decode b_L_at 10 = .ok (.i2l, 1) := by decide +kernel
theorem d_L_at_11 : decode b_L_at 11 = .ok (.lastore, 1) := by decide +kernel
theorem d_L_at_12 : decode b_L_at 12 = .ok (.goto 11, 3) := by decide +kernel
theorem d_L_at_15 : decode b_L_at 15 = .ok (.astore 5, 2) := by decide +kernel
theorem d_L_at_17 : decode b_L_at 17 = .ok (.iconst 1, 1) := by decide +kernel
theorem d_L_at_18 : decode b_L_at 18 = .ok (.ireturn, 1) := by decide +kernel
theorem d_L_at_19 : decode b_L_at 19 = .ok (.astore 5, 2) := by decide +kernel
theorem d_L_at_21 : decode b_L_at 21 = .ok (.iconst 2, 1) := by decide +kernel
theorem d_L_at_22 : decode b_L_at 22 = .ok (.ireturn, 1) := by decide +kernel
theorem d_L_at_23 : decode b_L_at 23 = .ok (.iconst 0, 1) := by decide +kernel
theorem d_L_at_24 : decode b_L_at 24 = .ok (.ireturn, 1) := by decide +kernel
abbrev b_L_vehicleAt : ByteArray := method_13_code
def y_L_vehicleAt : MethodName := ⟨"StationRowsLaw", "vehicleAt", "(LStationRows;III[J)I"⟩
abbrev hs_L_vehicleAt : List (Nat × Nat × Nat × Nat) := [(0, 12, 15, 24), (0, 12, 19, 13)]
theorem d_L_vehicleAt_0 : decode b_L_vehicleAt 0 = .ok (.aload 4, 2) := by decide +kernel
theorem d_L_vehicleAt_2 : decode b_L_vehicleAt 2 = .ok (.iconst 0, 1) := by decide +kernel
theorem d_L_vehicleAt_3 : decode b_L_vehicleAt 3 = .ok (.aload_n 0, 1) := by decide +kernel
theorem d_L_vehicleAt_4 : decode b_L_vehicleAt 4 = .ok (.iload_n 1, 1) := by decide +kernel
theorem d_L_vehicleAt_5 : decode b_L_vehicleAt 5 = .ok (.iload_n 2, 1) := by decide +kernel
theorem d_L_vehicleAt_6 : decode b_L_vehicleAt 6 = .ok (.iload_n 3, 1) := by decide +kernel
theorem d_L_vehicleAt_7 : decode b_L_vehicleAt 7 = .ok (.invokevirtual 52, 3) := by decide +kernel
theorem d_L_vehicleAt_10 : decode b_L_vehicleAt 10 = .ok (.i2l, 1) := by decide +kernel
theorem d_L_vehicleAt_11 : decode b_L_vehicleAt 11 = .ok (.lastore, 1) := by decide +kernel
theorem d_L_vehicleAt_12 : decode b_L_vehicleAt 12 = .ok (.goto 11, 3) := by decide +kernel
theorem d_L_vehicleAt_15 : decode b_L_vehicleAt 15 = .ok (.astore 5, 2) := by decide +kernel
theorem d_L_vehicleAt_17 : decode b_L_vehicleAt 17 = .ok (.iconst 1, 1) := by decide +kernel
theorem d_L_vehicleAt_18 : decode b_L_vehicleAt 18 = .ok (.ireturn, 1) := by decide +kernel
theorem d_L_vehicleAt_19 : decode b_L_vehicleAt 19 = .ok (.astore 5, 2) := by decide +kernel
theorem d_L_vehicleAt_21 : decode b_L_vehicleAt 21 = .ok (.iconst 2, 1) := by decide +kernel
theorem d_L_vehicleAt_22 : decode b_L_vehicleAt 22 = .ok (.ireturn, 1) := by decide +kernel
theorem d_L_vehicleAt_23 : decode b_L_vehicleAt 23 = .ok (.iconst 0, 1) := by decide +kernel
theorem d_L_vehicleAt_24 : decode b_L_vehicleAt 24 = .ok (.ireturn, 1) := by decide +kernel
abbrev b_L_need : ByteArray := method_14_code
def y_L_need : MethodName := ⟨"StationRowsLaw", "need", "(LStationRows;III)I"⟩
abbrev hs_L_need : List (Nat × Nat × Nat × Nat) := [(0, 7, 10, 24), (0, 7, 14, 13)]
theorem d_L_need_0 : decode b_L_need 0 = .ok (.aload_n 0, 1) := by decide +kernel
theorem d_L_need_1 : decode b_L_need 1 = .ok (.iload_n 1, 1) := by decide +kernel
theorem d_L_need_2 : decode b_L_need 2 = .ok (.iload_n 2, 1) := by decide +kernel
theorem d_L_need_3 : decode b_L_need 3 = .ok (.iload_n 3, 1) := by decide +kernel
theorem d_L_need_4 : decode b_L_need 4 = .ok (.invokevirtual 55, 3) := by decide +kernel
theorem d_L_need_7 : decode b_L_need 7 = .ok (.goto 11, 3) := by decide +kernel
theorem d_L_need_10 : decode b_L_need 10 = .ok (.astore 4, 2) := by decide +kernel
theorem d_L_need_12 : decode b_L_need 12 = .ok (.iconst 1, 1) := by decide +kernel
theorem d_L_need_13 : decode b_L_need 13 = .ok (.ireturn, 1) := by decide +kernel
theorem d_L_need_14 : decode b_L_need 14 = .ok (.astore 4, 2) := by decide +kernel
theorem d_L_need_16 : decode b_L_need 16 = .ok (.iconst 2, 1) := by decide +kernel
theorem d_L_need_17 : decode b_L_need 17 = .ok (.ireturn, 1) := by decide +kernel
theorem d_L_need_18 : decode b_L_need 18 = .ok (.iconst 0, 1) := by decide +kernel
theorem d_L_need_19 : decode b_L_need 19 = .ok (.ireturn, 1) := by decide +kernel
abbrev b_L_lacks : ByteArray := method_15_code
def y_L_lacks : MethodName := ⟨"StationRowsLaw", "lacks", "(LStationRows;II[J)I"⟩
abbrev hs_L_lacks : List (Nat × Nat × Nat × Nat) := [(0, 10, 13, 24), (0, 10, 17, 13)]
theorem d_L_lacks_0 : decode b_L_lacks 0 = .ok (.aload_n 3, 1) := by decide +kernel
theorem d_L_lacks_1 : decode b_L_lacks 1 = .ok (.iconst 0, 1) := by decide +kernel
theorem d_L_lacks_2 : decode b_L_lacks 2 = .ok (.aload_n 0, 1) := by decide +kernel
theorem d_L_lacks_3 : decode b_L_lacks 3 = .ok (.iload_n 1, 1) := by decide +kernel
theorem d_L_lacks_4 : decode b_L_lacks 4 = .ok (.iload_n 2, 1) := by decide +kernel
theorem d_L_lacks_5 : decode b_L_lacks 5 = .ok (.invokevirtual 58, 3) := by decide +kernel
theorem d_L_lacks_8 : decode b_L_lacks 8 = .ok (.i2l, 1) := by decide +kernel
theorem d_L_lacks_9 : decode b_L_lacks 9 = .ok (.lastore, 1) := by decide +kernel
theorem d_L_lacks_10 : decode b_L_lacks 10 = .ok (.goto 11, 3) := by decide +kernel
theorem d_L_lacks_13 : decode b_L_lacks 13 = .ok (.astore 4, 2) := by decide +kernel
theorem d_L_lacks_15 : decode b_L_lacks 15 = .ok (.iconst 1, 1) := by decide +kernel
theorem d_L_lacks_16 : decode b_L_lacks 16 = .ok (.ireturn, 1) := by decide +kernel
theorem d_L_lacks_17 : decode b_L_lacks 17 = .ok (.astore 4, 2) := by decide +kernel
theorem d_L_lacks_19 : decode b_L_lacks 19 = .ok (.iconst 2, 1) := by decide +kernel
theorem d_L_lacks_20 : decode b_L_lacks 20 = .ok (.ireturn, 1) := by decide +kernel
theorem d_L_lacks_21 : decode b_L_lacks 21 = .ok (.iconst 0, 1) := by decide +kernel
theorem d_L_lacks_22 : decode b_L_lacks 22 = .ok (.ireturn, 1) := by decide +kernel
abbrev b_L_period : ByteArray := method_16_code
def y_L_period : MethodName := ⟨"StationRowsLaw", "period", "(LStationRows;III)I"⟩
abbrev hs_L_period : List (Nat × Nat × Nat × Nat) := [(0, 7, 10, 24), (0, 7, 14, 13)]
theorem d_L_period_0 : decode b_L_period 0 = .ok (.aload_n 0, 1) := by decide +kernel
theorem d_L_period_1 : decode b_L_period 1 = .ok (.iload_n 1, 1) := by decide +kernel
theorem d_L_period_2 : decode b_L_period 2 = .ok (.iload_n 2, 1) := by decide +kernel
theorem d_L_period_3 : decode b_L_period 3 = .ok (.iload_n 3, 1) := by decide +kernel
theorem d_L_period_4 : decode b_L_period 4 = .ok (.invokevirtual 61, 3) := by decide +kernel
theorem d_L_period_7 : decode b_L_period 7 = .ok (.goto 11, 3) := by decide +kernel
theorem d_L_period_10 : decode b_L_period 10 = .ok (.astore 4, 2) := by decide +kernel
theorem d_L_period_12 : decode b_L_period 12 = .ok (.iconst 1, 1) := by decide +kernel
theorem d_L_period_13 : decode b_L_period 13 = .ok (.ireturn, 1) := by decide +kernel
theorem d_L_period_14 : decode b_L_period 14 = .ok (.astore 4, 2) := by decide +kernel
theorem d_L_period_16 : decode b_L_period 16 = .ok (.iconst 2, 1) := by decide +kernel
theorem d_L_period_17 : decode b_L_period 17 = .ok (.ireturn, 1) := by decide +kernel
theorem d_L_period_18 : decode b_L_period 18 = .ok (.iconst 0, 1) := by decide +kernel
theorem d_L_period_19 : decode b_L_period 19 = .ok (.ireturn, 1) := by decide +kernel
abbrev b_L_check : ByteArray := method_17_code
def y_L_check : MethodName := ⟨"StationRowsLaw", "check", "(LStationRows;III)I"⟩
abbrev hs_L_check : List (Nat × Nat × Nat × Nat) := [(0, 7, 10, 24), (0, 7, 14, 13), (0, 7, 18, 15)]
theorem d_L_check_0 : decode b_L_check 0 = .ok (.aload_n 0, 1) := by decide +kernel
theorem d_L_check_1 : decode b_L_check 1 = .ok (.iload_n 1, 1) := by decide +kernel
theorem d_L_check_2 : decode b_L_check 2 = .ok (.iload_n 2, 1) := by decide +kernel
theorem d_L_check_3 : decode b_L_check 3 = .ok (.iload_n 3, 1) := by decide +kernel
theorem d_L_check_4 : decode b_L_check 4 = .ok (.invokevirtual 64, 3) := by decide +kernel
theorem d_L_check_7 : decode b_L_check 7 = .ok (.goto 15, 3) := by decide +kernel
theorem d_L_check_10 : decode b_L_check 10 = .ok (.astore 4, 2) := by decide +kernel
theorem d_L_check_12 : decode b_L_check 12 = .ok (.iconst 1, 1) := by decide +kernel
theorem d_L_check_13 : decode b_L_check 13 = .ok (.ireturn, 1) := by decide +kernel
theorem d_L_check_14 : decode b_L_check 14 = .ok (.astore 4, 2) := by decide +kernel
theorem d_L_check_16 : decode b_L_check 16 = .ok (.iconst 2, 1) := by decide +kernel
theorem d_L_check_17 : decode b_L_check 17 = .ok (.ireturn, 1) := by decide +kernel
theorem d_L_check_18 : decode b_L_check 18 = .ok (.astore 4, 2) := by decide +kernel
theorem d_L_check_20 : decode b_L_check 20 = .ok (.iconst 3, 1) := by decide +kernel
theorem d_L_check_21 : decode b_L_check 21 = .ok (.ireturn, 1) := by decide +kernel
theorem d_L_check_22 : decode b_L_check 22 = .ok (.iconst 0, 1) := by decide +kernel
theorem d_L_check_23 : decode b_L_check 23 = .ok (.ireturn, 1) := by decide +kernel
abbrev b_L_missing : ByteArray := method_18_code
def y_L_missing : MethodName := ⟨"StationRowsLaw", "missing", "(LStationRows;II[J)I"⟩
abbrev hs_L_missing : List (Nat × Nat × Nat × Nat) := [(0, 10, 13, 13)]
theorem d_L_missing_0 : decode b_L_missing 0 = .ok (.aload_n 3, 1) := by decide +kernel
theorem d_L_missing_1 : decode b_L_missing 1 = .ok (.iconst 0, 1) := by decide +kernel
theorem d_L_missing_2 : decode b_L_missing 2 = .ok (.aload_n 0, 1) := by decide +kernel
theorem d_L_missing_3 : decode b_L_missing 3 = .ok (.iload_n 1, 1) := by decide +kernel
theorem d_L_missing_4 : decode b_L_missing 4 = .ok (.iload_n 2, 1) := by decide +kernel
theorem d_L_missing_5 : decode b_L_missing 5 = .ok (.invokevirtual 67, 3) := by decide +kernel
theorem d_L_missing_8 : decode b_L_missing 8 = .ok (.i2l, 1) := by decide +kernel
theorem d_L_missing_9 : decode b_L_missing 9 = .ok (.lastore, 1) := by decide +kernel
theorem d_L_missing_10 : decode b_L_missing 10 = .ok (.goto 7, 3) := by decide +kernel
theorem d_L_missing_13 : decode b_L_missing 13 = .ok (.astore 4, 2) := by decide +kernel
theorem d_L_missing_15 : decode b_L_missing 15 = .ok (.iconst 1, 1) := by decide +kernel
theorem d_L_missing_16 : decode b_L_missing 16 = .ok (.ireturn, 1) := by decide +kernel
theorem d_L_missing_17 : decode b_L_missing 17 = .ok (.iconst 0, 1) := by decide +kernel
theorem d_L_missing_18 : decode b_L_missing 18 = .ok (.ireturn, 1) := by decide +kernel
abbrev b_L_key : ByteArray := method_19_code
def y_L_key : MethodName := ⟨"StationRowsLaw", "key", "(LStationRows;IIZ)I"⟩
abbrev hs_L_key : List (Nat × Nat × Nat × Nat) := [(0, 7, 10, 24), (0, 7, 14, 13), (0, 7, 18, 30)]
theorem d_L_key_0 : decode b_L_key 0 = .ok (.aload_n 0, 1) := by decide +kernel
theorem d_L_key_1 : decode b_L_key 1 = .ok (.iload_n 1, 1) := by decide +kernel
theorem d_L_key_2 : decode b_L_key 2 = .ok (.iload_n 2, 1) := by decide +kernel
theorem d_L_key_3 : decode b_L_key 3 = .ok (.iload_n 3, 1) := by decide +kernel
theorem d_L_key_4 : decode b_L_key 4 = .ok (.invokevirtual 70, 3) := by decide +kernel
theorem d_L_key_7 : decode b_L_key 7 = .ok (.goto 15, 3) := by decide +kernel
theorem d_L_key_10 : decode b_L_key 10 = .ok (.astore 4, 2) := by decide +kernel
theorem d_L_key_12 : decode b_L_key 12 = .ok (.iconst 1, 1) := by decide +kernel
theorem d_L_key_13 : decode b_L_key 13 = .ok (.ireturn, 1) := by decide +kernel
theorem d_L_key_14 : decode b_L_key 14 = .ok (.astore 4, 2) := by decide +kernel
theorem d_L_key_16 : decode b_L_key 16 = .ok (.iconst 2, 1) := by decide +kernel
theorem d_L_key_17 : decode b_L_key 17 = .ok (.ireturn, 1) := by decide +kernel
theorem d_L_key_18 : decode b_L_key 18 = .ok (.astore 4, 2) := by decide +kernel
theorem d_L_key_20 : decode b_L_key 20 = .ok (.iconst 3, 1) := by decide +kernel
theorem d_L_key_21 : decode b_L_key 21 = .ok (.ireturn, 1) := by decide +kernel
theorem d_L_key_22 : decode b_L_key 22 = .ok (.iconst 0, 1) := by decide +kernel
theorem d_L_key_23 : decode b_L_key 23 = .ok (.ireturn, 1) := by decide +kernel
abbrev b_L_holder : ByteArray := method_20_code
def y_L_holder : MethodName := ⟨"StationRowsLaw", "holder", "(LStationRows;II[J)I"⟩
abbrev hs_L_holder : List (Nat × Nat × Nat × Nat) := [(0, 10, 13, 13)]
theorem d_L_holder_0 : decode b_L_holder 0 = .ok (.aload_n 3, 1) := by decide +kernel
theorem d_L_holder_1 : decode b_L_holder 1 = .ok (.iconst 0, 1) := by decide +kernel
theorem d_L_holder_2 : decode b_L_holder 2 = .ok (.aload_n 0, 1) := by decide +kernel
theorem d_L_holder_3 : decode b_L_holder 3 = .ok (.iload_n 1, 1) := by decide +kernel
theorem d_L_holder_4 : decode b_L_holder 4 = .ok (.iload_n 2, 1) := by decide +kernel
theorem d_L_holder_5 : decode b_L_holder 5 = .ok (.invokevirtual 74, 3) := by decide +kernel
theorem d_L_holder_8 : decode b_L_holder 8 = .ok (.i2l, 1) := by decide +kernel
theorem d_L_holder_9 : decode b_L_holder 9 = .ok (.lastore, 1) := by decide +kernel
theorem d_L_holder_10 : decode b_L_holder 10 = .ok (.goto 7, 3) := by decide +kernel
theorem d_L_holder_13 : decode b_L_holder 13 = .ok (.astore 4, 2) := by decide +kernel
theorem d_L_holder_15 : decode b_L_holder 15 = .ok (.iconst 1, 1) := by decide +kernel
theorem d_L_holder_16 : decode b_L_holder 16 = .ok (.ireturn, 1) := by decide +kernel
theorem d_L_holder_17 : decode b_L_holder 17 = .ok (.iconst 0, 1) := by decide +kernel
theorem d_L_holder_18 : decode b_L_holder 18 = .ok (.ireturn, 1) := by decide +kernel