set_option maxRecDepth 20000 in
theorem wd_0 : Cond.methodLink RX0 3 objectInit ∈ wsG := wG (tb1 (List.mem_of_getElem? (i := 34) rfl)) rfl
set_option maxRecDepth 20000 in
theorem wd_1 : Cond.instanceMethod objectInit ∈ wsG := wG (tb1 (List.mem_of_getElem? (i := 20) rfl)) rfl
set_option maxRecDepth 20000 in
theorem wd_2 : Cond.fieldLink RX0 9 "CarrierNet$Cart" "weekdays" "I" ∈ wsG := wG (tb1 (List.mem_of_getElem? (i := 35) rfl)) rfl
set_option maxRecDepth 20000 in
theorem wd_3 : Cond.fieldLink RX0 15 "CarrierNet$Cart" "hour" "I" ∈ wsG := wG (tb1 (List.mem_of_getElem? (i := 37) rfl)) rfl
set_option maxRecDepth 20000 in
theorem wd_4 : Cond.fieldLink RX0 18 "CarrierNet$Cart" "capacity" "I" ∈ wsG := wG (tb1 (List.mem_of_getElem? (i := 40) rfl)) rfl
set_option maxRecDepth 20000 in
theorem wd_5 : Cond.fieldLink RX0 21 "CarrierNet$Cart" "fare" "I" ∈ wsG := wG (tb1 (List.mem_of_getElem? (i := 41) rfl)) rfl
set_option maxRecDepth 20000 in
theorem wd_6 : Cond.fieldLink RX0 24 "CarrierNet$Cart" "earned" "I" ∈ wsG := wG (tb1 (List.mem_of_getElem? (i := 42) rfl)) rfl
set_option maxRecDepth 20000 in
theorem wd_7 : Cond.fieldLink RX0 27 "CarrierNet$Cart" "stops" "I" ∈ wsG := wG (tb1 (List.mem_of_getElem? (i := 45) rfl)) rfl
set_option maxRecDepth 20000 in
theorem wd_8 : Cond.arrayClass .int ∈ wsG := wG (tb1 (List.mem_of_getElem? (i := 79) rfl)) rfl
set_option maxRecDepth 20000 in
theorem wd_9 : Cond.fieldLink RX0 30 "CarrierNet$Cart" "places" "[I" ∈ wsG := wG (tb1 (List.mem_of_getElem? (i := 48) rfl)) rfl
set_option maxRecDepth 20000 in
theorem wd_10 : Cond.fieldLink RX0 34 "CarrierNet$Cart" "offsets" "[I" ∈ wsG := wG (tb1 (List.mem_of_getElem? (i := 51) rfl)) rfl
set_option maxRecDepth 20000 in
theorem wd_11 : Cond.fieldLink RX0 37 "CarrierNet$Cart" "snowDays" "[I" ∈ wsG := wG (tb1 (List.mem_of_getElem? (i := 53) rfl)) rfl
set_option maxRecDepth 20000 in
theorem wd_12 : Cond.fieldLink RX0 40 "CarrierNet$Cart" "loads" "[I" ∈ wsG := wG (tb1 (List.mem_of_getElem? (i := 54) rfl)) rfl
set_option maxRecDepth 20000 in
theorem wd_13 : Cond.fieldLink RX0 43 "CarrierNet$Cart" "loadDays" "[I" ∈ wsG := wG (tb1 (List.mem_of_getElem? (i := 55) rfl)) rfl
set_option maxRecDepth 20000 in
theorem wd_14 : Cond.static yX4_isIn ∈ wsG := wG (tb1 (List.mem_of_getElem? (i := 239) rfl)) rfl
set_option maxRecDepth 20000 in
theorem wd_15 : Cond.initialized RX4 ∈ wsG := wG (tb1 (List.mem_of_getElem? (i := 1) rfl)) rfl
set_option maxRecDepth 20000 in
theorem wd_16 : Cond.methodLink RX0 50 yX0_hourAt ∈ wsG := wG (tb2 (List.mem_of_getElem? (i := 200) rfl)) rfl
set_option maxRecDepth 20000 in
theorem wd_17 : Cond.instanceMethod yX0_hourAt ∈ wsG := wG (tb2 (List.mem_of_getElem? (i := 201) rfl)) rfl
set_option maxRecDepth 20000 in
theorem wd_18 : Cond.selects RX0 yX0_hourAt yX0_hourAt ∈ wsG := wG (tb2 (List.mem_of_getElem? (i := 202) rfl)) rfl
set_option maxRecDepth 20000 in
theorem wd_19 : Cond.initialized RX0 ∈ wsG := wG (tb1 (List.mem_of_getElem? (i := 3) rfl)) rfl
set_option maxRecDepth 20000 in
theorem wd_20 : Cond.methodLink RX1 5 objectInit ∈ wsG := wG (tb1 (List.mem_of_getElem? (i := 118) rfl)) rfl
set_option maxRecDepth 20000 in
theorem wd_21 : Cond.fieldLink RX1 11 "CarrierNet$Errands" "walks" "[I" ∈ wsG := wG (tb1 (List.mem_of_getElem? (i := 119) rfl)) rfl
set_option maxRecDepth 20000 in
theorem wd_22 : Cond.fieldLink RX1 15 "CarrierNet$Errands" "minutes" "[I" ∈ wsG := wG (tb1 (List.mem_of_getElem? (i := 120) rfl)) rfl
set_option maxRecDepth 20000 in
theorem wd_23 : Cond.fieldLink RX1 18 "CarrierNet$Errands" "worths" "[I" ∈ wsG := wG (tb1 (List.mem_of_getElem? (i := 121) rfl)) rfl
set_option maxRecDepth 20000 in
theorem wd_24 : Cond.fieldLink RX1 21 "CarrierNet$Errands" "ways" "[I" ∈ wsG := wG (tb1 (List.mem_of_getElem? (i := 122) rfl)) rfl
set_option maxRecDepth 20000 in
theorem wd_25 : Cond.fieldLink RX1 24 "CarrierNet$Errands" "listed" "I" ∈ wsG := wG (tb1 (List.mem_of_getElem? (i := 123) rfl)) rfl
set_option maxRecDepth 20000 in
theorem wd_26 : Cond.fieldLink RX1 28 "CarrierNet$Errands" "measured" "Z" ∈ wsG := wG (tb1 (List.mem_of_getElem? (i := 125) rfl)) rfl
set_option maxRecDepth 20000 in
theorem wd_27 : Cond.fieldLink RX1 32 "CarrierNet$Errands" "chosenFor" "I" ∈ wsG := wG (tb1 (List.mem_of_getElem? (i := 126) rfl)) rfl
set_option maxRecDepth 20000 in
theorem wd_28 : Cond.fieldLink RX1 35 "CarrierNet$Errands" "chosen" "I" ∈ wsG := wG (tb1 (List.mem_of_getElem? (i := 127) rfl)) rfl
set_option maxRecDepth 20000 in
theorem wd_29 : Cond.fieldLink RX1 38 "CarrierNet$Errands" "chosenWorth" "I" ∈ wsG := wG (tb1 (List.mem_of_getElem? (i := 129) rfl)) rfl
set_option maxRecDepth 20000 in
theorem wd_30 : Cond.fieldLink RX1 41 "CarrierNet$Errands" "chosenMinutes" "I" ∈ wsG := wG (tb1 (List.mem_of_getElem? (i := 131) rfl)) rfl
set_option maxRecDepth 20000 in
theorem wd_31 : Cond.fieldLink RX1 44 "CarrierNet$Errands" "chosenOrder" "J" ∈ wsG := wG (tb1 (List.mem_of_getElem? (i := 133) rfl)) rfl
set_option maxRecDepth 20000 in
theorem wd_32 : Cond.methodLink RX1 48 yX1_forget ∈ wsG := wG (tb2 (List.mem_of_getElem? (i := 225) rfl)) rfl
set_option maxRecDepth 20000 in
theorem wd_33 : Cond.instanceMethod yX1_forget ∈ wsG := wG (tb2 (List.mem_of_getElem? (i := 226) rfl)) rfl
set_option maxRecDepth 20000 in
theorem wd_34 : Cond.selects RX1 yX1_forget yX1_forget ∈ wsG := wG (tb2 (List.mem_of_getElem? (i := 227) rfl)) rfl
set_option maxRecDepth 20000 in
theorem wd_35 : Cond.initialized RX1 ∈ wsG := wG (tb1 (List.mem_of_getElem? (i := 4) rfl)) rfl
set_option maxRecDepth 20000 in
theorem wd_36 : Cond.methodLink RX1 51 yX1_bitOf ∈ wsG := wG (tb2 (List.mem_of_getElem? (i := 237) rfl)) rfl
set_option maxRecDepth 20000 in
theorem wd_37 : Cond.static yX1_bitOf ∈ wsG := wG (tb2 (List.mem_of_getElem? (i := 238) rfl)) rfl
set_option maxRecDepth 20000 in
theorem wd_38 : Cond.constant RX1 59 1000000 ∈ wsG := wG (tb3 (List.mem_of_getElem? (i := 24) rfl)) rfl
set_option maxRecDepth 20000 in
theorem wd_39 : Cond.methodLink RX1 64 Lib.Math.min.name ∈ wsG := wG (tb3 (List.mem_of_getElem? (i := 29) rfl)) rfl
set_option maxRecDepth 20000 in
theorem wd_40 : Cond.static Lib.Math.min.name ∈ wsG := wG (tb3 (List.mem_of_getElem? (i := 30) rfl)) rfl
set_option maxRecDepth 20000 in
theorem wd_41 : Cond.initialized "java/lang/Math" ∈ wsG := wG (tb1 (List.mem_of_getElem? (i := 8) rfl)) rfl
set_option maxRecDepth 20000 in
theorem wd_42 : Cond.methodLink RX1 60 yX1_wayBy ∈ wsG := wG (tb3 (List.mem_of_getElem? (i := 25) rfl)) rfl
set_option maxRecDepth 20000 in
theorem wd_43 : Cond.instanceMethod yX1_wayBy ∈ wsG := wG (tb3 (List.mem_of_getElem? (i := 26) rfl)) rfl
set_option maxRecDepth 20000 in
theorem wd_44 : Cond.selects RX1 yX1_wayBy yX1_wayBy ∈ wsG := wG (tb3 (List.mem_of_getElem? (i := 27) rfl)) rfl
set_option maxRecDepth 20000 in
theorem wd_45 : Cond.methodLink RX1 55 yX1_wayFrom ∈ wsG := wG (tb3 (List.mem_of_getElem? (i := 20) rfl)) rfl
set_option maxRecDepth 20000 in
theorem wd_46 : Cond.instanceMethod yX1_wayFrom ∈ wsG := wG (tb3 (List.mem_of_getElem? (i := 21) rfl)) rfl
set_option maxRecDepth 20000 in
theorem wd_47 : Cond.selects RX1 yX1_wayFrom yX1_wayFrom ∈ wsG := wG (tb3 (List.mem_of_getElem? (i := 22) rfl)) rfl
set_option maxRecDepth 20000 in
theorem wd_48 : Cond.methodLink RX1 87 yX1_nextShop ∈ wsG := wG (tb3 (List.mem_of_getElem? (i := 48) rfl)) rfl
set_option maxRecDepth 20000 in
theorem wd_49 : Cond.instanceMethod yX1_nextShop ∈ wsG := wG (tb3 (List.mem_of_getElem? (i := 49) rfl)) rfl
set_option maxRecDepth 20000 in
theorem wd_50 : Cond.selects RX1 yX1_nextShop yX1_nextShop ∈ wsG := wG (tb3 (List.mem_of_getElem? (i := 50) rfl)) rfl
set_option maxRecDepth 20000 in
theorem wd_51 : Cond.methodLink RX1 80 yX1_worthOf ∈ wsG := wG (tb3 (List.mem_of_getElem? (i := 40) rfl)) rfl
set_option maxRecDepth 20000 in
theorem wd_52 : Cond.instanceMethod yX1_worthOf ∈ wsG := wG (tb3 (List.mem_of_getElem? (i := 41) rfl)) rfl
set_option maxRecDepth 20000 in
theorem wd_53 : Cond.selects RX1 yX1_worthOf yX1_worthOf ∈ wsG := wG (tb3 (List.mem_of_getElem? (i := 42) rfl)) rfl
set_option maxRecDepth 20000 in
theorem wd_54 : Cond.methodLink RX1 83 yX1_orderOf ∈ wsG := wG (tb3 (List.mem_of_getElem? (i := 44) rfl)) rfl
set_option maxRecDepth 20000 in
theorem wd_55 : Cond.instanceMethod yX1_orderOf ∈ wsG := wG (tb3 (List.mem_of_getElem? (i := 45) rfl)) rfl
set_option maxRecDepth 20000 in
theorem wd_56 : Cond.selects RX1 yX1_orderOf yX1_orderOf ∈ wsG := wG (tb3 (List.mem_of_getElem? (i := 46) rfl)) rfl
set_option maxRecDepth 20000 in
theorem wd_57 : Cond.methodLink RX1 72 yX1_take ∈ wsG := wG (tb3 (List.mem_of_getElem? (i := 32) rfl)) rfl
set_option maxRecDepth 20000 in
theorem wd_58 : Cond.instanceMethod yX1_take ∈ wsG := wG (tb3 (List.mem_of_getElem? (i := 33) rfl)) rfl
set_option maxRecDepth 20000 in
theorem wd_59 : Cond.selects RX1 yX1_take yX1_take ∈ wsG := wG (tb3 (List.mem_of_getElem? (i := 34) rfl)) rfl
set_option maxRecDepth 20000 in
theorem wd_60 : Cond.methodLink RX1 69 yX1_measure ∈ wsG := wG (tb3 (List.mem_of_getElem? (i := 16) rfl)) rfl
set_option maxRecDepth 20000 in
theorem wd_61 : Cond.instanceMethod yX1_measure ∈ wsG := wG (tb3 (List.mem_of_getElem? (i := 17) rfl)) rfl
set_option maxRecDepth 20000 in
theorem wd_62 : Cond.selects RX1 yX1_measure yX1_measure ∈ wsG := wG (tb3 (List.mem_of_getElem? (i := 18) rfl)) rfl
set_option maxRecDepth 20000 in
theorem wd_63 : Cond.methodLink RX1 76 yX1_weigh ∈ wsG := wG (tb3 (List.mem_of_getElem? (i := 36) rfl)) rfl
set_option maxRecDepth 20000 in
theorem wd_64 : Cond.instanceMethod yX1_weigh ∈ wsG := wG (tb3 (List.mem_of_getElem? (i := 37) rfl)) rfl
set_option maxRecDepth 20000 in
theorem wd_65 : Cond.selects RX1 yX1_weigh yX1_weigh ∈ wsG := wG (tb3 (List.mem_of_getElem? (i := 38) rfl)) rfl
set_option maxRecDepth 20000 in
theorem wd_66 : Cond.methodLink RX2 3 objectInit ∈ wsG := wG (tb1 (List.mem_of_getElem? (i := 163) rfl)) rfl
set_option maxRecDepth 20000 in
theorem wd_67 : Cond.fieldLink RX2 9 "CarrierNet$Parcel" "to" "I" ∈ wsG := wG (tb1 (List.mem_of_getElem? (i := 164) rfl)) rfl
set_option maxRecDepth 20000 in
theorem wd_68 : Cond.fieldLink RX2 15 "CarrierNet$Parcel" "size" "I" ∈ wsG := wG (tb1 (List.mem_of_getElem? (i := 166) rfl)) rfl
set_option maxRecDepth 20000 in
theorem wd_69 : Cond.fieldLink RX2 18 "CarrierNet$Parcel" "place" "I" ∈ wsG := wG (tb1 (List.mem_of_getElem? (i := 168) rfl)) rfl
set_option maxRecDepth 20000 in
theorem wd_70 : Cond.fieldLink RX2 21 "CarrierNet$Parcel" "cart" "I" ∈ wsG := wG (tb1 (List.mem_of_getElem? (i := 170) rfl)) rfl
set_option maxRecDepth 20000 in
theorem wd_71 : Cond.fieldLink RX2 24 "CarrierNet$Parcel" "day" "I" ∈ wsG := wG (tb1 (List.mem_of_getElem? (i := 172) rfl)) rfl
set_option maxRecDepth 20000 in
theorem wd_72 : Cond.fieldLink RX2 27 "CarrierNet$Parcel" "leaves" "I" ∈ wsG := wG (tb1 (List.mem_of_getElem? (i := 174) rfl)) rfl
set_option maxRecDepth 20000 in
theorem wd_73 : Cond.fieldLink RX2 30 "CarrierNet$Parcel" "leavesAt" "I" ∈ wsG := wG (tb1 (List.mem_of_getElem? (i := 176) rfl)) rfl
set_option maxRecDepth 20000 in
theorem wd_74 : Cond.fieldLink RX2 33 "CarrierNet$Parcel" "came" "I" ∈ wsG := wG (tb1 (List.mem_of_getElem? (i := 177) rfl)) rfl
set_option maxRecDepth 20000 in
theorem wd_75 : Cond.fieldLink RX2 36 "CarrierNet$Parcel" "rides" "I" ∈ wsG := wG (tb1 (List.mem_of_getElem? (i := 179) rfl)) rfl
set_option maxRecDepth 20000 in
theorem wd_76 : Cond.fieldLink RX2 39 "CarrierNet$Parcel" "plannedBy" "I" ∈ wsG := wG (tb1 (List.mem_of_getElem? (i := 181) rfl)) rfl
set_option maxRecDepth 20000 in
theorem wd_77 : Cond.fieldLink RX2 42 "CarrierNet$Parcel" "hopefulFrom" "I" ∈ wsG := wG (tb1 (List.mem_of_getElem? (i := 183) rfl)) rfl
set_option maxRecDepth 20000 in
theorem wd_78 : Cond.fieldLink RX2 45 "CarrierNet$Parcel" "latest" "[I" ∈ wsG := wG (tb1 (List.mem_of_getElem? (i := 185) rfl)) rfl
set_option maxRecDepth 20000 in
theorem wd_79 : Cond.methodLink RX3 3 objectInit ∈ wsG := wG (tb1 (List.mem_of_getElem? (i := 27) rfl)) rfl
set_option maxRecDepth 20000 in
theorem wd_80 : Cond.classLink RX3 9 RX0 ∈ wsG := wG (tb1 (List.mem_of_getElem? (i := 28) rfl)) rfl
set_option maxRecDepth 20000 in
theorem wd_81 : Cond.fieldLink RX3 11 "CarrierNet$Timetable" "carts" "[LCarrierNet$Cart;" ∈ wsG := wG (tb1 (List.mem_of_getElem? (i := 80) rfl)) rfl
set_option maxRecDepth 20000 in
theorem wd_82 : Cond.fieldLink RX3 17 "CarrierNet$Timetable" "cartCount" "I" ∈ wsG := wG (tb1 (List.mem_of_getElem? (i := 82) rfl)) rfl
set_option maxRecDepth 20000 in
theorem wd_83 : Cond.fieldLink RX3 21 "CarrierNet$Timetable" "version" "I" ∈ wsG := wG (tb1 (List.mem_of_getElem? (i := 84) rfl)) rfl
set_option maxRecDepth 20000 in
theorem wd_84 : Cond.fieldLink RX3 24 "CarrierNet$Timetable" "halts" "[I" ∈ wsG := wG (tb1 (List.mem_of_getElem? (i := 86) rfl)) rfl
set_option maxRecDepth 20000 in
theorem wd_85 : Cond.fieldLink RX3 28 "CarrierNet$Timetable" "firsts" "[I" ∈ wsG := wG (tb1 (List.mem_of_getElem? (i := 87) rfl)) rfl
set_option maxRecDepth 20000 in
theorem wd_86 : Cond.fieldLink RX3 31 "CarrierNet$Timetable" "links" "[I" ∈ wsG := wG (tb1 (List.mem_of_getElem? (i := 88) rfl)) rfl
set_option maxRecDepth 20000 in
theorem wd_87 : Cond.fieldLink RX3 34 "CarrierNet$Timetable" "riding" "[I" ∈ wsG := wG (tb1 (List.mem_of_getElem? (i := 90) rfl)) rfl
set_option maxRecDepth 20000 in
theorem wd_88 : Cond.fieldLink RX3 37 "CarrierNet$Timetable" "latestRow" "[I" ∈ wsG := wG (tb1 (List.mem_of_getElem? (i := 91) rfl)) rfl
set_option maxRecDepth 20000 in
theorem wd_89 : Cond.fieldLink RX3 40 "CarrierNet$Timetable" "reached" "I" ∈ wsG := wG (tb1 (List.mem_of_getElem? (i := 92) rfl)) rfl
set_option maxRecDepth 20000 in
theorem wd_90 : Cond.instantiable RX0 11 ∈ wsG := wG (tb1 (List.mem_of_getElem? (i := 30) rfl)) rfl
set_option maxRecDepth 20000 in
theorem wd_91 : Cond.instanceMethod yX0_init ∈ wsG := wG (tb1 (List.mem_of_getElem? (i := 32) rfl)) rfl
set_option maxRecDepth 20000 in
theorem wd_92 : Cond.fieldLink RX3 74 "CarrierNet$Cart" "weekdays" "I" ∈ wsG := wG (tb1 (List.mem_of_getElem? (i := 36) rfl)) rfl
set_option maxRecDepth 20000 in
theorem wd_93 : Cond.fieldLink RX3 44 "CarrierNet$Cart" "stops" "I" ∈ wsG := wG (tb1 (List.mem_of_getElem? (i := 46) rfl)) rfl
set_option maxRecDepth 20000 in
theorem wd_94 : Cond.fieldLink RX3 47 "CarrierNet$Cart" "places" "[I" ∈ wsG := wG (tb1 (List.mem_of_getElem? (i := 49) rfl)) rfl
set_option maxRecDepth 20000 in
theorem wd_95 : Cond.methodLink RX3 70 yX3_growLinks ∈ wsG := wG (tb2 (List.mem_of_getElem? (i := 20) rfl)) rfl
set_option maxRecDepth 20000 in
theorem wd_96 : Cond.instanceMethod yX3_growLinks ∈ wsG := wG (tb2 (List.mem_of_getElem? (i := 21) rfl)) rfl
set_option maxRecDepth 20000 in
theorem wd_97 : Cond.selects RX3 yX3_growLinks yX3_growLinks ∈ wsG := wG (tb2 (List.mem_of_getElem? (i := 22) rfl)) rfl
set_option maxRecDepth 20000 in
theorem wd_98 : Cond.initialized RX3 ∈ wsG := wG (tb1 (List.mem_of_getElem? (i := 2) rfl)) rfl
set_option maxRecDepth 20000 in
theorem wd_99 : Cond.fieldLink RX3 50 "CarrierNet$Cart" "offsets" "[I" ∈ wsG := wG (tb1 (List.mem_of_getElem? (i := 52) rfl)) rfl
set_option maxRecDepth 20000 in
theorem wd_100 : Cond.fieldLink RX3 53 "CarrierNet$Cart" "hour" "I" ∈ wsG := wG (tb1 (List.mem_of_getElem? (i := 38) rfl)) rfl
set_option maxRecDepth 20000 in
theorem wd_101 : Cond.methodLink RX3 56 yX3_addHalt ∈ wsG := wG (tb2 (List.mem_of_getElem? (i := 12) rfl)) rfl
set_option maxRecDepth 20000 in
theorem wd_102 : Cond.instanceMethod yX3_addHalt ∈ wsG := wG (tb2 (List.mem_of_getElem? (i := 13) rfl)) rfl
set_option maxRecDepth 20000 in
theorem wd_103 : Cond.selects RX3 yX3_addHalt yX3_addHalt ∈ wsG := wG (tb2 (List.mem_of_getElem? (i := 14) rfl)) rfl
set_option maxRecDepth 20000 in
theorem wd_104 : Cond.methodLink RX3 60 yX3_renew ∈ wsG := wG (tb2 (List.mem_of_getElem? (i := 16) rfl)) rfl
set_option maxRecDepth 20000 in
theorem wd_105 : Cond.instanceMethod yX3_renew ∈ wsG := wG (tb2 (List.mem_of_getElem? (i := 17) rfl)) rfl
set_option maxRecDepth 20000 in
theorem wd_106 : Cond.selects RX3 yX3_renew yX3_renew ∈ wsG := wG (tb2 (List.mem_of_getElem? (i := 18) rfl)) rfl
set_option maxRecDepth 20000 in
theorem wd_107 : Cond.methodLink RX3 63 yX3_haltsBegin ∈ wsG := wG (tb2 (List.mem_of_getElem? (i := 97) rfl)) rfl
set_option maxRecDepth 20000 in
theorem wd_108 : Cond.instanceMethod yX3_haltsBegin ∈ wsG := wG (tb2 (List.mem_of_getElem? (i := 98) rfl)) rfl
set_option maxRecDepth 20000 in
theorem wd_109 : Cond.selects RX3 yX3_haltsBegin yX3_haltsBegin ∈ wsG := wG (tb2 (List.mem_of_getElem? (i := 99) rfl)) rfl
set_option maxRecDepth 20000 in
theorem wd_110 : Cond.methodLink RX3 67 yX3_haltsEnd ∈ wsG := wG (tb2 (List.mem_of_getElem? (i := 93) rfl)) rfl
set_option maxRecDepth 20000 in
theorem wd_111 : Cond.instanceMethod yX3_haltsEnd ∈ wsG := wG (tb2 (List.mem_of_getElem? (i := 94) rfl)) rfl
set_option maxRecDepth 20000 in
theorem wd_112 : Cond.selects RX3 yX3_haltsEnd yX3_haltsEnd ∈ wsG := wG (tb2 (List.mem_of_getElem? (i := 95) rfl)) rfl
set_option maxRecDepth 20000 in
theorem wd_113 : Cond.methodLink RX3 90 yX3_cartOf ∈ wsG := wG (tb2 (List.mem_of_getElem? (i := 101) rfl)) rfl
set_option maxRecDepth 20000 in
theorem wd_114 : Cond.instanceMethod yX3_cartOf ∈ wsG := wG (tb2 (List.mem_of_getElem? (i := 102) rfl)) rfl
set_option maxRecDepth 20000 in
theorem wd_115 : Cond.selects RX3 yX3_cartOf yX3_cartOf ∈ wsG := wG (tb2 (List.mem_of_getElem? (i := 103) rfl)) rfl
set_option maxRecDepth 20000 in
theorem wd_116 : Cond.methodLink RX3 93 yX3_stopOf ∈ wsG := wG (tb2 (List.mem_of_getElem? (i := 105) rfl)) rfl
set_option maxRecDepth 20000 in
theorem wd_117 : Cond.instanceMethod yX3_stopOf ∈ wsG := wG (tb2 (List.mem_of_getElem? (i := 106) rfl)) rfl
set_option maxRecDepth 20000 in
theorem wd_118 : Cond.selects RX3 yX3_stopOf yX3_stopOf ∈ wsG := wG (tb2 (List.mem_of_getElem? (i := 107) rfl)) rfl
set_option maxRecDepth 20000 in
theorem wd_119 : Cond.methodLink RX3 96 yX0_dayOf ∈ wsG := wG (tb2 (List.mem_of_getElem? (i := 109) rfl)) rfl
set_option maxRecDepth 20000 in
theorem wd_120 : Cond.instanceMethod yX0_dayOf ∈ wsG := wG (tb2 (List.mem_of_getElem? (i := 110) rfl)) rfl
set_option maxRecDepth 20000 in
theorem wd_121 : Cond.selects RX0 yX0_dayOf yX0_dayOf ∈ wsG := wG (tb2 (List.mem_of_getElem? (i := 111) rfl)) rfl
set_option maxRecDepth 20000 in
theorem wd_122 : Cond.methodLink RX3 100 yX0_goesOn ∈ wsG := wG (tb2 (List.mem_of_getElem? (i := 117) rfl)) rfl
set_option maxRecDepth 20000 in
theorem wd_123 : Cond.instanceMethod yX0_goesOn ∈ wsG := wG (tb2 (List.mem_of_getElem? (i := 63) rfl)) rfl
set_option maxRecDepth 20000 in
theorem wd_124 : Cond.selects RX0 yX0_goesOn yX0_goesOn ∈ wsG := wG (tb2 (List.mem_of_getElem? (i := 64) rfl)) rfl
set_option maxRecDepth 20000 in
theorem wd_125 : Cond.methodLink RX3 77 yJ7_fill_53178 ∈ wsG := wG (tb2 (List.mem_of_getElem? (i := 86) rfl)) rfl
set_option maxRecDepth 20000 in
theorem wd_126 : Cond.static yJ7_fill_53178 ∈ wsG := wG (tb2 (List.mem_of_getElem? (i := 87) rfl)) rfl
set_option maxRecDepth 20000 in
theorem wd_127 : Cond.initialized RJ7 ∈ wsG := wG (tb1 (List.mem_of_getElem? (i := 7) rfl)) rfl
set_option maxRecDepth 20000 in
theorem wd_128 : Cond.methodLink RX3 83 yX3_getDown ∈ wsG := wG (tb2 (List.mem_of_getElem? (i := 89) rfl)) rfl
set_option maxRecDepth 20000 in
theorem wd_129 : Cond.instanceMethod yX3_getDown ∈ wsG := wG (tb2 (List.mem_of_getElem? (i := 90) rfl)) rfl
set_option maxRecDepth 20000 in
theorem wd_130 : Cond.selects RX3 yX3_getDown yX3_getDown ∈ wsG := wG (tb2 (List.mem_of_getElem? (i := 91) rfl)) rfl
set_option maxRecDepth 20000 in
theorem wd_131 : Cond.methodLink RX3 87 yX3_getOn ∈ wsG := wG (tb2 (List.mem_of_getElem? (i := 113) rfl)) rfl
set_option maxRecDepth 20000 in
theorem wd_132 : Cond.instanceMethod yX3_getOn ∈ wsG := wG (tb2 (List.mem_of_getElem? (i := 114) rfl)) rfl
set_option maxRecDepth 20000 in
theorem wd_133 : Cond.selects RX3 yX3_getOn yX3_getOn ∈ wsG := wG (tb2 (List.mem_of_getElem? (i := 115) rfl)) rfl
set_option maxRecDepth 20000 in
theorem wd_134 : Cond.methodLink RX3 116 Lib.Math.max.name ∈ wsG := wG (tb2 (List.mem_of_getElem? (i := 138) rfl)) rfl
set_option maxRecDepth 20000 in
theorem wd_135 : Cond.static Lib.Math.max.name ∈ wsG := wG (tb2 (List.mem_of_getElem? (i := 139) rfl)) rfl
set_option maxRecDepth 20000 in
theorem wd_136 : Cond.methodLink RX3 108 yX3_lookWhereItCameBy ∈ wsG := wG (tb2 (List.mem_of_getElem? (i := 134) rfl)) rfl
set_option maxRecDepth 20000 in
theorem wd_137 : Cond.instanceMethod yX3_lookWhereItCameBy ∈ wsG := wG (tb2 (List.mem_of_getElem? (i := 135) rfl)) rfl
set_option maxRecDepth 20000 in
theorem wd_138 : Cond.selects RX3 yX3_lookWhereItCameBy yX3_lookWhereItCameBy ∈ wsG := wG (tb2 (List.mem_of_getElem? (i := 136) rfl)) rfl
set_option maxRecDepth 20000 in
theorem wd_139 : Cond.methodLink RX3 112 yX3_lookWhatComes ∈ wsG := wG (tb2 (List.mem_of_getElem? (i := 141) rfl)) rfl
set_option maxRecDepth 20000 in
theorem wd_140 : Cond.instanceMethod yX3_lookWhatComes ∈ wsG := wG (tb2 (List.mem_of_getElem? (i := 142) rfl)) rfl
set_option maxRecDepth 20000 in
theorem wd_141 : Cond.selects RX3 yX3_lookWhatComes yX3_lookWhatComes ∈ wsG := wG (tb2 (List.mem_of_getElem? (i := 143) rfl)) rfl
set_option maxRecDepth 20000 in
theorem wd_142 : Cond.methodLink RX3 104 yX3_findLatest ∈ wsG := wG (tb2 (List.mem_of_getElem? (i := 130) rfl)) rfl
set_option maxRecDepth 20000 in
theorem wd_143 : Cond.instanceMethod yX3_findLatest ∈ wsG := wG (tb2 (List.mem_of_getElem? (i := 131) rfl)) rfl
set_option maxRecDepth 20000 in
theorem wd_144 : Cond.selects RX3 yX3_findLatest yX3_findLatest ∈ wsG := wG (tb2 (List.mem_of_getElem? (i := 132) rfl)) rfl
set_option maxRecDepth 20000 in
theorem wd_145 : Cond.fieldLink RX3 121 "CarrierNet$Cart" "earned" "I" ∈ wsG := wG (tb1 (List.mem_of_getElem? (i := 44) rfl)) rfl
set_option maxRecDepth 20000 in
theorem wd_146 : Cond.methodLink RX4 1 objectInit ∈ wsG := wG (tb1 (List.mem_of_getElem? (i := 19) rfl)) rfl
set_option maxRecDepth 20000 in
theorem wd_147 : Cond.classLink RX4 7 RX3 ∈ wsG := wG (tb1 (List.mem_of_getElem? (i := 22) rfl)) rfl
set_option maxRecDepth 20000 in
theorem wd_148 : Cond.instantiable RX3 9 ∈ wsG := wG (tb1 (List.mem_of_getElem? (i := 23) rfl)) rfl
set_option maxRecDepth 20000 in
theorem wd_149 : Cond.fieldLink RX4 10 "CarrierNet" "timetable" "LCarrierNet$Timetable;" ∈ wsG := wG (tb1 (List.mem_of_getElem? (i := 212) rfl)) rfl
set_option maxRecDepth 20000 in
theorem wd_150 : Cond.classLink RX4 16 RX1 ∈ wsG := wG (tb1 (List.mem_of_getElem? (i := 113) rfl)) rfl
set_option maxRecDepth 20000 in
theorem wd_151 : Cond.instantiable RX1 11 ∈ wsG := wG (tb1 (List.mem_of_getElem? (i := 114) rfl)) rfl
set_option maxRecDepth 20000 in
theorem wd_152 : Cond.fieldLink RX4 19 "CarrierNet" "errands" "LCarrierNet$Errands;" ∈ wsG := wG (tb1 (List.mem_of_getElem? (i := 213) rfl)) rfl
set_option maxRecDepth 20000 in
theorem wd_153 : Cond.classLink RX4 23 RX2 ∈ wsG := wG (tb1 (List.mem_of_getElem? (i := 157) rfl)) rfl
set_option maxRecDepth 20000 in
theorem wd_154 : Cond.fieldLink RX4 25 "CarrierNet" "parcels" "[LCarrierNet$Parcel;" ∈ wsG := wG (tb1 (List.mem_of_getElem? (i := 214) rfl)) rfl
set_option maxRecDepth 20000 in
theorem wd_155 : Cond.fieldLink RX4 29 "CarrierNet" "parcelCount" "I" ∈ wsG := wG (tb1 (List.mem_of_getElem? (i := 215) rfl)) rfl
set_option maxRecDepth 20000 in
theorem wd_156 : Cond.fieldLink RX4 33 "CarrierNet" "now" "I" ∈ wsG := wG (tb1 (List.mem_of_getElem? (i := 216) rfl)) rfl
set_option maxRecDepth 20000 in
theorem wd_157 : Cond.fieldLink RX4 36 "CarrierNet" "snowTold" "I" ∈ wsG := wG (tb1 (List.mem_of_getElem? (i := 217) rfl)) rfl
set_option maxRecDepth 20000 in
theorem wd_158 : Cond.instantiable RX2 12 ∈ wsG := wG (tb1 (List.mem_of_getElem? (i := 159) rfl)) rfl
set_option maxRecDepth 20000 in
theorem wd_159 : Cond.initialized RX2 ∈ wsG := wG (tb1 (List.mem_of_getElem? (i := 5) rfl)) rfl
set_option maxRecDepth 20000 in
theorem wd_160 : Cond.methodLink RX4 9 yX3_init ∈ wsG := wG (tb1 (List.mem_of_getElem? (i := 24) rfl)) rfl
set_option maxRecDepth 20000 in
theorem wd_161 : Cond.instanceMethod yX3_init ∈ wsG := wG (tb1 (List.mem_of_getElem? (i := 25) rfl)) rfl
set_option maxRecDepth 20000 in
theorem wd_162 : Cond.methodLink RX4 18 yX1_init ∈ wsG := wG (tb1 (List.mem_of_getElem? (i := 115) rfl)) rfl
set_option maxRecDepth 20000 in
theorem wd_163 : Cond.instanceMethod yX1_init ∈ wsG := wG (tb1 (List.mem_of_getElem? (i := 116) rfl)) rfl
set_option maxRecDepth 20000 in
theorem wd_164 : Cond.instanceMethod yX2_init ∈ wsG := wG (tb1 (List.mem_of_getElem? (i := 161) rfl)) rfl
set_option maxRecDepth 20000 in
theorem wd_165 : Cond.methodLink RX4 44 yX4_isIn ∈ wsG := wG (tb1 (List.mem_of_getElem? (i := 238) rfl)) rfl
set_option maxRecDepth 20000 in
theorem wd_166 : Cond.fieldLink RX4 51 "CarrierNet$Timetable" "cartCount" "I" ∈ wsG := wG (tb1 (List.mem_of_getElem? (i := 83) rfl)) rfl
set_option maxRecDepth 20000 in
theorem wd_167 : Cond.fieldLink RX4 54 "CarrierNet$Timetable" "carts" "[LCarrierNet$Cart;" ∈ wsG := wG (tb1 (List.mem_of_getElem? (i := 81) rfl)) rfl
set_option maxRecDepth 20000 in
theorem wd_168 : Cond.fieldLink RX4 58 "CarrierNet$Cart" "hour" "I" ∈ wsG := wG (tb1 (List.mem_of_getElem? (i := 39) rfl)) rfl
set_option maxRecDepth 20000 in
theorem wd_169 : Cond.methodLink RX4 40 yX4_areTerms ∈ wsG := wG (tb1 (List.mem_of_getElem? (i := 235) rfl)) rfl
set_option maxRecDepth 20000 in
theorem wd_170 : Cond.static yX4_areTerms ∈ wsG := wG (tb1 (List.mem_of_getElem? (i := 236) rfl)) rfl
set_option maxRecDepth 20000 in
theorem wd_171 : Cond.methodLink RX4 47 yX4_isPlace ∈ wsG := wG (tb2 (List.mem_of_getElem? (i := 1) rfl)) rfl
set_option maxRecDepth 20000 in
theorem wd_172 : Cond.static yX4_isPlace ∈ wsG := wG (tb2 (List.mem_of_getElem? (i := 2) rfl)) rfl
set_option maxRecDepth 20000 in
theorem wd_173 : Cond.methodLink RX4 63 yX0_setTerms ∈ wsG := wG (tb2 (List.mem_of_getElem? (i := 4) rfl)) rfl
set_option maxRecDepth 20000 in
theorem wd_174 : Cond.instanceMethod yX0_setTerms ∈ wsG := wG (tb2 (List.mem_of_getElem? (i := 5) rfl)) rfl
set_option maxRecDepth 20000 in
theorem wd_175 : Cond.selects RX0 yX0_setTerms yX0_setTerms ∈ wsG := wG (tb2 (List.mem_of_getElem? (i := 6) rfl)) rfl
set_option maxRecDepth 20000 in
theorem wd_176 : Cond.methodLink RX4 67 yX3_addStop ∈ wsG := wG (tb2 (List.mem_of_getElem? (i := 8) rfl)) rfl
set_option maxRecDepth 20000 in
theorem wd_177 : Cond.instanceMethod yX3_addStop ∈ wsG := wG (tb2 (List.mem_of_getElem? (i := 9) rfl)) rfl
set_option maxRecDepth 20000 in
theorem wd_178 : Cond.selects RX3 yX3_addStop yX3_addStop ∈ wsG := wG (tb2 (List.mem_of_getElem? (i := 10) rfl)) rfl
set_option maxRecDepth 20000 in
theorem wd_179 : Cond.fieldLink RX4 73 "CarrierNet$Cart" "stops" "I" ∈ wsG := wG (tb1 (List.mem_of_getElem? (i := 47) rfl)) rfl
set_option maxRecDepth 20000 in
theorem wd_180 : Cond.methodLink RX4 70 yX4_isCart ∈ wsG := wG (tb2 (List.mem_of_getElem? (i := 28) rfl)) rfl
set_option maxRecDepth 20000 in
theorem wd_181 : Cond.instanceMethod yX4_isCart ∈ wsG := wG (tb2 (List.mem_of_getElem? (i := 30) rfl)) rfl
set_option maxRecDepth 20000 in
theorem wd_182 : Cond.selects RX4 yX4_isCart yX4_isCart ∈ wsG := wG (tb0 (List.mem_of_getElem? (i := 0) rfl)) rfl
set_option maxRecDepth 20000 in
theorem wd_183 : Cond.methodLink RX4 76 yX0_lastOffset ∈ wsG := wG (tb2 (List.mem_of_getElem? (i := 32) rfl)) rfl
set_option maxRecDepth 20000 in
theorem wd_184 : Cond.instanceMethod yX0_lastOffset ∈ wsG := wG (tb2 (List.mem_of_getElem? (i := 33) rfl)) rfl
set_option maxRecDepth 20000 in
theorem wd_185 : Cond.selects RX0 yX0_lastOffset yX0_lastOffset ∈ wsG := wG (tb2 (List.mem_of_getElem? (i := 34) rfl)) rfl
set_option maxRecDepth 20000 in
theorem wd_186 : Cond.methodLink RX4 80 yX0_isLaden ∈ wsG := wG (tb2 (List.mem_of_getElem? (i := 36) rfl)) rfl
set_option maxRecDepth 20000 in
theorem wd_187 : Cond.instanceMethod yX0_isLaden ∈ wsG := wG (tb2 (List.mem_of_getElem? (i := 37) rfl)) rfl
set_option maxRecDepth 20000 in
theorem wd_188 : Cond.selects RX0 yX0_isLaden yX0_isLaden ∈ wsG := wG (tb2 (List.mem_of_getElem? (i := 38) rfl)) rfl
set_option maxRecDepth 20000 in
theorem wd_189 : Cond.methodLink RX4 84 yX3_renew ∈ wsG := wG (tb2 (List.mem_of_getElem? (i := 44) rfl)) rfl
set_option maxRecDepth 20000 in
theorem wd_190 : Cond.methodLink RX4 87 yX0_isSnowedIn ∈ wsG := wG (tb2 (List.mem_of_getElem? (i := 49) rfl)) rfl
set_option maxRecDepth 20000 in
theorem wd_191 : Cond.instanceMethod yX0_isSnowedIn ∈ wsG := wG (tb2 (List.mem_of_getElem? (i := 50) rfl)) rfl
set_option maxRecDepth 20000 in
theorem wd_192 : Cond.selects RX0 yX0_isSnowedIn yX0_isSnowedIn ∈ wsG := wG (tb2 (List.mem_of_getElem? (i := 51) rfl)) rfl
set_option maxRecDepth 20000 in
theorem wd_193 : Cond.methodLink RX4 90 yX0_addSnow ∈ wsG := wG (tb2 (List.mem_of_getElem? (i := 54) rfl)) rfl
set_option maxRecDepth 20000 in
theorem wd_194 : Cond.instanceMethod yX0_addSnow ∈ wsG := wG (tb2 (List.mem_of_getElem? (i := 55) rfl)) rfl
set_option maxRecDepth 20000 in
theorem wd_195 : Cond.selects RX0 yX0_addSnow yX0_addSnow ∈ wsG := wG (tb2 (List.mem_of_getElem? (i := 56) rfl)) rfl
set_option maxRecDepth 20000 in
theorem wd_196 : Cond.methodLink RX4 94 yX0_goesOn ∈ wsG := wG (tb2 (List.mem_of_getElem? (i := 62) rfl)) rfl
set_option maxRecDepth 20000 in
theorem wd_197 : Cond.fieldLink RX4 97 "CarrierNet$Cart" "earned" "I" ∈ wsG := wG (tb1 (List.mem_of_getElem? (i := 43) rfl)) rfl
set_option maxRecDepth 20000 in
theorem wd_198 : Cond.methodLink RX4 100 yX0_roomLeft ∈ wsG := wG (tb2 (List.mem_of_getElem? (i := 74) rfl)) rfl
set_option maxRecDepth 20000 in
theorem wd_199 : Cond.instanceMethod yX0_roomLeft ∈ wsG := wG (tb2 (List.mem_of_getElem? (i := 75) rfl)) rfl
set_option maxRecDepth 20000 in
theorem wd_200 : Cond.selects RX0 yX0_roomLeft yX0_roomLeft ∈ wsG := wG (tb2 (List.mem_of_getElem? (i := 76) rfl)) rfl
set_option maxRecDepth 20000 in
theorem wd_201 : Cond.methodLink RX4 104 yX3_soonest ∈ wsG := wG (tb2 (List.mem_of_getElem? (i := 82) rfl)) rfl
set_option maxRecDepth 20000 in
theorem wd_202 : Cond.instanceMethod yX3_soonest ∈ wsG := wG (tb2 (List.mem_of_getElem? (i := 83) rfl)) rfl
set_option maxRecDepth 20000 in
theorem wd_203 : Cond.selects RX3 yX3_soonest yX3_soonest ∈ wsG := wG (tb2 (List.mem_of_getElem? (i := 84) rfl)) rfl
set_option maxRecDepth 20000 in
theorem wd_204 : Cond.fieldLink RX4 108 "CarrierNet$Timetable" "links" "[I" ∈ wsG := wG (tb1 (List.mem_of_getElem? (i := 89) rfl)) rfl
set_option maxRecDepth 20000 in
theorem wd_205 : Cond.fieldLink RX4 112 "CarrierNet$Timetable" "reached" "I" ∈ wsG := wG (tb1 (List.mem_of_getElem? (i := 93) rfl)) rfl
set_option maxRecDepth 20000 in
theorem wd_206 : Cond.methodLink RX4 115 yX3_startsFor ∈ wsG := wG (tb2 (List.mem_of_getElem? (i := 126) rfl)) rfl
set_option maxRecDepth 20000 in
theorem wd_207 : Cond.instanceMethod yX3_startsFor ∈ wsG := wG (tb2 (List.mem_of_getElem? (i := 127) rfl)) rfl
set_option maxRecDepth 20000 in
theorem wd_208 : Cond.selects RX3 yX3_startsFor yX3_startsFor ∈ wsG := wG (tb2 (List.mem_of_getElem? (i := 128) rfl)) rfl
set_option maxRecDepth 20000 in
theorem wd_209 : Cond.methodLink RX4 119 yX2_give ∈ wsG := wG (tb2 (List.mem_of_getElem? (i := 149) rfl)) rfl
set_option maxRecDepth 20000 in
theorem wd_210 : Cond.instanceMethod yX2_give ∈ wsG := wG (tb2 (List.mem_of_getElem? (i := 150) rfl)) rfl
set_option maxRecDepth 20000 in
theorem wd_211 : Cond.selects RX2 yX2_give yX2_give ∈ wsG := wG (tb2 (List.mem_of_getElem? (i := 151) rfl)) rfl
set_option maxRecDepth 20000 in
theorem wd_212 : Cond.fieldLink RX4 147 "CarrierNet$Parcel" "cart" "I" ∈ wsG := wG (tb1 (List.mem_of_getElem? (i := 171) rfl)) rfl
set_option maxRecDepth 20000 in
theorem wd_213 : Cond.fieldLink RX4 153 "CarrierNet$Parcel" "leaves" "I" ∈ wsG := wG (tb1 (List.mem_of_getElem? (i := 175) rfl)) rfl
set_option maxRecDepth 20000 in
theorem wd_214 : Cond.fieldLink RX4 150 "CarrierNet$Parcel" "day" "I" ∈ wsG := wG (tb1 (List.mem_of_getElem? (i := 173) rfl)) rfl
set_option maxRecDepth 20000 in
theorem wd_215 : Cond.fieldLink RX4 141 "CarrierNet$Parcel" "size" "I" ∈ wsG := wG (tb1 (List.mem_of_getElem? (i := 167) rfl)) rfl
set_option maxRecDepth 20000 in
theorem wd_216 : Cond.methodLink RX4 205 yX0_unload ∈ wsG := wG (tb2 (List.mem_of_getElem? (i := 161) rfl)) rfl
set_option maxRecDepth 20000 in
theorem wd_217 : Cond.instanceMethod yX0_unload ∈ wsG := wG (tb2 (List.mem_of_getElem? (i := 162) rfl)) rfl
set_option maxRecDepth 20000 in
theorem wd_218 : Cond.selects RX0 yX0_unload yX0_unload ∈ wsG := wG (tb2 (List.mem_of_getElem? (i := 163) rfl)) rfl
set_option maxRecDepth 20000 in
theorem wd_219 : Cond.methodLink RX4 209 yX2_leave ∈ wsG := wG (tb2 (List.mem_of_getElem? (i := 165) rfl)) rfl
set_option maxRecDepth 20000 in
theorem wd_220 : Cond.instanceMethod yX2_leave ∈ wsG := wG (tb2 (List.mem_of_getElem? (i := 166) rfl)) rfl
set_option maxRecDepth 20000 in
theorem wd_221 : Cond.selects RX2 yX2_leave yX2_leave ∈ wsG := wG (tb2 (List.mem_of_getElem? (i := 167) rfl)) rfl
set_option maxRecDepth 20000 in
theorem wd_222 : Cond.fieldLink RX4 259 "CarrierNet$Parcel" "plannedBy" "I" ∈ wsG := wG (tb1 (List.mem_of_getElem? (i := 182) rfl)) rfl
set_option maxRecDepth 20000 in
theorem wd_223 : Cond.fieldLink RX4 262 "CarrierNet$Timetable" "version" "I" ∈ wsG := wG (tb1 (List.mem_of_getElem? (i := 85) rfl)) rfl
set_option maxRecDepth 20000 in
theorem wd_224 : Cond.fieldLink RX4 265 "CarrierNet$Parcel" "hopefulFrom" "I" ∈ wsG := wG (tb1 (List.mem_of_getElem? (i := 184) rfl)) rfl
set_option maxRecDepth 20000 in
theorem wd_225 : Cond.fieldLink RX4 239 "CarrierNet$Parcel" "latest" "[I" ∈ wsG := wG (tb1 (List.mem_of_getElem? (i := 186) rfl)) rfl
set_option maxRecDepth 20000 in
theorem wd_226 : Cond.fieldLink RX4 144 "CarrierNet$Parcel" "place" "I" ∈ wsG := wG (tb1 (List.mem_of_getElem? (i := 169) rfl)) rfl
set_option maxRecDepth 20000 in
theorem wd_227 : Cond.fieldLink RX4 138 "CarrierNet$Parcel" "to" "I" ∈ wsG := wG (tb1 (List.mem_of_getElem? (i := 165) rfl)) rfl
set_option maxRecDepth 20000 in
theorem wd_228 : Cond.methodLink RX4 268 yJ7_fill_53178 ∈ wsG := wG (tb2 (List.mem_of_getElem? (i := 194) rfl)) rfl
set_option maxRecDepth 20000 in
theorem wd_229 : Cond.methodLink RX4 274 yX3_findLatest ∈ wsG := wG (tb2 (List.mem_of_getElem? (i := 195) rfl)) rfl
set_option maxRecDepth 20000 in
theorem wd_230 : Cond.fieldLink RX4 252 "CarrierNet$Cart" "places" "[I" ∈ wsG := wG (tb1 (List.mem_of_getElem? (i := 50) rfl)) rfl
set_option maxRecDepth 20000 in
theorem wd_231 : Cond.methodLink RX4 216 yX3_haltsEnd ∈ wsG := wG (tb2 (List.mem_of_getElem? (i := 181) rfl)) rfl
set_option maxRecDepth 20000 in
theorem wd_232 : Cond.methodLink RX4 219 yX3_haltsBegin ∈ wsG := wG (tb2 (List.mem_of_getElem? (i := 182) rfl)) rfl
set_option maxRecDepth 20000 in
theorem wd_233 : Cond.methodLink RX4 222 yX3_cartOf ∈ wsG := wG (tb2 (List.mem_of_getElem? (i := 183) rfl)) rfl
set_option maxRecDepth 20000 in
theorem wd_234 : Cond.methodLink RX4 225 yX3_stopOf ∈ wsG := wG (tb2 (List.mem_of_getElem? (i := 184) rfl)) rfl
set_option maxRecDepth 20000 in
theorem wd_235 : Cond.methodLink RX4 228 yX0_dayOf ∈ wsG := wG (tb2 (List.mem_of_getElem? (i := 185) rfl)) rfl
set_option maxRecDepth 20000 in
theorem wd_236 : Cond.methodLink RX4 232 yX0_takesFrom ∈ wsG := wG (tb2 (List.mem_of_getElem? (i := 186) rfl)) rfl
set_option maxRecDepth 20000 in
theorem wd_237 : Cond.instanceMethod yX0_takesFrom ∈ wsG := wG (tb2 (List.mem_of_getElem? (i := 187) rfl)) rfl
set_option maxRecDepth 20000 in
theorem wd_238 : Cond.selects RX0 yX0_takesFrom yX0_takesFrom ∈ wsG := wG (tb2 (List.mem_of_getElem? (i := 188) rfl)) rfl
set_option maxRecDepth 20000 in
theorem wd_239 : Cond.methodLink RX4 236 yX4_renewPlan ∈ wsG := wG (tb2 (List.mem_of_getElem? (i := 190) rfl)) rfl
set_option maxRecDepth 20000 in
theorem wd_240 : Cond.instanceMethod yX4_renewPlan ∈ wsG := wG (tb2 (List.mem_of_getElem? (i := 192) rfl)) rfl
set_option maxRecDepth 20000 in
theorem wd_241 : Cond.selects RX4 yX4_renewPlan yX4_renewPlan ∈ wsG := wG (tb0 (List.mem_of_getElem? (i := 4) rfl)) rfl
set_option maxRecDepth 20000 in
theorem wd_242 : Cond.methodLink RX4 242 yX0_lastInTime ∈ wsG := wG (tb2 (List.mem_of_getElem? (i := 196) rfl)) rfl
set_option maxRecDepth 20000 in
theorem wd_243 : Cond.instanceMethod yX0_lastInTime ∈ wsG := wG (tb2 (List.mem_of_getElem? (i := 197) rfl)) rfl
set_option maxRecDepth 20000 in
theorem wd_244 : Cond.selects RX0 yX0_lastInTime yX0_lastInTime ∈ wsG := wG (tb2 (List.mem_of_getElem? (i := 198) rfl)) rfl
set_option maxRecDepth 20000 in
theorem wd_245 : Cond.methodLink RX4 246 yX0_load ∈ wsG := wG (tb2 (List.mem_of_getElem? (i := 204) rfl)) rfl
set_option maxRecDepth 20000 in
theorem wd_246 : Cond.instanceMethod yX0_load ∈ wsG := wG (tb2 (List.mem_of_getElem? (i := 205) rfl)) rfl
set_option maxRecDepth 20000 in
theorem wd_247 : Cond.selects RX0 yX0_load yX0_load ∈ wsG := wG (tb2 (List.mem_of_getElem? (i := 206) rfl)) rfl
set_option maxRecDepth 20000 in
theorem wd_248 : Cond.methodLink RX4 249 yX0_hourAt ∈ wsG := wG (tb2 (List.mem_of_getElem? (i := 208) rfl)) rfl
set_option maxRecDepth 20000 in
theorem wd_249 : Cond.methodLink RX4 255 yX2_board ∈ wsG := wG (tb2 (List.mem_of_getElem? (i := 209) rfl)) rfl
set_option maxRecDepth 20000 in
theorem wd_250 : Cond.instanceMethod yX2_board ∈ wsG := wG (tb2 (List.mem_of_getElem? (i := 210) rfl)) rfl
set_option maxRecDepth 20000 in
theorem wd_251 : Cond.selects RX2 yX2_board yX2_board ∈ wsG := wG (tb2 (List.mem_of_getElem? (i := 211) rfl)) rfl
set_option maxRecDepth 20000 in
theorem wd_252 : Cond.fieldLink RX4 156 "CarrierNet$Parcel" "came" "I" ∈ wsG := wG (tb1 (List.mem_of_getElem? (i := 178) rfl)) rfl
set_option maxRecDepth 20000 in
theorem wd_253 : Cond.methodLink RX4 212 yX4_seekRide ∈ wsG := wG (tb2 (List.mem_of_getElem? (i := 177) rfl)) rfl
set_option maxRecDepth 20000 in
theorem wd_254 : Cond.instanceMethod yX4_seekRide ∈ wsG := wG (tb2 (List.mem_of_getElem? (i := 179) rfl)) rfl
set_option maxRecDepth 20000 in
theorem wd_255 : Cond.selects RX4 yX4_seekRide yX4_seekRide ∈ wsG := wG (tb0 (List.mem_of_getElem? (i := 3) rfl)) rfl
set_option maxRecDepth 20000 in
theorem wd_256 : Cond.methodLink RX4 122 yX4_unloadParcels ∈ wsG := wG (tb2 (List.mem_of_getElem? (i := 157) rfl)) rfl
set_option maxRecDepth 20000 in
theorem wd_257 : Cond.instanceMethod yX4_unloadParcels ∈ wsG := wG (tb2 (List.mem_of_getElem? (i := 159) rfl)) rfl
set_option maxRecDepth 20000 in
theorem wd_258 : Cond.selects RX4 yX4_unloadParcels yX4_unloadParcels ∈ wsG := wG (tb0 (List.mem_of_getElem? (i := 1) rfl)) rfl
set_option maxRecDepth 20000 in
theorem wd_259 : Cond.methodLink RX4 125 yX3_hasHalts ∈ wsG := wG (tb2 (List.mem_of_getElem? (i := 169) rfl)) rfl
set_option maxRecDepth 20000 in
theorem wd_260 : Cond.instanceMethod yX3_hasHalts ∈ wsG := wG (tb2 (List.mem_of_getElem? (i := 170) rfl)) rfl
set_option maxRecDepth 20000 in
theorem wd_261 : Cond.selects RX3 yX3_hasHalts yX3_hasHalts ∈ wsG := wG (tb2 (List.mem_of_getElem? (i := 171) rfl)) rfl
set_option maxRecDepth 20000 in
theorem wd_262 : Cond.methodLink RX4 128 yX4_loadParcels ∈ wsG := wG (tb2 (List.mem_of_getElem? (i := 173) rfl)) rfl
set_option maxRecDepth 20000 in
theorem wd_263 : Cond.instanceMethod yX4_loadParcels ∈ wsG := wG (tb2 (List.mem_of_getElem? (i := 175) rfl)) rfl
set_option maxRecDepth 20000 in
theorem wd_264 : Cond.selects RX4 yX4_loadParcels yX4_loadParcels ∈ wsG := wG (tb0 (List.mem_of_getElem? (i := 2) rfl)) rfl
set_option maxRecDepth 20000 in
theorem wd_265 : Cond.classLink RX4 131 "java/util/NoSuchElementException" ∈ wsG := wG (tb3 (List.mem_of_getElem? (i := 90) rfl)) rfl
set_option maxRecDepth 20000 in
theorem wd_266 : Cond.initialized "java/util/NoSuchElementException" ∈ wsG := wG (tb1 (List.mem_of_getElem? (i := 12) rfl)) rfl
set_option maxRecDepth 20000 in
theorem wd_267 : Cond.fieldLink RX4 159 "CarrierNet$Parcel" "rides" "I" ∈ wsG := wG (tb1 (List.mem_of_getElem? (i := 180) rfl)) rfl
set_option maxRecDepth 20000 in
theorem wd_268 : Cond.methodLink RX4 164 yX1_setWalk ∈ wsG := wG (tb2 (List.mem_of_getElem? (i := 221) rfl)) rfl
set_option maxRecDepth 20000 in
theorem wd_269 : Cond.instanceMethod yX1_setWalk ∈ wsG := wG (tb2 (List.mem_of_getElem? (i := 222) rfl)) rfl
set_option maxRecDepth 20000 in
theorem wd_270 : Cond.selects RX1 yX1_setWalk yX1_setWalk ∈ wsG := wG (tb2 (List.mem_of_getElem? (i := 223) rfl)) rfl
set_option maxRecDepth 20000 in
theorem wd_271 : Cond.methodLink RX4 167 yX1_put ∈ wsG := wG (tb2 (List.mem_of_getElem? (i := 233) rfl)) rfl
set_option maxRecDepth 20000 in
theorem wd_272 : Cond.instanceMethod yX1_put ∈ wsG := wG (tb2 (List.mem_of_getElem? (i := 234) rfl)) rfl
set_option maxRecDepth 20000 in
theorem wd_273 : Cond.selects RX1 yX1_put yX1_put ∈ wsG := wG (tb2 (List.mem_of_getElem? (i := 235) rfl)) rfl
set_option maxRecDepth 20000 in
theorem wd_274 : Cond.methodLink RX4 170 yX1_empty ∈ wsG := wG (tb3 (List.mem_of_getElem? (i := 4) rfl)) rfl
set_option maxRecDepth 20000 in
theorem wd_275 : Cond.instanceMethod yX1_empty ∈ wsG := wG (tb3 (List.mem_of_getElem? (i := 5) rfl)) rfl
set_option maxRecDepth 20000 in
theorem wd_276 : Cond.selects RX1 yX1_empty yX1_empty ∈ wsG := wG (tb3 (List.mem_of_getElem? (i := 6) rfl)) rfl
set_option maxRecDepth 20000 in
theorem wd_277 : Cond.constant RJ6 265 1431655765 ∈ wsG := wG (tb3 (List.mem_of_getElem? (i := 55) rfl)) rfl
set_option maxRecDepth 20000 in
theorem wd_278 : Cond.constant RJ6 266 858993459 ∈ wsG := wG (tb3 (List.mem_of_getElem? (i := 56) rfl)) rfl
set_option maxRecDepth 20000 in
theorem wd_279 : Cond.constant RJ6 267 252645135 ∈ wsG := wG (tb3 (List.mem_of_getElem? (i := 57) rfl)) rfl
set_option maxRecDepth 20000 in
theorem wd_280 : Cond.fieldLink RX4 176 "CarrierNet$Errands" "chosenWorth" "I" ∈ wsG := wG (tb1 (List.mem_of_getElem? (i := 130) rfl)) rfl
set_option maxRecDepth 20000 in
theorem wd_281 : Cond.fieldLink RX4 179 "CarrierNet$Errands" "chosenMinutes" "I" ∈ wsG := wG (tb1 (List.mem_of_getElem? (i := 132) rfl)) rfl
set_option maxRecDepth 20000 in
theorem wd_282 : Cond.fieldLink RX4 182 "CarrierNet$Errands" "chosen" "I" ∈ wsG := wG (tb1 (List.mem_of_getElem? (i := 128) rfl)) rfl
set_option maxRecDepth 20000 in
theorem wd_283 : Cond.methodLink RX4 173 yX1_choose ∈ wsG := wG (tb3 (List.mem_of_getElem? (i := 12) rfl)) rfl
set_option maxRecDepth 20000 in
theorem wd_284 : Cond.instanceMethod yX1_choose ∈ wsG := wG (tb3 (List.mem_of_getElem? (i := 13) rfl)) rfl
set_option maxRecDepth 20000 in
theorem wd_285 : Cond.selects RX1 yX1_choose yX1_choose ∈ wsG := wG (tb3 (List.mem_of_getElem? (i := 14) rfl)) rfl
set_option maxRecDepth 20000 in
theorem wd_286 : Cond.methodLink RX4 185 yJ6_bitCount_0f7a4 ∈ wsG := wG (tb3 (List.mem_of_getElem? (i := 52) rfl)) rfl
set_option maxRecDepth 20000 in
theorem wd_287 : Cond.static yJ6_bitCount_0f7a4 ∈ wsG := wG (tb3 (List.mem_of_getElem? (i := 53) rfl)) rfl
set_option maxRecDepth 20000 in
theorem wd_288 : Cond.initialized RJ6 ∈ wsG := wG (tb1 (List.mem_of_getElem? (i := 13) rfl)) rfl
set_option maxRecDepth 20000 in
theorem wd_289 : Cond.methodLink RX4 190 yX1_chosenShop ∈ wsG := wG (tb3 (List.mem_of_getElem? (i := 62) rfl)) rfl
set_option maxRecDepth 20000 in
theorem wd_290 : Cond.instanceMethod yX1_chosenShop ∈ wsG := wG (tb3 (List.mem_of_getElem? (i := 63) rfl)) rfl
set_option maxRecDepth 20000 in
theorem wd_291 : Cond.selects RX1 yX1_chosenShop yX1_chosenShop ∈ wsG := wG (tb3 (List.mem_of_getElem? (i := 64) rfl)) rfl
set_option maxRecDepth 20000 in
theorem wd_292 : Cond.fieldLink RX4 202 "CarrierNet$Errands" "listed" "I" ∈ wsG := wG (tb1 (List.mem_of_getElem? (i := 124) rfl)) rfl
set_option maxRecDepth 20000 in
theorem wd_293 : Cond.methodLink RX4 193 yX4_countCome ∈ wsG := wG (tb3 (List.mem_of_getElem? (i := 70) rfl)) rfl
set_option maxRecDepth 20000 in
theorem wd_294 : Cond.instanceMethod yX4_countCome ∈ wsG := wG (tb3 (List.mem_of_getElem? (i := 72) rfl)) rfl
set_option maxRecDepth 20000 in
theorem wd_295 : Cond.selects RX4 yX4_countCome yX4_countCome ∈ wsG := wG (tb0 (List.mem_of_getElem? (i := 5) rfl)) rfl
set_option maxRecDepth 20000 in
theorem wd_296 : Cond.methodLink RX4 196 yX4_countRiding ∈ wsG := wG (tb3 (List.mem_of_getElem? (i := 74) rfl)) rfl
set_option maxRecDepth 20000 in
theorem wd_297 : Cond.instanceMethod yX4_countRiding ∈ wsG := wG (tb3 (List.mem_of_getElem? (i := 76) rfl)) rfl
set_option maxRecDepth 20000 in
theorem wd_298 : Cond.selects RX4 yX4_countRiding yX4_countRiding ∈ wsG := wG (tb0 (List.mem_of_getElem? (i := 6) rfl)) rfl
set_option maxRecDepth 20000 in
theorem wd_299 : Cond.methodLink RX4 199 yX3_earnedInAll ∈ wsG := wG (tb3 (List.mem_of_getElem? (i := 78) rfl)) rfl
set_option maxRecDepth 20000 in
theorem wd_300 : Cond.instanceMethod yX3_earnedInAll ∈ wsG := wG (tb3 (List.mem_of_getElem? (i := 79) rfl)) rfl
set_option maxRecDepth 20000 in
theorem wd_301 : Cond.selects RX3 yX3_earnedInAll yX3_earnedInAll ∈ wsG := wG (tb3 (List.mem_of_getElem? (i := 80) rfl)) rfl
set_option maxRecDepth 20000 in
theorem wd_302 : Cond.methodLink RX5 1 objectInit ∈ wsG := wG (tb3 (List.mem_of_getElem? (i := 162) rfl)) rfl
set_option maxRecDepth 20000 in
theorem wd_303 : Cond.fieldLink RX5 9 "CarrierNetModel" "weekdays" "[I" ∈ wsG := wG (tb3 (List.mem_of_getElem? (i := 170) rfl)) rfl
set_option maxRecDepth 20000 in
theorem wd_304 : Cond.fieldLink RX5 13 "CarrierNetModel" "hour" "[I" ∈ wsG := wG (tb3 (List.mem_of_getElem? (i := 171) rfl)) rfl
set_option maxRecDepth 20000 in
theorem wd_305 : Cond.fieldLink RX5 16 "CarrierNetModel" "room" "[I" ∈ wsG := wG (tb3 (List.mem_of_getElem? (i := 172) rfl)) rfl
set_option maxRecDepth 20000 in
theorem wd_306 : Cond.fieldLink RX5 19 "CarrierNetModel" "fare" "[I" ∈ wsG := wG (tb3 (List.mem_of_getElem? (i := 173) rfl)) rfl
set_option maxRecDepth 20000 in
theorem wd_307 : Cond.fieldLink RX5 22 "CarrierNetModel" "stops" "[I" ∈ wsG := wG (tb3 (List.mem_of_getElem? (i := 174) rfl)) rfl
set_option maxRecDepth 20000 in
theorem wd_308 : Cond.fieldLink RX5 25 "CarrierNetModel" "fares" "[I" ∈ wsG := wG (tb3 (List.mem_of_getElem? (i := 175) rfl)) rfl
set_option maxRecDepth 20000 in
theorem wd_309 : Cond.fieldLink RX5 28 "CarrierNetModel" "stopPlace" "[I" ∈ wsG := wG (tb3 (List.mem_of_getElem? (i := 176) rfl)) rfl
set_option maxRecDepth 20000 in
theorem wd_310 : Cond.fieldLink RX5 31 "CarrierNetModel" "offset" "[I" ∈ wsG := wG (tb3 (List.mem_of_getElem? (i := 177) rfl)) rfl
set_option maxRecDepth 20000 in
theorem wd_311 : Cond.arrayClass .boolean ∈ wsG := wG (tb4 (List.mem_of_getElem? (i := 40) rfl)) rfl
set_option maxRecDepth 20000 in
theorem wd_312 : Cond.fieldLink RX5 34 "CarrierNetModel" "isSnow" "[Z" ∈ wsG := wG (tb3 (List.mem_of_getElem? (i := 178) rfl)) rfl
set_option maxRecDepth 20000 in
theorem wd_313 : Cond.constant RX5 38 921600 ∈ wsG := wG (tb3 (List.mem_of_getElem? (i := 163) rfl)) rfl
set_option maxRecDepth 20000 in
theorem wd_314 : Cond.fieldLink RX5 39 "CarrierNetModel" "kept" "[I" ∈ wsG := wG (tb3 (List.mem_of_getElem? (i := 179) rfl)) rfl
set_option maxRecDepth 20000 in
theorem wd_315 : Cond.constant RX5 42 76800 ∈ wsG := wG (tb3 (List.mem_of_getElem? (i := 164) rfl)) rfl
set_option maxRecDepth 20000 in
theorem wd_316 : Cond.fieldLink RX5 43 "CarrierNetModel" "keptOf" "[I" ∈ wsG := wG (tb3 (List.mem_of_getElem? (i := 180) rfl)) rfl
set_option maxRecDepth 20000 in
theorem wd_317 : Cond.fieldLink RX5 46 "CarrierNetModel" "soonest" "[I" ∈ wsG := wG (tb3 (List.mem_of_getElem? (i := 181) rfl)) rfl
set_option maxRecDepth 20000 in
theorem wd_318 : Cond.fieldLink RX5 49 "CarrierNetModel" "version" "I" ∈ wsG := wG (tb3 (List.mem_of_getElem? (i := 182) rfl)) rfl
set_option maxRecDepth 20000 in
theorem wd_319 : Cond.fieldLink RX5 53 "CarrierNetModel" "goesTo" "[I" ∈ wsG := wG (tb3 (List.mem_of_getElem? (i := 183) rfl)) rfl
set_option maxRecDepth 20000 in
theorem wd_320 : Cond.fieldLink RX5 56 "CarrierNetModel" "size" "[I" ∈ wsG := wG (tb3 (List.mem_of_getElem? (i := 184) rfl)) rfl
set_option maxRecDepth 20000 in
theorem wd_321 : Cond.fieldLink RX5 59 "CarrierNetModel" "atPlace" "[I" ∈ wsG := wG (tb3 (List.mem_of_getElem? (i := 185) rfl)) rfl
set_option maxRecDepth 20000 in
theorem wd_322 : Cond.fieldLink RX5 62 "CarrierNetModel" "onCart" "[I" ∈ wsG := wG (tb3 (List.mem_of_getElem? (i := 186) rfl)) rfl
set_option maxRecDepth 20000 in
theorem wd_323 : Cond.fieldLink RX5 65 "CarrierNetModel" "onDay" "[I" ∈ wsG := wG (tb3 (List.mem_of_getElem? (i := 187) rfl)) rfl
set_option maxRecDepth 20000 in
theorem wd_324 : Cond.fieldLink RX5 68 "CarrierNetModel" "leavesAt" "[I" ∈ wsG := wG (tb3 (List.mem_of_getElem? (i := 188) rfl)) rfl
set_option maxRecDepth 20000 in
theorem wd_325 : Cond.fieldLink RX5 71 "CarrierNetModel" "leavesPlace" "[I" ∈ wsG := wG (tb3 (List.mem_of_getElem? (i := 189) rfl)) rfl
set_option maxRecDepth 20000 in
theorem wd_326 : Cond.fieldLink RX5 74 "CarrierNetModel" "cameAt" "[I" ∈ wsG := wG (tb3 (List.mem_of_getElem? (i := 190) rfl)) rfl
set_option maxRecDepth 20000 in
theorem wd_327 : Cond.fieldLink RX5 77 "CarrierNetModel" "rides" "[I" ∈ wsG := wG (tb3 (List.mem_of_getElem? (i := 191) rfl)) rfl
set_option maxRecDepth 20000 in
theorem wd_328 : Cond.fieldLink RX5 80 "CarrierNetModel" "walk" "[I" ∈ wsG := wG (tb3 (List.mem_of_getElem? (i := 192) rfl)) rfl
set_option maxRecDepth 20000 in
theorem wd_329 : Cond.fieldLink RX5 83 "CarrierNetModel" "minutes" "[I" ∈ wsG := wG (tb3 (List.mem_of_getElem? (i := 193) rfl)) rfl
set_option maxRecDepth 20000 in
theorem wd_330 : Cond.fieldLink RX5 86 "CarrierNetModel" "worth" "[I" ∈ wsG := wG (tb3 (List.mem_of_getElem? (i := 194) rfl)) rfl
set_option maxRecDepth 20000 in
theorem wd_331 : Cond.fieldLink RX5 89 "CarrierNetModel" "row" "[I" ∈ wsG := wG (tb3 (List.mem_of_getElem? (i := 195) rfl)) rfl
set_option maxRecDepth 20000 in
theorem wd_332 : Cond.fieldLink RX5 92 "CarrierNetModel" "best" "[I" ∈ wsG := wG (tb3 (List.mem_of_getElem? (i := 196) rfl)) rfl
set_option maxRecDepth 20000 in
theorem wd_333 : Cond.fieldLink RX5 95 "CarrierNetModel" "isListed" "[Z" ∈ wsG := wG (tb3 (List.mem_of_getElem? (i := 197) rfl)) rfl
set_option maxRecDepth 20000 in
theorem wd_334 : Cond.fieldLink RX5 98 "CarrierNetModel" "been" "[Z" ∈ wsG := wG (tb3 (List.mem_of_getElem? (i := 198) rfl)) rfl
set_option maxRecDepth 20000 in
theorem wd_335 : Cond.fieldLink RX5 104 "CarrierNetModel" "carts" "I" ∈ wsG := wG (tb3 (List.mem_of_getElem? (i := 167) rfl)) rfl
set_option maxRecDepth 20000 in
theorem wd_336 : Cond.fieldLink RX5 107 "CarrierNetModel" "parcels" "I" ∈ wsG := wG (tb3 (List.mem_of_getElem? (i := 169) rfl)) rfl
set_option maxRecDepth 20000 in
theorem wd_337 : Cond.fieldLink RX5 101 "CarrierNetModel" "thrown" "I" ∈ wsG := wG (tb3 (List.mem_of_getElem? (i := 165) rfl)) rfl
set_option maxRecDepth 20000 in
theorem wd_338 : Cond.methodLink RX5 110 yX5_isIn ∈ wsG := wG (tb4 (List.mem_of_getElem? (i := 45) rfl)) rfl
set_option maxRecDepth 20000 in
theorem wd_339 : Cond.static yX5_isIn ∈ wsG := wG (tb4 (List.mem_of_getElem? (i := 46) rfl)) rfl
set_option maxRecDepth 20000 in
theorem wd_340 : Cond.initialized RX5 ∈ wsG := wG (tb1 (List.mem_of_getElem? (i := 6) rfl)) rfl
set_option maxRecDepth 20000 in
theorem wd_341 : Cond.methodLink RX5 114 yX5_isPlace ∈ wsG := wG (tb4 (List.mem_of_getElem? (i := 48) rfl)) rfl
set_option maxRecDepth 20000 in
theorem wd_342 : Cond.static yX5_isPlace ∈ wsG := wG (tb4 (List.mem_of_getElem? (i := 49) rfl)) rfl
set_option maxRecDepth 20000 in
theorem wd_343 : Cond.methodLink RX5 118 yX5_forget ∈ wsG := wG (tb4 (List.mem_of_getElem? (i := 51) rfl)) rfl
set_option maxRecDepth 20000 in
theorem wd_344 : Cond.instanceMethod yX5_forget ∈ wsG := wG (tb4 (List.mem_of_getElem? (i := 53) rfl)) rfl
set_option maxRecDepth 20000 in
theorem wd_345 : Cond.selects RX5 yX5_forget yX5_forget ∈ wsG := wG (tb0 (List.mem_of_getElem? (i := 8) rfl)) rfl
set_option maxRecDepth 20000 in
theorem wd_346 : Cond.methodLink RX5 121 yX5_isCart ∈ wsG := wG (tb4 (List.mem_of_getElem? (i := 59) rfl)) rfl
set_option maxRecDepth 20000 in
theorem wd_347 : Cond.instanceMethod yX5_isCart ∈ wsG := wG (tb4 (List.mem_of_getElem? (i := 61) rfl)) rfl
set_option maxRecDepth 20000 in
theorem wd_348 : Cond.selects RX5 yX5_isCart yX5_isCart ∈ wsG := wG (tb0 (List.mem_of_getElem? (i := 9) rfl)) rfl
set_option maxRecDepth 20000 in
theorem wd_349 : Cond.methodLink RX5 124 yX5_isBusy ∈ wsG := wG (tb4 (List.mem_of_getElem? (i := 63) rfl)) rfl
set_option maxRecDepth 20000 in
theorem wd_350 : Cond.instanceMethod yX5_isBusy ∈ wsG := wG (tb4 (List.mem_of_getElem? (i := 65) rfl)) rfl
set_option maxRecDepth 20000 in
theorem wd_351 : Cond.selects RX5 yX5_isBusy yX5_isBusy ∈ wsG := wG (tb0 (List.mem_of_getElem? (i := 10) rfl)) rfl
set_option maxRecDepth 20000 in
theorem wd_352 : Cond.fieldLink RX5 127 "CarrierNetModel" "now" "I" ∈ wsG := wG (tb3 (List.mem_of_getElem? (i := 166) rfl)) rfl
set_option maxRecDepth 20000 in
theorem wd_353 : Cond.fieldLink RX5 130 "CarrierNetModel" "snows" "I" ∈ wsG := wG (tb3 (List.mem_of_getElem? (i := 168) rfl)) rfl
set_option maxRecDepth 20000 in
theorem wd_354 : Cond.methodLink RX5 133 yX5_isRun ∈ wsG := wG (tb4 (List.mem_of_getElem? (i := 79) rfl)) rfl
set_option maxRecDepth 20000 in
theorem wd_355 : Cond.instanceMethod yX5_isRun ∈ wsG := wG (tb4 (List.mem_of_getElem? (i := 81) rfl)) rfl
set_option maxRecDepth 20000 in
theorem wd_356 : Cond.selects RX5 yX5_isRun yX5_isRun ∈ wsG := wG (tb0 (List.mem_of_getElem? (i := 11) rfl)) rfl
set_option maxRecDepth 20000 in
theorem wd_357 : Cond.constant RX5 137 1000000 ∈ wsG := wG (tb4 (List.mem_of_getElem? (i := 98) rfl)) rfl
set_option maxRecDepth 20000 in
theorem wd_358 : Cond.methodLink RX5 138 Lib.Math.max.name ∈ wsG := wG (tb4 (List.mem_of_getElem? (i := 99) rfl)) rfl
set_option maxRecDepth 20000 in
theorem wd_359 : Cond.methodLink RX5 144 yX5_hourOf ∈ wsG := wG (tb4 (List.mem_of_getElem? (i := 100) rfl)) rfl
set_option maxRecDepth 20000 in
theorem wd_360 : Cond.instanceMethod yX5_hourOf ∈ wsG := wG (tb4 (List.mem_of_getElem? (i := 102) rfl)) rfl
set_option maxRecDepth 20000 in
theorem wd_361 : Cond.selects RX5 yX5_hourOf yX5_hourOf ∈ wsG := wG (tb0 (List.mem_of_getElem? (i := 14) rfl)) rfl
set_option maxRecDepth 20000 in
theorem wd_362 : Cond.methodLink RX5 148 yX5_find ∈ wsG := wG (tb4 (List.mem_of_getElem? (i := 94) rfl)) rfl
set_option maxRecDepth 20000 in
theorem wd_363 : Cond.instanceMethod yX5_find ∈ wsG := wG (tb4 (List.mem_of_getElem? (i := 96) rfl)) rfl
set_option maxRecDepth 20000 in
theorem wd_364 : Cond.selects RX5 yX5_find yX5_find ∈ wsG := wG (tb0 (List.mem_of_getElem? (i := 13) rfl)) rfl
set_option maxRecDepth 20000 in
theorem wd_365 : Cond.methodLink RX5 152 yX5_isHour ∈ wsG := wG (tb4 (List.mem_of_getElem? (i := 87) rfl)) rfl
set_option maxRecDepth 20000 in
theorem wd_366 : Cond.static yX5_isHour ∈ wsG := wG (tb4 (List.mem_of_getElem? (i := 88) rfl)) rfl
set_option maxRecDepth 20000 in
theorem wd_367 : Cond.methodLink RX5 155 yX5_soonOf ∈ wsG := wG (tb4 (List.mem_of_getElem? (i := 90) rfl)) rfl
set_option maxRecDepth 20000 in
theorem wd_368 : Cond.instanceMethod yX5_soonOf ∈ wsG := wG (tb4 (List.mem_of_getElem? (i := 92) rfl)) rfl
set_option maxRecDepth 20000 in
theorem wd_369 : Cond.selects RX5 yX5_soonOf yX5_soonOf ∈ wsG := wG (tb0 (List.mem_of_getElem? (i := 12) rfl)) rfl
set_option maxRecDepth 20000 in
theorem wd_370 : Cond.methodLink RX5 158 yX5_roomLeft ∈ wsG := wG (tb4 (List.mem_of_getElem? (i := 128) rfl)) rfl
set_option maxRecDepth 20000 in
theorem wd_371 : Cond.instanceMethod yX5_roomLeft ∈ wsG := wG (tb4 (List.mem_of_getElem? (i := 130) rfl)) rfl
set_option maxRecDepth 20000 in
theorem wd_372 : Cond.selects RX5 yX5_roomLeft yX5_roomLeft ∈ wsG := wG (tb0 (List.mem_of_getElem? (i := 17) rfl)) rfl
set_option maxRecDepth 20000 in
theorem wd_373 : Cond.methodLink RX5 161 yX5_seeks ∈ wsG := wG (tb4 (List.mem_of_getElem? (i := 124) rfl)) rfl
set_option maxRecDepth 20000 in
theorem wd_374 : Cond.instanceMethod yX5_seeks ∈ wsG := wG (tb4 (List.mem_of_getElem? (i := 126) rfl)) rfl
set_option maxRecDepth 20000 in
theorem wd_375 : Cond.selects RX5 yX5_seeks yX5_seeks ∈ wsG := wG (tb0 (List.mem_of_getElem? (i := 16) rfl)) rfl
set_option maxRecDepth 20000 in
theorem wd_376 : Cond.methodLink RX5 165 yX5_goesBy ∈ wsG := wG (tb4 (List.mem_of_getElem? (i := 120) rfl)) rfl
set_option maxRecDepth 20000 in
theorem wd_377 : Cond.instanceMethod yX5_goesBy ∈ wsG := wG (tb4 (List.mem_of_getElem? (i := 122) rfl)) rfl
set_option maxRecDepth 20000 in
theorem wd_378 : Cond.selects RX5 yX5_goesBy yX5_goesBy ∈ wsG := wG (tb0 (List.mem_of_getElem? (i := 15) rfl)) rfl
set_option maxRecDepth 20000 in
theorem wd_379 : Cond.fieldLink RX5 168 "CarrierNetModel" "within" "I" ∈ wsG := wG (tb3 (List.mem_of_getElem? (i := 202) rfl)) rfl
set_option maxRecDepth 20000 in
theorem wd_380 : Cond.fieldLink RX5 171 "CarrierNetModel" "bestMany" "I" ∈ wsG := wG (tb3 (List.mem_of_getElem? (i := 199) rfl)) rfl
set_option maxRecDepth 20000 in
theorem wd_381 : Cond.fieldLink RX5 174 "CarrierNetModel" "bestWorth" "I" ∈ wsG := wG (tb3 (List.mem_of_getElem? (i := 200) rfl)) rfl
set_option maxRecDepth 20000 in
theorem wd_382 : Cond.fieldLink RX5 177 "CarrierNetModel" "bestMinutes" "I" ∈ wsG := wG (tb3 (List.mem_of_getElem? (i := 201) rfl)) rfl
set_option maxRecDepth 20000 in
theorem wd_383 : Cond.methodLink RX5 180 yX5_goes ∈ wsG := wG (tb4 (List.mem_of_getElem? (i := 168) rfl)) rfl
set_option maxRecDepth 20000 in
theorem wd_384 : Cond.instanceMethod yX5_goes ∈ wsG := wG (tb4 (List.mem_of_getElem? (i := 170) rfl)) rfl
set_option maxRecDepth 20000 in
theorem wd_385 : Cond.selects RX5 yX5_goes yX5_goes ∈ wsG := wG (tb0 (List.mem_of_getElem? (i := 19) rfl)) rfl
set_option maxRecDepth 20000 in
theorem wd_386 : Cond.methodLink RX5 184 yX5_finds ∈ wsG := wG (tb4 (List.mem_of_getElem? (i := 164) rfl)) rfl
set_option maxRecDepth 20000 in
theorem wd_387 : Cond.instanceMethod yX5_finds ∈ wsG := wG (tb4 (List.mem_of_getElem? (i := 166) rfl)) rfl
set_option maxRecDepth 20000 in
theorem wd_388 : Cond.selects RX5 yX5_finds yX5_finds ∈ wsG := wG (tb0 (List.mem_of_getElem? (i := 18) rfl)) rfl
set_option maxRecDepth 20000 in
theorem wd_389 : Cond.classLink RL 13 "java/util/NoSuchElementException" ∈ wsG := wG (tb3 (List.mem_of_getElem? (i := 85) rfl)) rfl
set_option maxRecDepth 20000 in
theorem wd_390 : Cond.methodLink RL 7 yX4_told ∈ wsG := wG (tb3 (List.mem_of_getElem? (i := 86) rfl)) rfl
set_option maxRecDepth 20000 in
theorem wd_391 : Cond.instanceMethod yX4_told ∈ wsG := wG (tb3 (List.mem_of_getElem? (i := 87) rfl)) rfl
set_option maxRecDepth 20000 in
theorem wd_392 : Cond.selects RX4 yX4_told yX4_told ∈ wsG := wG (tb3 (List.mem_of_getElem? (i := 88) rfl)) rfl
set_option maxRecDepth 20000 in
theorem wd_393 : Cond.classLink RL 8 RX4 ∈ wsG := wG (tb1 (List.mem_of_getElem? (i := 14) rfl)) rfl
set_option maxRecDepth 20000 in
theorem wd_394 : Cond.instantiable RX4 6 ∈ wsG := wG (tb1 (List.mem_of_getElem? (i := 15) rfl)) rfl
set_option maxRecDepth 20000 in
theorem wd_395 : Cond.classLink RL 16 RX5 ∈ wsG := wG (tb3 (List.mem_of_getElem? (i := 157) rfl)) rfl
set_option maxRecDepth 20000 in
theorem wd_396 : Cond.instantiable RX5 38 ∈ wsG := wG (tb3 (List.mem_of_getElem? (i := 158) rfl)) rfl
set_option maxRecDepth 20000 in
theorem wd_397 : Cond.arrayClass .long ∈ wsG := wG (tb4 (List.mem_of_getElem? (i := 180) rfl)) rfl
set_option maxRecDepth 20000 in
theorem wd_398 : Cond.methodLink RL 15 yX4_init ∈ wsG := wG (tb1 (List.mem_of_getElem? (i := 16) rfl)) rfl
set_option maxRecDepth 20000 in
theorem wd_399 : Cond.instanceMethod yX4_init ∈ wsG := wG (tb1 (List.mem_of_getElem? (i := 17) rfl)) rfl
set_option maxRecDepth 20000 in
theorem wd_400 : Cond.methodLink RL 18 yX5_init ∈ wsG := wG (tb3 (List.mem_of_getElem? (i := 159) rfl)) rfl
set_option maxRecDepth 20000 in
theorem wd_401 : Cond.instanceMethod yX5_init ∈ wsG := wG (tb3 (List.mem_of_getElem? (i := 160) rfl)) rfl
set_option maxRecDepth 20000 in
theorem wd_402 : Cond.methodLink RL 19 yX4_cart ∈ wsG := wG (tb1 (List.mem_of_getElem? (i := 231) rfl)) rfl
set_option maxRecDepth 20000 in
theorem wd_403 : Cond.instanceMethod yX4_cart ∈ wsG := wG (tb1 (List.mem_of_getElem? (i := 232) rfl)) rfl
set_option maxRecDepth 20000 in
theorem wd_404 : Cond.selects RX4 yX4_cart yX4_cart ∈ wsG := wG (tb1 (List.mem_of_getElem? (i := 233) rfl)) rfl
set_option maxRecDepth 20000 in
theorem wd_405 : Cond.methodLink RL 23 yX5_cart ∈ wsG := wG (tb4 (List.mem_of_getElem? (i := 41) rfl)) rfl
set_option maxRecDepth 20000 in
theorem wd_406 : Cond.instanceMethod yX5_cart ∈ wsG := wG (tb4 (List.mem_of_getElem? (i := 42) rfl)) rfl
set_option maxRecDepth 20000 in
theorem wd_407 : Cond.selects RX5 yX5_cart yX5_cart ∈ wsG := wG (tb4 (List.mem_of_getElem? (i := 43) rfl)) rfl
set_option maxRecDepth 20000 in
theorem wd_408 : Cond.methodLink RL 24 yX4_stop ∈ wsG := wG (tb2 (List.mem_of_getElem? (i := 24) rfl)) rfl
set_option maxRecDepth 20000 in
theorem wd_409 : Cond.instanceMethod yX4_stop ∈ wsG := wG (tb2 (List.mem_of_getElem? (i := 25) rfl)) rfl
set_option maxRecDepth 20000 in
theorem wd_410 : Cond.selects RX4 yX4_stop yX4_stop ∈ wsG := wG (tb2 (List.mem_of_getElem? (i := 26) rfl)) rfl
set_option maxRecDepth 20000 in
theorem wd_411 : Cond.methodLink RL 28 yX5_stop ∈ wsG := wG (tb4 (List.mem_of_getElem? (i := 55) rfl)) rfl
set_option maxRecDepth 20000 in
theorem wd_412 : Cond.instanceMethod yX5_stop ∈ wsG := wG (tb4 (List.mem_of_getElem? (i := 56) rfl)) rfl
set_option maxRecDepth 20000 in
theorem wd_413 : Cond.selects RX5 yX5_stop yX5_stop ∈ wsG := wG (tb4 (List.mem_of_getElem? (i := 57) rfl)) rfl
set_option maxRecDepth 20000 in
theorem wd_414 : Cond.methodLink RL 29 yX4_change ∈ wsG := wG (tb2 (List.mem_of_getElem? (i := 40) rfl)) rfl
set_option maxRecDepth 20000 in
theorem wd_415 : Cond.instanceMethod yX4_change ∈ wsG := wG (tb2 (List.mem_of_getElem? (i := 41) rfl)) rfl
set_option maxRecDepth 20000 in
theorem wd_416 : Cond.selects RX4 yX4_change yX4_change ∈ wsG := wG (tb2 (List.mem_of_getElem? (i := 42) rfl)) rfl
set_option maxRecDepth 20000 in
theorem wd_417 : Cond.methodLink RL 33 yX5_change ∈ wsG := wG (tb4 (List.mem_of_getElem? (i := 67) rfl)) rfl
set_option maxRecDepth 20000 in
theorem wd_418 : Cond.instanceMethod yX5_change ∈ wsG := wG (tb4 (List.mem_of_getElem? (i := 68) rfl)) rfl
set_option maxRecDepth 20000 in
theorem wd_419 : Cond.selects RX5 yX5_change yX5_change ∈ wsG := wG (tb4 (List.mem_of_getElem? (i := 69) rfl)) rfl
set_option maxRecDepth 20000 in
theorem wd_420 : Cond.methodLink RL 34 yX4_snow ∈ wsG := wG (tb2 (List.mem_of_getElem? (i := 45) rfl)) rfl
set_option maxRecDepth 20000 in
theorem wd_421 : Cond.instanceMethod yX4_snow ∈ wsG := wG (tb2 (List.mem_of_getElem? (i := 46) rfl)) rfl
set_option maxRecDepth 20000 in
theorem wd_422 : Cond.selects RX4 yX4_snow yX4_snow ∈ wsG := wG (tb2 (List.mem_of_getElem? (i := 47) rfl)) rfl
set_option maxRecDepth 20000 in
theorem wd_423 : Cond.methodLink RL 38 yX5_snow ∈ wsG := wG (tb4 (List.mem_of_getElem? (i := 71) rfl)) rfl
set_option maxRecDepth 20000 in
theorem wd_424 : Cond.instanceMethod yX5_snow ∈ wsG := wG (tb4 (List.mem_of_getElem? (i := 72) rfl)) rfl
set_option maxRecDepth 20000 in
theorem wd_425 : Cond.selects RX5 yX5_snow yX5_snow ∈ wsG := wG (tb4 (List.mem_of_getElem? (i := 73) rfl)) rfl
set_option maxRecDepth 20000 in
theorem wd_426 : Cond.methodLink RL 39 yX4_runs ∈ wsG := wG (tb2 (List.mem_of_getElem? (i := 58) rfl)) rfl
set_option maxRecDepth 20000 in
theorem wd_427 : Cond.instanceMethod yX4_runs ∈ wsG := wG (tb2 (List.mem_of_getElem? (i := 59) rfl)) rfl
set_option maxRecDepth 20000 in
theorem wd_428 : Cond.selects RX4 yX4_runs yX4_runs ∈ wsG := wG (tb2 (List.mem_of_getElem? (i := 60) rfl)) rfl
set_option maxRecDepth 20000 in
theorem wd_429 : Cond.methodLink RL 42 yX5_runs ∈ wsG := wG (tb4 (List.mem_of_getElem? (i := 75) rfl)) rfl
set_option maxRecDepth 20000 in
theorem wd_430 : Cond.instanceMethod yX5_runs ∈ wsG := wG (tb4 (List.mem_of_getElem? (i := 76) rfl)) rfl
set_option maxRecDepth 20000 in
theorem wd_431 : Cond.selects RX5 yX5_runs yX5_runs ∈ wsG := wG (tb4 (List.mem_of_getElem? (i := 77) rfl)) rfl
set_option maxRecDepth 20000 in
theorem wd_432 : Cond.methodLink RL 43 yX4_soon ∈ wsG := wG (tb2 (List.mem_of_getElem? (i := 78) rfl)) rfl
set_option maxRecDepth 20000 in
theorem wd_433 : Cond.instanceMethod yX4_soon ∈ wsG := wG (tb2 (List.mem_of_getElem? (i := 79) rfl)) rfl
set_option maxRecDepth 20000 in
theorem wd_434 : Cond.selects RX4 yX4_soon yX4_soon ∈ wsG := wG (tb2 (List.mem_of_getElem? (i := 80) rfl)) rfl
set_option maxRecDepth 20000 in
theorem wd_435 : Cond.methodLink RL 46 yX5_soon ∈ wsG := wG (tb4 (List.mem_of_getElem? (i := 83) rfl)) rfl
set_option maxRecDepth 20000 in
theorem wd_436 : Cond.instanceMethod yX5_soon ∈ wsG := wG (tb4 (List.mem_of_getElem? (i := 84) rfl)) rfl
set_option maxRecDepth 20000 in
theorem wd_437 : Cond.selects RX5 yX5_soon yX5_soon ∈ wsG := wG (tb4 (List.mem_of_getElem? (i := 85) rfl)) rfl
set_option maxRecDepth 20000 in
theorem wd_438 : Cond.methodLink RL 47 yX4_reach ∈ wsG := wG (tb2 (List.mem_of_getElem? (i := 118) rfl)) rfl
set_option maxRecDepth 20000 in
theorem wd_439 : Cond.instanceMethod yX4_reach ∈ wsG := wG (tb2 (List.mem_of_getElem? (i := 119) rfl)) rfl
set_option maxRecDepth 20000 in
theorem wd_440 : Cond.selects RX4 yX4_reach yX4_reach ∈ wsG := wG (tb2 (List.mem_of_getElem? (i := 120) rfl)) rfl
set_option maxRecDepth 20000 in
theorem wd_441 : Cond.methodLink RL 50 yX5_reach ∈ wsG := wG (tb4 (List.mem_of_getElem? (i := 104) rfl)) rfl
set_option maxRecDepth 20000 in
theorem wd_442 : Cond.instanceMethod yX5_reach ∈ wsG := wG (tb4 (List.mem_of_getElem? (i := 105) rfl)) rfl
set_option maxRecDepth 20000 in
theorem wd_443 : Cond.selects RX5 yX5_reach yX5_reach ∈ wsG := wG (tb4 (List.mem_of_getElem? (i := 106) rfl)) rfl
set_option maxRecDepth 20000 in
theorem wd_444 : Cond.methodLink RL 51 yX4_cut ∈ wsG := wG (tb2 (List.mem_of_getElem? (i := 122) rfl)) rfl
set_option maxRecDepth 20000 in
theorem wd_445 : Cond.instanceMethod yX4_cut ∈ wsG := wG (tb2 (List.mem_of_getElem? (i := 123) rfl)) rfl
set_option maxRecDepth 20000 in
theorem wd_446 : Cond.selects RX4 yX4_cut yX4_cut ∈ wsG := wG (tb2 (List.mem_of_getElem? (i := 124) rfl)) rfl
set_option maxRecDepth 20000 in
theorem wd_447 : Cond.methodLink RL 54 yX5_cut ∈ wsG := wG (tb4 (List.mem_of_getElem? (i := 108) rfl)) rfl
set_option maxRecDepth 20000 in
theorem wd_448 : Cond.instanceMethod yX5_cut ∈ wsG := wG (tb4 (List.mem_of_getElem? (i := 109) rfl)) rfl
set_option maxRecDepth 20000 in
theorem wd_449 : Cond.selects RX5 yX5_cut yX5_cut ∈ wsG := wG (tb4 (List.mem_of_getElem? (i := 110) rfl)) rfl
set_option maxRecDepth 20000 in
theorem wd_450 : Cond.methodLink RL 55 yX4_parcel ∈ wsG := wG (tb2 (List.mem_of_getElem? (i := 145) rfl)) rfl
set_option maxRecDepth 20000 in
theorem wd_451 : Cond.instanceMethod yX4_parcel ∈ wsG := wG (tb2 (List.mem_of_getElem? (i := 146) rfl)) rfl
set_option maxRecDepth 20000 in
theorem wd_452 : Cond.selects RX4 yX4_parcel yX4_parcel ∈ wsG := wG (tb2 (List.mem_of_getElem? (i := 147) rfl)) rfl
set_option maxRecDepth 20000 in
theorem wd_453 : Cond.methodLink RL 58 yX5_parcel ∈ wsG := wG (tb4 (List.mem_of_getElem? (i := 112) rfl)) rfl
set_option maxRecDepth 20000 in
theorem wd_454 : Cond.instanceMethod yX5_parcel ∈ wsG := wG (tb4 (List.mem_of_getElem? (i := 113) rfl)) rfl
set_option maxRecDepth 20000 in
theorem wd_455 : Cond.selects RX5 yX5_parcel yX5_parcel ∈ wsG := wG (tb4 (List.mem_of_getElem? (i := 114) rfl)) rfl
set_option maxRecDepth 20000 in
theorem wd_456 : Cond.methodLink RL 59 yX4_tick ∈ wsG := wG (tb2 (List.mem_of_getElem? (i := 153) rfl)) rfl
set_option maxRecDepth 20000 in
theorem wd_457 : Cond.instanceMethod yX4_tick ∈ wsG := wG (tb2 (List.mem_of_getElem? (i := 154) rfl)) rfl
set_option maxRecDepth 20000 in
theorem wd_458 : Cond.selects RX4 yX4_tick yX4_tick ∈ wsG := wG (tb2 (List.mem_of_getElem? (i := 155) rfl)) rfl
set_option maxRecDepth 20000 in
theorem wd_459 : Cond.methodLink RL 63 yX5_tick ∈ wsG := wG (tb4 (List.mem_of_getElem? (i := 116) rfl)) rfl
set_option maxRecDepth 20000 in
theorem wd_460 : Cond.instanceMethod yX5_tick ∈ wsG := wG (tb4 (List.mem_of_getElem? (i := 117) rfl)) rfl
set_option maxRecDepth 20000 in
theorem wd_461 : Cond.selects RX5 yX5_tick yX5_tick ∈ wsG := wG (tb4 (List.mem_of_getElem? (i := 118) rfl)) rfl
set_option maxRecDepth 20000 in
theorem wd_462 : Cond.methodLink RL 64 yL_told ∈ wsG := wG (tb3 (List.mem_of_getElem? (i := 82) rfl)) rfl
set_option maxRecDepth 20000 in
theorem wd_463 : Cond.static yL_told ∈ wsG := wG (tb3 (List.mem_of_getElem? (i := 83) rfl)) rfl
set_option maxRecDepth 20000 in
theorem wd_464 : Cond.initialized RL ∈ wsG := wG (tb1 (List.mem_of_getElem? (i := 0) rfl)) rfl
set_option maxRecDepth 20000 in
theorem wd_465 : Cond.methodLink RL 69 yX5_told ∈ wsG := wG (tb4 (List.mem_of_getElem? (i := 132) rfl)) rfl
set_option maxRecDepth 20000 in
theorem wd_466 : Cond.instanceMethod yX5_told ∈ wsG := wG (tb4 (List.mem_of_getElem? (i := 133) rfl)) rfl
set_option maxRecDepth 20000 in
theorem wd_467 : Cond.selects RX5 yX5_told yX5_told ∈ wsG := wG (tb4 (List.mem_of_getElem? (i := 134) rfl)) rfl
set_option maxRecDepth 20000 in
theorem wd_468 : Cond.methodLink RL 70 yX4_waiting ∈ wsG := wG (tb2 (List.mem_of_getElem? (i := 213) rfl)) rfl
set_option maxRecDepth 20000 in
theorem wd_469 : Cond.instanceMethod yX4_waiting ∈ wsG := wG (tb2 (List.mem_of_getElem? (i := 214) rfl)) rfl
set_option maxRecDepth 20000 in
theorem wd_470 : Cond.selects RX4 yX4_waiting yX4_waiting ∈ wsG := wG (tb2 (List.mem_of_getElem? (i := 215) rfl)) rfl
set_option maxRecDepth 20000 in
theorem wd_471 : Cond.methodLink RL 73 yX5_waiting ∈ wsG := wG (tb4 (List.mem_of_getElem? (i := 136) rfl)) rfl
set_option maxRecDepth 20000 in
theorem wd_472 : Cond.instanceMethod yX5_waiting ∈ wsG := wG (tb4 (List.mem_of_getElem? (i := 137) rfl)) rfl
set_option maxRecDepth 20000 in
theorem wd_473 : Cond.selects RX5 yX5_waiting yX5_waiting ∈ wsG := wG (tb4 (List.mem_of_getElem? (i := 138) rfl)) rfl
set_option maxRecDepth 20000 in
theorem wd_474 : Cond.methodLink RL 74 yX4_fares ∈ wsG := wG (tb2 (List.mem_of_getElem? (i := 66) rfl)) rfl
set_option maxRecDepth 20000 in
theorem wd_475 : Cond.instanceMethod yX4_fares ∈ wsG := wG (tb2 (List.mem_of_getElem? (i := 67) rfl)) rfl
set_option maxRecDepth 20000 in
theorem wd_476 : Cond.selects RX4 yX4_fares yX4_fares ∈ wsG := wG (tb2 (List.mem_of_getElem? (i := 68) rfl)) rfl
set_option maxRecDepth 20000 in
theorem wd_477 : Cond.methodLink RL 77 yX5_fares ∈ wsG := wG (tb4 (List.mem_of_getElem? (i := 140) rfl)) rfl
set_option maxRecDepth 20000 in
theorem wd_478 : Cond.instanceMethod yX5_fares ∈ wsG := wG (tb4 (List.mem_of_getElem? (i := 141) rfl)) rfl
set_option maxRecDepth 20000 in
theorem wd_479 : Cond.selects RX5 yX5_fares yX5_fares ∈ wsG := wG (tb4 (List.mem_of_getElem? (i := 142) rfl)) rfl
set_option maxRecDepth 20000 in
theorem wd_480 : Cond.methodLink RL 78 yX4_room ∈ wsG := wG (tb2 (List.mem_of_getElem? (i := 70) rfl)) rfl
set_option maxRecDepth 20000 in
theorem wd_481 : Cond.instanceMethod yX4_room ∈ wsG := wG (tb2 (List.mem_of_getElem? (i := 71) rfl)) rfl
set_option maxRecDepth 20000 in
theorem wd_482 : Cond.selects RX4 yX4_room yX4_room ∈ wsG := wG (tb2 (List.mem_of_getElem? (i := 72) rfl)) rfl
set_option maxRecDepth 20000 in
theorem wd_483 : Cond.methodLink RL 81 yX5_room ∈ wsG := wG (tb4 (List.mem_of_getElem? (i := 144) rfl)) rfl
set_option maxRecDepth 20000 in
theorem wd_484 : Cond.instanceMethod yX5_room ∈ wsG := wG (tb4 (List.mem_of_getElem? (i := 145) rfl)) rfl
set_option maxRecDepth 20000 in
theorem wd_485 : Cond.selects RX5 yX5_room yX5_room ∈ wsG := wG (tb4 (List.mem_of_getElem? (i := 146) rfl)) rfl
set_option maxRecDepth 20000 in
theorem wd_486 : Cond.methodLink RL 82 yX4_walk ∈ wsG := wG (tb2 (List.mem_of_getElem? (i := 217) rfl)) rfl
set_option maxRecDepth 20000 in
theorem wd_487 : Cond.instanceMethod yX4_walk ∈ wsG := wG (tb2 (List.mem_of_getElem? (i := 218) rfl)) rfl
set_option maxRecDepth 20000 in
theorem wd_488 : Cond.selects RX4 yX4_walk yX4_walk ∈ wsG := wG (tb2 (List.mem_of_getElem? (i := 219) rfl)) rfl
set_option maxRecDepth 20000 in
theorem wd_489 : Cond.methodLink RL 86 yX5_walk ∈ wsG := wG (tb4 (List.mem_of_getElem? (i := 148) rfl)) rfl
set_option maxRecDepth 20000 in
theorem wd_490 : Cond.instanceMethod yX5_walk ∈ wsG := wG (tb4 (List.mem_of_getElem? (i := 149) rfl)) rfl
set_option maxRecDepth 20000 in
theorem wd_491 : Cond.selects RX5 yX5_walk yX5_walk ∈ wsG := wG (tb4 (List.mem_of_getElem? (i := 150) rfl)) rfl
set_option maxRecDepth 20000 in
theorem wd_492 : Cond.methodLink RL 87 yX4_errand ∈ wsG := wG (tb2 (List.mem_of_getElem? (i := 229) rfl)) rfl
set_option maxRecDepth 20000 in
theorem wd_493 : Cond.instanceMethod yX4_errand ∈ wsG := wG (tb2 (List.mem_of_getElem? (i := 230) rfl)) rfl
set_option maxRecDepth 20000 in
theorem wd_494 : Cond.selects RX4 yX4_errand yX4_errand ∈ wsG := wG (tb2 (List.mem_of_getElem? (i := 231) rfl)) rfl
set_option maxRecDepth 20000 in
theorem wd_495 : Cond.methodLink RL 90 yX5_errand ∈ wsG := wG (tb4 (List.mem_of_getElem? (i := 152) rfl)) rfl
set_option maxRecDepth 20000 in
theorem wd_496 : Cond.instanceMethod yX5_errand ∈ wsG := wG (tb4 (List.mem_of_getElem? (i := 153) rfl)) rfl
set_option maxRecDepth 20000 in
theorem wd_497 : Cond.selects RX5 yX5_errand yX5_errand ∈ wsG := wG (tb4 (List.mem_of_getElem? (i := 154) rfl)) rfl
set_option maxRecDepth 20000 in
theorem wd_498 : Cond.methodLink RL 91 yX4_clear ∈ wsG := wG (tb3 (List.mem_of_getElem? (i := 0) rfl)) rfl
set_option maxRecDepth 20000 in
theorem wd_499 : Cond.instanceMethod yX4_clear ∈ wsG := wG (tb3 (List.mem_of_getElem? (i := 1) rfl)) rfl
set_option maxRecDepth 20000 in
theorem wd_500 : Cond.selects RX4 yX4_clear yX4_clear ∈ wsG := wG (tb3 (List.mem_of_getElem? (i := 2) rfl)) rfl
set_option maxRecDepth 20000 in
theorem wd_501 : Cond.methodLink RL 94 yX5_clear ∈ wsG := wG (tb4 (List.mem_of_getElem? (i := 156) rfl)) rfl
set_option maxRecDepth 20000 in
theorem wd_502 : Cond.instanceMethod yX5_clear ∈ wsG := wG (tb4 (List.mem_of_getElem? (i := 157) rfl)) rfl
set_option maxRecDepth 20000 in
theorem wd_503 : Cond.selects RX5 yX5_clear yX5_clear ∈ wsG := wG (tb4 (List.mem_of_getElem? (i := 158) rfl)) rfl
set_option maxRecDepth 20000 in
theorem wd_504 : Cond.methodLink RL 95 yX4_best ∈ wsG := wG (tb3 (List.mem_of_getElem? (i := 8) rfl)) rfl
set_option maxRecDepth 20000 in
theorem wd_505 : Cond.instanceMethod yX4_best ∈ wsG := wG (tb3 (List.mem_of_getElem? (i := 9) rfl)) rfl
set_option maxRecDepth 20000 in
theorem wd_506 : Cond.selects RX4 yX4_best yX4_best ∈ wsG := wG (tb3 (List.mem_of_getElem? (i := 10) rfl)) rfl
set_option maxRecDepth 20000 in
theorem wd_507 : Cond.methodLink RL 98 yX5_best ∈ wsG := wG (tb4 (List.mem_of_getElem? (i := 160) rfl)) rfl
set_option maxRecDepth 20000 in
theorem wd_508 : Cond.instanceMethod yX5_best ∈ wsG := wG (tb4 (List.mem_of_getElem? (i := 161) rfl)) rfl
set_option maxRecDepth 20000 in
theorem wd_509 : Cond.selects RX5 yX5_best yX5_best ∈ wsG := wG (tb4 (List.mem_of_getElem? (i := 162) rfl)) rfl
set_option maxRecDepth 20000 in
theorem wd_510 : Cond.methodLink RL 99 yX4_round ∈ wsG := wG (tb3 (List.mem_of_getElem? (i := 58) rfl)) rfl
set_option maxRecDepth 20000 in
theorem wd_511 : Cond.instanceMethod yX4_round ∈ wsG := wG (tb3 (List.mem_of_getElem? (i := 59) rfl)) rfl
set_option maxRecDepth 20000 in
theorem wd_512 : Cond.selects RX4 yX4_round yX4_round ∈ wsG := wG (tb3 (List.mem_of_getElem? (i := 60) rfl)) rfl
set_option maxRecDepth 20000 in
theorem wd_513 : Cond.methodLink RL 102 yX5_round ∈ wsG := wG (tb4 (List.mem_of_getElem? (i := 172) rfl)) rfl
set_option maxRecDepth 20000 in
theorem wd_514 : Cond.instanceMethod yX5_round ∈ wsG := wG (tb4 (List.mem_of_getElem? (i := 173) rfl)) rfl
set_option maxRecDepth 20000 in
theorem wd_515 : Cond.selects RX5 yX5_round yX5_round ∈ wsG := wG (tb4 (List.mem_of_getElem? (i := 174) rfl)) rfl
set_option maxRecDepth 20000 in
theorem wd_516 : Cond.methodLink RL 103 yX4_count ∈ wsG := wG (tb3 (List.mem_of_getElem? (i := 66) rfl)) rfl
set_option maxRecDepth 20000 in
theorem wd_517 : Cond.instanceMethod yX4_count ∈ wsG := wG (tb3 (List.mem_of_getElem? (i := 67) rfl)) rfl
set_option maxRecDepth 20000 in
theorem wd_518 : Cond.selects RX4 yX4_count yX4_count ∈ wsG := wG (tb3 (List.mem_of_getElem? (i := 68) rfl)) rfl
set_option maxRecDepth 20000 in
theorem wd_519 : Cond.methodLink RL 106 yX5_count ∈ wsG := wG (tb4 (List.mem_of_getElem? (i := 176) rfl)) rfl
set_option maxRecDepth 20000 in
theorem wd_520 : Cond.instanceMethod yX5_count ∈ wsG := wG (tb4 (List.mem_of_getElem? (i := 177) rfl)) rfl
set_option maxRecDepth 20000 in
theorem wd_521 : Cond.selects RX5 yX5_count yX5_count ∈ wsG := wG (tb4 (List.mem_of_getElem? (i := 178) rfl)) rfl
set_option maxRecDepth 20000 in
theorem wd_522 : Cond.code yX4_isIn cX4_isIn 3 (some .boolean) ∈ wsG := wG (tb2 (List.mem_of_getElem? (i := 0) rfl)) rfl
set_option maxRecDepth 20000 in
theorem wd_523 : Cond.code yX0_hourAt cX0_hourAt 3 (some .int) ∈ wsG := wG (tb2 (List.mem_of_getElem? (i := 203) rfl)) rfl
set_option maxRecDepth 20000 in
theorem wd_524 : Cond.code yX1_forget cX1_forget 1 none ∈ wsG := wG (tb2 (List.mem_of_getElem? (i := 228) rfl)) rfl
set_option maxRecDepth 20000 in
theorem wd_525 : Cond.code yX1_bitOf cX1_bitOf 1 (some .int) ∈ wsG := wG (tb2 (List.mem_of_getElem? (i := 239) rfl)) rfl
set_option maxRecDepth 20000 in
theorem wd_526 : Cond.code yX1_wayFrom cX1_wayFrom 5 (some .int) ∈ wsG := wG (tb3 (List.mem_of_getElem? (i := 23) rfl)) rfl
set_option maxRecDepth 20000 in
theorem wd_527 : Cond.code yX1_wayBy cX1_wayBy 5 (some .int) ∈ wsG := wG (tb3 (List.mem_of_getElem? (i := 28) rfl)) rfl
set_option maxRecDepth 20000 in
theorem wd_528 : Cond.code yX1_measure cX1_measure 3 none ∈ wsG := wG (tb3 (List.mem_of_getElem? (i := 19) rfl)) rfl
set_option maxRecDepth 20000 in
theorem wd_529 : Cond.code yX1_take cX1_take 6 none ∈ wsG := wG (tb3 (List.mem_of_getElem? (i := 35) rfl)) rfl
set_option maxRecDepth 20000 in
theorem wd_530 : Cond.code yX1_weigh cX1_weigh 6 none ∈ wsG := wG (tb3 (List.mem_of_getElem? (i := 39) rfl)) rfl
set_option maxRecDepth 20000 in
theorem wd_531 : Cond.code yX1_worthOf cX1_worthOf 4 (some .int) ∈ wsG := wG (tb3 (List.mem_of_getElem? (i := 43) rfl)) rfl
set_option maxRecDepth 20000 in
theorem wd_532 : Cond.code yX1_orderOf cX1_orderOf 8 (some .long) ∈ wsG := wG (tb3 (List.mem_of_getElem? (i := 47) rfl)) rfl
set_option maxRecDepth 20000 in
theorem wd_533 : Cond.code yX1_nextShop cX1_nextShop 4 (some .int) ∈ wsG := wG (tb3 (List.mem_of_getElem? (i := 51) rfl)) rfl
set_option maxRecDepth 20000 in
theorem wd_534 : Cond.code yX0_init cX0_init 1 none ∈ wsG := wG (tb1 (List.mem_of_getElem? (i := 33) rfl)) rfl
set_option maxRecDepth 20000 in
theorem wd_535 : Cond.code yX3_addHalt cX3_addHalt 7 none ∈ wsG := wG (tb2 (List.mem_of_getElem? (i := 15) rfl)) rfl
set_option maxRecDepth 20000 in
theorem wd_536 : Cond.code yX3_renew cX3_renew 2 none ∈ wsG := wG (tb2 (List.mem_of_getElem? (i := 19) rfl)) rfl
set_option maxRecDepth 20000 in
theorem wd_537 : Cond.code yX3_haltsBegin cX3_haltsBegin 2 (some .int) ∈ wsG := wG (tb2 (List.mem_of_getElem? (i := 100) rfl)) rfl
set_option maxRecDepth 20000 in
theorem wd_538 : Cond.code yX3_haltsEnd cX3_haltsEnd 2 (some .int) ∈ wsG := wG (tb2 (List.mem_of_getElem? (i := 96) rfl)) rfl
set_option maxRecDepth 20000 in
theorem wd_539 : Cond.code yX3_growLinks cX3_growLinks 7 (some .boolean) ∈ wsG := wG (tb2 (List.mem_of_getElem? (i := 23) rfl)) rfl
set_option maxRecDepth 20000 in
theorem wd_540 : Cond.code yJ7_fill_53178 cJ7_fill_53178 4 none ∈ wsG := wG (tb2 (List.mem_of_getElem? (i := 88) rfl)) rfl
set_option maxRecDepth 20000 in
theorem wd_541 : Cond.code yX3_getDown cX3_getDown 8 none ∈ wsG := wG (tb2 (List.mem_of_getElem? (i := 92) rfl)) rfl
set_option maxRecDepth 20000 in
theorem wd_542 : Cond.code yX3_getOn cX3_getOn 8 none ∈ wsG := wG (tb2 (List.mem_of_getElem? (i := 116) rfl)) rfl
set_option maxRecDepth 20000 in
theorem wd_543 : Cond.code yX3_cartOf cX3_cartOf 2 (some .int) ∈ wsG := wG (tb2 (List.mem_of_getElem? (i := 104) rfl)) rfl
set_option maxRecDepth 20000 in
theorem wd_544 : Cond.code yX3_stopOf cX3_stopOf 2 (some .int) ∈ wsG := wG (tb2 (List.mem_of_getElem? (i := 108) rfl)) rfl
set_option maxRecDepth 20000 in
theorem wd_545 : Cond.code yX0_dayOf cX0_dayOf 3 (some .int) ∈ wsG := wG (tb2 (List.mem_of_getElem? (i := 112) rfl)) rfl
set_option maxRecDepth 20000 in
theorem wd_546 : Cond.code yX0_goesOn cX0_goesOn 2 (some .boolean) ∈ wsG := wG (tb2 (List.mem_of_getElem? (i := 65) rfl)) rfl
set_option maxRecDepth 20000 in
theorem wd_547 : Cond.code yX3_findLatest cX3_findLatest 7 none ∈ wsG := wG (tb2 (List.mem_of_getElem? (i := 133) rfl)) rfl
set_option maxRecDepth 20000 in
theorem wd_548 : Cond.code yX3_lookWhereItCameBy cX3_lookWhereItCameBy 10 none ∈ wsG := wG (tb2 (List.mem_of_getElem? (i := 137) rfl)) rfl
set_option maxRecDepth 20000 in
theorem wd_549 : Cond.code yX3_lookWhatComes cX3_lookWhatComes 10 none ∈ wsG := wG (tb2 (List.mem_of_getElem? (i := 144) rfl)) rfl
set_option maxRecDepth 20000 in
theorem wd_550 : Cond.code yX3_init cX3_init 2 none ∈ wsG := wG (tb1 (List.mem_of_getElem? (i := 26) rfl)) rfl
set_option maxRecDepth 20000 in
theorem wd_551 : Cond.code yX1_init cX1_init 3 none ∈ wsG := wG (tb1 (List.mem_of_getElem? (i := 117) rfl)) rfl
set_option maxRecDepth 20000 in
theorem wd_552 : Cond.code yX2_init cX2_init 1 none ∈ wsG := wG (tb1 (List.mem_of_getElem? (i := 162) rfl)) rfl
set_option maxRecDepth 20000 in
theorem wd_553 : Cond.code yX4_areTerms cX4_areTerms 3 (some .boolean) ∈ wsG := wG (tb1 (List.mem_of_getElem? (i := 237) rfl)) rfl
set_option maxRecDepth 20000 in
theorem wd_554 : Cond.code yX4_isPlace cX4_isPlace 1 (some .boolean) ∈ wsG := wG (tb2 (List.mem_of_getElem? (i := 3) rfl)) rfl
set_option maxRecDepth 20000 in
theorem wd_555 : Cond.code yX0_setTerms cX0_setTerms 4 none ∈ wsG := wG (tb2 (List.mem_of_getElem? (i := 7) rfl)) rfl
set_option maxRecDepth 20000 in
theorem wd_556 : Cond.code yX3_addStop cX3_addStop 6 none ∈ wsG := wG (tb2 (List.mem_of_getElem? (i := 11) rfl)) rfl
set_option maxRecDepth 20000 in
theorem wd_557 : Cond.code yX4_isCart cX4_isCart 2 (some .boolean) ∈ wsG := wG (tb2 (List.mem_of_getElem? (i := 31) rfl)) rfl
set_option maxRecDepth 20000 in
theorem wd_558 : Cond.code yX0_lastOffset cX0_lastOffset 1 (some .int) ∈ wsG := wG (tb2 (List.mem_of_getElem? (i := 35) rfl)) rfl
set_option maxRecDepth 20000 in
theorem wd_559 : Cond.code yX0_isLaden cX0_isLaden 2 (some .boolean) ∈ wsG := wG (tb2 (List.mem_of_getElem? (i := 39) rfl)) rfl
set_option maxRecDepth 20000 in
theorem wd_560 : Cond.code yX0_isSnowedIn cX0_isSnowedIn 2 (some .boolean) ∈ wsG := wG (tb2 (List.mem_of_getElem? (i := 52) rfl)) rfl
set_option maxRecDepth 20000 in
theorem wd_561 : Cond.code yX0_addSnow cX0_addSnow 2 none ∈ wsG := wG (tb2 (List.mem_of_getElem? (i := 57) rfl)) rfl
set_option maxRecDepth 20000 in
theorem wd_562 : Cond.code yX0_roomLeft cX0_roomLeft 3 (some .int) ∈ wsG := wG (tb2 (List.mem_of_getElem? (i := 77) rfl)) rfl
set_option maxRecDepth 20000 in
theorem wd_563 : Cond.code yX3_soonest cX3_soonest 6 (some .int) ∈ wsG := wG (tb2 (List.mem_of_getElem? (i := 85) rfl)) rfl
set_option maxRecDepth 20000 in
theorem wd_564 : Cond.code yX3_startsFor cX3_startsFor 6 (some .int) ∈ wsG := wG (tb2 (List.mem_of_getElem? (i := 129) rfl)) rfl
set_option maxRecDepth 20000 in
theorem wd_565 : Cond.code yX2_give cX2_give 4 none ∈ wsG := wG (tb2 (List.mem_of_getElem? (i := 152) rfl)) rfl
set_option maxRecDepth 20000 in
theorem wd_566 : Cond.code yX4_unloadParcels cX4_unloadParcels 3 none ∈ wsG := wG (tb2 (List.mem_of_getElem? (i := 160) rfl)) rfl
set_option maxRecDepth 20000 in
theorem wd_567 : Cond.code yX3_hasHalts cX3_hasHalts 2 (some .boolean) ∈ wsG := wG (tb2 (List.mem_of_getElem? (i := 172) rfl)) rfl
set_option maxRecDepth 20000 in
theorem wd_568 : Cond.code yX4_loadParcels cX4_loadParcels 3 none ∈ wsG := wG (tb2 (List.mem_of_getElem? (i := 176) rfl)) rfl
set_option maxRecDepth 20000 in
theorem wd_569 : Cond.code yX1_setWalk cX1_setWalk 4 none ∈ wsG := wG (tb2 (List.mem_of_getElem? (i := 224) rfl)) rfl
set_option maxRecDepth 20000 in
theorem wd_570 : Cond.code yX1_put cX1_put 4 none ∈ wsG := wG (tb2 (List.mem_of_getElem? (i := 236) rfl)) rfl
set_option maxRecDepth 20000 in
theorem wd_571 : Cond.code yX1_empty cX1_empty 1 none ∈ wsG := wG (tb3 (List.mem_of_getElem? (i := 7) rfl)) rfl
set_option maxRecDepth 20000 in
theorem wd_572 : Cond.code yX1_choose cX1_choose 3 none ∈ wsG := wG (tb3 (List.mem_of_getElem? (i := 15) rfl)) rfl
set_option maxRecDepth 20000 in
theorem wd_573 : Cond.code yJ6_bitCount_0f7a4 cJ6_bitCount_0f7a4 1 (some .int) ∈ wsG := wG (tb3 (List.mem_of_getElem? (i := 54) rfl)) rfl
set_option maxRecDepth 20000 in
theorem wd_574 : Cond.code yX1_chosenShop cX1_chosenShop 3 (some .int) ∈ wsG := wG (tb3 (List.mem_of_getElem? (i := 65) rfl)) rfl
set_option maxRecDepth 20000 in
theorem wd_575 : Cond.code yX4_countCome cX4_countCome 3 (some .int) ∈ wsG := wG (tb3 (List.mem_of_getElem? (i := 73) rfl)) rfl
set_option maxRecDepth 20000 in
theorem wd_576 : Cond.code yX4_countRiding cX4_countRiding 3 (some .int) ∈ wsG := wG (tb3 (List.mem_of_getElem? (i := 77) rfl)) rfl
set_option maxRecDepth 20000 in
theorem wd_577 : Cond.code yX3_earnedInAll cX3_earnedInAll 3 (some .int) ∈ wsG := wG (tb3 (List.mem_of_getElem? (i := 81) rfl)) rfl
set_option maxRecDepth 20000 in
theorem wd_578 : Cond.code yX0_unload cX0_unload 3 none ∈ wsG := wG (tb2 (List.mem_of_getElem? (i := 164) rfl)) rfl
set_option maxRecDepth 20000 in
theorem wd_579 : Cond.code yX2_leave cX2_leave 2 none ∈ wsG := wG (tb2 (List.mem_of_getElem? (i := 168) rfl)) rfl
set_option maxRecDepth 20000 in
theorem wd_580 : Cond.code yX4_seekRide cX4_seekRide 9 none ∈ wsG := wG (tb2 (List.mem_of_getElem? (i := 180) rfl)) rfl
set_option maxRecDepth 20000 in
theorem wd_581 : Cond.code yX0_takesFrom cX0_takesFrom 3 (some .boolean) ∈ wsG := wG (tb2 (List.mem_of_getElem? (i := 189) rfl)) rfl
set_option maxRecDepth 20000 in
theorem wd_582 : Cond.code yX4_renewPlan cX4_renewPlan 5 none ∈ wsG := wG (tb2 (List.mem_of_getElem? (i := 193) rfl)) rfl
set_option maxRecDepth 20000 in
theorem wd_583 : Cond.code yX0_lastInTime cX0_lastInTime 5 (some .int) ∈ wsG := wG (tb2 (List.mem_of_getElem? (i := 199) rfl)) rfl
set_option maxRecDepth 20000 in
theorem wd_584 : Cond.code yX0_load cX0_load 4 none ∈ wsG := wG (tb2 (List.mem_of_getElem? (i := 207) rfl)) rfl
set_option maxRecDepth 20000 in
theorem wd_585 : Cond.code yX2_board cX2_board 5 none ∈ wsG := wG (tb2 (List.mem_of_getElem? (i := 212) rfl)) rfl
set_option maxRecDepth 20000 in
theorem wd_586 : Cond.code yX5_isIn cX5_isIn 3 (some .boolean) ∈ wsG := wG (tb4 (List.mem_of_getElem? (i := 47) rfl)) rfl
set_option maxRecDepth 20000 in
theorem wd_587 : Cond.code yX5_isPlace cX5_isPlace 1 (some .boolean) ∈ wsG := wG (tb4 (List.mem_of_getElem? (i := 50) rfl)) rfl
set_option maxRecDepth 20000 in
theorem wd_588 : Cond.code yX5_forget cX5_forget 1 none ∈ wsG := wG (tb4 (List.mem_of_getElem? (i := 54) rfl)) rfl
set_option maxRecDepth 20000 in
theorem wd_589 : Cond.code yX5_isCart cX5_isCart 2 (some .boolean) ∈ wsG := wG (tb4 (List.mem_of_getElem? (i := 62) rfl)) rfl
set_option maxRecDepth 20000 in
theorem wd_590 : Cond.code yX5_isBusy cX5_isBusy 3 (some .boolean) ∈ wsG := wG (tb4 (List.mem_of_getElem? (i := 66) rfl)) rfl
set_option maxRecDepth 20000 in
theorem wd_591 : Cond.code yX5_isRun cX5_isRun 3 (some .boolean) ∈ wsG := wG (tb4 (List.mem_of_getElem? (i := 82) rfl)) rfl
set_option maxRecDepth 20000 in
theorem wd_592 : Cond.code yX5_hourOf cX5_hourOf 4 (some .int) ∈ wsG := wG (tb4 (List.mem_of_getElem? (i := 103) rfl)) rfl
set_option maxRecDepth 20000 in
theorem wd_593 : Cond.code yX5_find cX5_find 11 none ∈ wsG := wG (tb4 (List.mem_of_getElem? (i := 97) rfl)) rfl
set_option maxRecDepth 20000 in
theorem wd_594 : Cond.code yX5_isHour cX5_isHour 1 (some .boolean) ∈ wsG := wG (tb4 (List.mem_of_getElem? (i := 89) rfl)) rfl
set_option maxRecDepth 20000 in
theorem wd_595 : Cond.code yX5_soonOf cX5_soonOf 6 (some .int) ∈ wsG := wG (tb4 (List.mem_of_getElem? (i := 93) rfl)) rfl
set_option maxRecDepth 20000 in
theorem wd_596 : Cond.code yX5_roomLeft cX5_roomLeft 5 (some .int) ∈ wsG := wG (tb4 (List.mem_of_getElem? (i := 131) rfl)) rfl
set_option maxRecDepth 20000 in
theorem wd_597 : Cond.code yX5_seeks cX5_seeks 7 none ∈ wsG := wG (tb4 (List.mem_of_getElem? (i := 127) rfl)) rfl
set_option maxRecDepth 20000 in
theorem wd_598 : Cond.code yX5_goesBy cX5_goesBy 2 none ∈ wsG := wG (tb4 (List.mem_of_getElem? (i := 123) rfl)) rfl
set_option maxRecDepth 20000 in
theorem wd_599 : Cond.code yX5_goes cX5_goes 8 none ∈ wsG := wG (tb4 (List.mem_of_getElem? (i := 171) rfl)) rfl
set_option maxRecDepth 20000 in
theorem wd_600 : Cond.code yX5_finds cX5_finds 2 (some .boolean) ∈ wsG := wG (tb4 (List.mem_of_getElem? (i := 167) rfl)) rfl
set_option maxRecDepth 20000 in
theorem wd_601 : Cond.code yX4_init cX4_init 2 none ∈ wsG := wG (tb1 (List.mem_of_getElem? (i := 18) rfl)) rfl
set_option maxRecDepth 20000 in
theorem wd_602 : Cond.code yX5_init cX5_init 2 none ∈ wsG := wG (tb3 (List.mem_of_getElem? (i := 161) rfl)) rfl
set_option maxRecDepth 20000 in
theorem wd_603 : Cond.code yX4_cart cX4_cart 8 (some .int) ∈ wsG := wG (tb1 (List.mem_of_getElem? (i := 234) rfl)) rfl
set_option maxRecDepth 20000 in
theorem wd_604 : Cond.code yX5_cart cX5_cart 6 (some .int) ∈ wsG := wG (tb4 (List.mem_of_getElem? (i := 44) rfl)) rfl
set_option maxRecDepth 20000 in
theorem wd_605 : Cond.code yX4_stop cX4_stop 5 (some .int) ∈ wsG := wG (tb2 (List.mem_of_getElem? (i := 27) rfl)) rfl
set_option maxRecDepth 20000 in
theorem wd_606 : Cond.code yX5_stop cX5_stop 4 (some .int) ∈ wsG := wG (tb4 (List.mem_of_getElem? (i := 58) rfl)) rfl
set_option maxRecDepth 20000 in
theorem wd_607 : Cond.code yX4_change cX4_change 6 (some .boolean) ∈ wsG := wG (tb2 (List.mem_of_getElem? (i := 43) rfl)) rfl
set_option maxRecDepth 20000 in
theorem wd_608 : Cond.code yX5_change cX5_change 5 (some .boolean) ∈ wsG := wG (tb4 (List.mem_of_getElem? (i := 70) rfl)) rfl
set_option maxRecDepth 20000 in
theorem wd_609 : Cond.code yX4_snow cX4_snow 4 (some .boolean) ∈ wsG := wG (tb2 (List.mem_of_getElem? (i := 48) rfl)) rfl
set_option maxRecDepth 20000 in
theorem wd_610 : Cond.code yX5_snow cX5_snow 3 (some .boolean) ∈ wsG := wG (tb4 (List.mem_of_getElem? (i := 74) rfl)) rfl
set_option maxRecDepth 20000 in
theorem wd_611 : Cond.code yX4_runs cX4_runs 3 (some .int) ∈ wsG := wG (tb2 (List.mem_of_getElem? (i := 61) rfl)) rfl
set_option maxRecDepth 20000 in
theorem wd_612 : Cond.code yX5_runs cX5_runs 3 (some .int) ∈ wsG := wG (tb4 (List.mem_of_getElem? (i := 78) rfl)) rfl
set_option maxRecDepth 20000 in
theorem wd_613 : Cond.code yX4_soon cX4_soon 4 (some .int) ∈ wsG := wG (tb2 (List.mem_of_getElem? (i := 81) rfl)) rfl
set_option maxRecDepth 20000 in
theorem wd_614 : Cond.code yX5_soon cX5_soon 5 (some .int) ∈ wsG := wG (tb4 (List.mem_of_getElem? (i := 86) rfl)) rfl
set_option maxRecDepth 20000 in
theorem wd_615 : Cond.code yX4_reach cX4_reach 4 (some .int) ∈ wsG := wG (tb2 (List.mem_of_getElem? (i := 121) rfl)) rfl
set_option maxRecDepth 20000 in
theorem wd_616 : Cond.code yX5_reach cX5_reach 6 (some .int) ∈ wsG := wG (tb4 (List.mem_of_getElem? (i := 107) rfl)) rfl
set_option maxRecDepth 20000 in
theorem wd_617 : Cond.code yX4_cut cX4_cut 6 (some .int) ∈ wsG := wG (tb2 (List.mem_of_getElem? (i := 125) rfl)) rfl
set_option maxRecDepth 20000 in
theorem wd_618 : Cond.code yX5_cut cX5_cut 6 (some .int) ∈ wsG := wG (tb4 (List.mem_of_getElem? (i := 111) rfl)) rfl
set_option maxRecDepth 20000 in
theorem wd_619 : Cond.code yX4_parcel cX4_parcel 5 (some .int) ∈ wsG := wG (tb2 (List.mem_of_getElem? (i := 148) rfl)) rfl
set_option maxRecDepth 20000 in
theorem wd_620 : Cond.code yX5_parcel cX5_parcel 4 (some .int) ∈ wsG := wG (tb4 (List.mem_of_getElem? (i := 115) rfl)) rfl
set_option maxRecDepth 20000 in
theorem wd_621 : Cond.code yX4_tick cX4_tick 3 (some .int) ∈ wsG := wG (tb2 (List.mem_of_getElem? (i := 156) rfl)) rfl
set_option maxRecDepth 20000 in
theorem wd_622 : Cond.code yX5_tick cX5_tick 3 (some .int) ∈ wsG := wG (tb4 (List.mem_of_getElem? (i := 119) rfl)) rfl
set_option maxRecDepth 20000 in
theorem wd_623 : Cond.code yX5_told cX5_told 3 (some .int) ∈ wsG := wG (tb4 (List.mem_of_getElem? (i := 135) rfl)) rfl
set_option maxRecDepth 20000 in
theorem wd_624 : Cond.code yX4_waiting cX4_waiting 4 (some .int) ∈ wsG := wG (tb2 (List.mem_of_getElem? (i := 216) rfl)) rfl
set_option maxRecDepth 20000 in
theorem wd_625 : Cond.code yX5_waiting cX5_waiting 4 (some .int) ∈ wsG := wG (tb4 (List.mem_of_getElem? (i := 139) rfl)) rfl
set_option maxRecDepth 20000 in
theorem wd_626 : Cond.code yX4_fares cX4_fares 2 (some .int) ∈ wsG := wG (tb2 (List.mem_of_getElem? (i := 69) rfl)) rfl
set_option maxRecDepth 20000 in
theorem wd_627 : Cond.code yX5_fares cX5_fares 2 (some .int) ∈ wsG := wG (tb4 (List.mem_of_getElem? (i := 143) rfl)) rfl
set_option maxRecDepth 20000 in
theorem wd_628 : Cond.code yX4_room cX4_room 3 (some .int) ∈ wsG := wG (tb2 (List.mem_of_getElem? (i := 73) rfl)) rfl
set_option maxRecDepth 20000 in
theorem wd_629 : Cond.code yX5_room cX5_room 3 (some .int) ∈ wsG := wG (tb4 (List.mem_of_getElem? (i := 147) rfl)) rfl
set_option maxRecDepth 20000 in
theorem wd_630 : Cond.code yX4_walk cX4_walk 4 (some .boolean) ∈ wsG := wG (tb2 (List.mem_of_getElem? (i := 220) rfl)) rfl
set_option maxRecDepth 20000 in
theorem wd_631 : Cond.code yX5_walk cX5_walk 4 (some .boolean) ∈ wsG := wG (tb4 (List.mem_of_getElem? (i := 151) rfl)) rfl
set_option maxRecDepth 20000 in
theorem wd_632 : Cond.code yX4_errand cX4_errand 4 (some .boolean) ∈ wsG := wG (tb2 (List.mem_of_getElem? (i := 232) rfl)) rfl
set_option maxRecDepth 20000 in
theorem wd_633 : Cond.code yX5_errand cX5_errand 4 (some .boolean) ∈ wsG := wG (tb4 (List.mem_of_getElem? (i := 155) rfl)) rfl
set_option maxRecDepth 20000 in
theorem wd_634 : Cond.code yX4_clear cX4_clear 1 none ∈ wsG := wG (tb3 (List.mem_of_getElem? (i := 3) rfl)) rfl
set_option maxRecDepth 20000 in
theorem wd_635 : Cond.code yX5_clear cX5_clear 2 none ∈ wsG := wG (tb4 (List.mem_of_getElem? (i := 159) rfl)) rfl
set_option maxRecDepth 20000 in
theorem wd_636 : Cond.code yX4_best cX4_best 3 (some .int) ∈ wsG := wG (tb3 (List.mem_of_getElem? (i := 11) rfl)) rfl
set_option maxRecDepth 20000 in
theorem wd_637 : Cond.code yX5_best cX5_best 3 (some .int) ∈ wsG := wG (tb4 (List.mem_of_getElem? (i := 163) rfl)) rfl
set_option maxRecDepth 20000 in
theorem wd_638 : Cond.code yX4_round cX4_round 3 (some .int) ∈ wsG := wG (tb3 (List.mem_of_getElem? (i := 61) rfl)) rfl
set_option maxRecDepth 20000 in
theorem wd_639 : Cond.code yX5_round cX5_round 3 (some .int) ∈ wsG := wG (tb4 (List.mem_of_getElem? (i := 175) rfl)) rfl
set_option maxRecDepth 20000 in
theorem wd_640 : Cond.code yX4_count cX4_count 2 (some .int) ∈ wsG := wG (tb3 (List.mem_of_getElem? (i := 69) rfl)) rfl
set_option maxRecDepth 20000 in
theorem wd_641 : Cond.code yX5_count cX5_count 4 (some .int) ∈ wsG := wG (tb4 (List.mem_of_getElem? (i := 179) rfl)) rfl
set_option maxRecDepth 20000 in
theorem wd_642 : Cond.code yX4_told cX4_told 4 (some .int) ∈ wsG := wG (tb3 (List.mem_of_getElem? (i := 89) rfl)) rfl
set_option maxRecDepth 20000 in
theorem wd_643 : Cond.code Lib.Math.max.name Lib.Math.max.code 2 (some .int) ∈ wsG := wG (tb2 (List.mem_of_getElem? (i := 140) (by decide +kernel))) rfl
set_option maxRecDepth 20000 in
theorem wd_644 : Cond.code Lib.Math.min.name Lib.Math.min.code 2 (some .int) ∈ wsG := wG (tb3 (List.mem_of_getElem? (i := 31) (by decide +kernel))) rfl
set_option maxRecDepth 20000 in
theorem wd_645 : Cond.code objectInit ⟨#[0xb1]⟩ 1 none ∈ wsG := wG (tb1 (List.mem_of_getElem? (i := 21) (by decide +kernel))) rfl
set_option maxRecDepth 20000 in
theorem wd_NSEl : Cond.classLink RX4 131 "java/util/NoSuchElementException" ∈ wsG := wd_265
set_option maxRecDepth 20000 in
theorem wd_NSEi : Cond.initialized "java/util/NoSuchElementException" ∈ wsG := wd_266
set_option maxRecDepth 20000 in
theorem wd_NSEc : Cond.classLink RL 13 "java/util/NoSuchElementException" ∈ wsG := wd_389
set_option maxRecDepth 20000 in
theorem wd_Lt : Cond.codeWith yL_told cL_told 5 (some .int) [(0, 10, 13, 13)] ∈ wsG := wG (tb3 (List.mem_of_getElem? (i := 84) rfl)) rfl
set_option maxRecDepth 20000 in
theorem tX0 : ∀ w ∈ wsX00, w ∈ wsG := by
  intro w hw
  obtain ⟨k, hk, rfl⟩ := List.mem_map.mp hw
  have hk := List.mem_range.mp hk
  match k, hk with
    | 0, _ => exact wG (tb1 (List.mem_of_getElem? (i := 56) rfl)) rfl
    | 1, _ => exact wG (tb1 (List.mem_of_getElem? (i := 58) rfl)) rfl
    | 2, _ => exact wG (tb1 (List.mem_of_getElem? (i := 60) rfl)) rfl
    | 3, _ => exact wG (tb1 (List.mem_of_getElem? (i := 62) rfl)) rfl
    | 4, _ => exact wG (tb1 (List.mem_of_getElem? (i := 64) rfl)) rfl
    | 5, _ => exact wG (tb1 (List.mem_of_getElem? (i := 66) rfl)) rfl
    | 6, _ => exact wG (tb1 (List.mem_of_getElem? (i := 68) rfl)) rfl
    | 7, _ => exact wG (tb1 (List.mem_of_getElem? (i := 70) rfl)) rfl
    | 8, _ => exact wG (tb1 (List.mem_of_getElem? (i := 72) rfl)) rfl
    | 9, _ => exact wG (tb1 (List.mem_of_getElem? (i := 74) rfl)) rfl
    | 10, _ => exact wG (tb1 (List.mem_of_getElem? (i := 76) rfl)) rfl
    | k + 11, hk => exact absurd hk (by omega)
set_option maxRecDepth 20000 in
theorem tX1 : ∀ w ∈ wsX10, w ∈ wsG := by
  intro w hw
  obtain ⟨k, hk, rfl⟩ := List.mem_map.mp hw
  have hk := List.mem_range.mp hk
  match k, hk with
    | 0, _ => exact wG (tb1 (List.mem_of_getElem? (i := 134) rfl)) rfl
    | 1, _ => exact wG (tb1 (List.mem_of_getElem? (i := 136) rfl)) rfl
    | 2, _ => exact wG (tb1 (List.mem_of_getElem? (i := 138) rfl)) rfl
    | 3, _ => exact wG (tb1 (List.mem_of_getElem? (i := 140) rfl)) rfl
    | 4, _ => exact wG (tb1 (List.mem_of_getElem? (i := 142) rfl)) rfl
    | 5, _ => exact wG (tb1 (List.mem_of_getElem? (i := 144) rfl)) rfl
    | 6, _ => exact wG (tb1 (List.mem_of_getElem? (i := 146) rfl)) rfl
    | 7, _ => exact wG (tb1 (List.mem_of_getElem? (i := 148) rfl)) rfl
    | 8, _ => exact wG (tb1 (List.mem_of_getElem? (i := 150) rfl)) rfl
    | 9, _ => exact wG (tb1 (List.mem_of_getElem? (i := 152) rfl)) rfl
    | 10, _ => exact wG (tb1 (List.mem_of_getElem? (i := 154) rfl)) rfl
    | k + 11, hk => exact absurd hk (by omega)
set_option maxRecDepth 20000 in
theorem tX2 : ∀ w ∈ wsX20, w ∈ wsG := by
  intro w hw
  obtain ⟨k, hk, rfl⟩ := List.mem_map.mp hw
  have hk := List.mem_range.mp hk
  match k, hk with
    | 0, _ => exact wG (tb1 (List.mem_of_getElem? (i := 187) rfl)) rfl
    | 1, _ => exact wG (tb1 (List.mem_of_getElem? (i := 189) rfl)) rfl
    | 2, _ => exact wG (tb1 (List.mem_of_getElem? (i := 191) rfl)) rfl
    | 3, _ => exact wG (tb1 (List.mem_of_getElem? (i := 193) rfl)) rfl
    | 4, _ => exact wG (tb1 (List.mem_of_getElem? (i := 195) rfl)) rfl
    | 5, _ => exact wG (tb1 (List.mem_of_getElem? (i := 197) rfl)) rfl
    | 6, _ => exact wG (tb1 (List.mem_of_getElem? (i := 199) rfl)) rfl
    | 7, _ => exact wG (tb1 (List.mem_of_getElem? (i := 201) rfl)) rfl
    | 8, _ => exact wG (tb1 (List.mem_of_getElem? (i := 203) rfl)) rfl
    | 9, _ => exact wG (tb1 (List.mem_of_getElem? (i := 205) rfl)) rfl
    | 10, _ => exact wG (tb1 (List.mem_of_getElem? (i := 207) rfl)) rfl
    | 11, _ => exact wG (tb1 (List.mem_of_getElem? (i := 209) rfl)) rfl
    | k + 12, hk => exact absurd hk (by omega)
set_option maxRecDepth 20000 in
theorem tX3 : ∀ w ∈ wsX30, w ∈ wsG := by
  intro w hw
  obtain ⟨k, hk, rfl⟩ := List.mem_map.mp hw
  have hk := List.mem_range.mp hk
  match k, hk with
    | 0, _ => exact wG (tb1 (List.mem_of_getElem? (i := 94) rfl)) rfl
    | 1, _ => exact wG (tb1 (List.mem_of_getElem? (i := 96) rfl)) rfl
    | 2, _ => exact wG (tb1 (List.mem_of_getElem? (i := 98) rfl)) rfl
    | 3, _ => exact wG (tb1 (List.mem_of_getElem? (i := 100) rfl)) rfl
    | 4, _ => exact wG (tb1 (List.mem_of_getElem? (i := 102) rfl)) rfl
    | 5, _ => exact wG (tb1 (List.mem_of_getElem? (i := 104) rfl)) rfl
    | 6, _ => exact wG (tb1 (List.mem_of_getElem? (i := 106) rfl)) rfl
    | 7, _ => exact wG (tb1 (List.mem_of_getElem? (i := 108) rfl)) rfl
    | 8, _ => exact wG (tb1 (List.mem_of_getElem? (i := 110) rfl)) rfl
    | k + 9, hk => exact absurd hk (by omega)
set_option maxRecDepth 20000 in
theorem tX4 : ∀ w ∈ wsX40, w ∈ wsG := by
  intro w hw
  obtain ⟨k, hk, rfl⟩ := List.mem_map.mp hw
  have hk := List.mem_range.mp hk
  match k, hk with
    | 0, _ => exact wG (tb1 (List.mem_of_getElem? (i := 218) rfl)) rfl
    | 1, _ => exact wG (tb1 (List.mem_of_getElem? (i := 220) rfl)) rfl
    | 2, _ => exact wG (tb1 (List.mem_of_getElem? (i := 222) rfl)) rfl
    | 3, _ => exact wG (tb1 (List.mem_of_getElem? (i := 224) rfl)) rfl
    | 4, _ => exact wG (tb1 (List.mem_of_getElem? (i := 226) rfl)) rfl
    | 5, _ => exact wG (tb1 (List.mem_of_getElem? (i := 228) rfl)) rfl
    | k + 6, hk => exact absurd hk (by omega)
set_option maxRecDepth 20000 in
theorem tX5 : ∀ w ∈ wsX50, w ∈ wsG := by
  intro w hw
  obtain ⟨k, hk, rfl⟩ := List.mem_map.mp hw
  have hk := List.mem_range.mp hk
  match k, hk with
    | 0, _ => exact wG (tb3 (List.mem_of_getElem? (i := 203) rfl)) rfl
    | 1, _ => exact wG (tb3 (List.mem_of_getElem? (i := 205) rfl)) rfl
    | 2, _ => exact wG (tb3 (List.mem_of_getElem? (i := 207) rfl)) rfl
    | 3, _ => exact wG (tb3 (List.mem_of_getElem? (i := 209) rfl)) rfl
    | 4, _ => exact wG (tb3 (List.mem_of_getElem? (i := 211) rfl)) rfl
    | 5, _ => exact wG (tb3 (List.mem_of_getElem? (i := 213) rfl)) rfl
    | 6, _ => exact wG (tb3 (List.mem_of_getElem? (i := 215) rfl)) rfl
    | 7, _ => exact wG (tb3 (List.mem_of_getElem? (i := 217) rfl)) rfl
    | 8, _ => exact wG (tb3 (List.mem_of_getElem? (i := 219) rfl)) rfl
    | 9, _ => exact wG (tb3 (List.mem_of_getElem? (i := 221) rfl)) rfl
    | 10, _ => exact wG (tb3 (List.mem_of_getElem? (i := 223) rfl)) rfl
    | 11, _ => exact wG (tb3 (List.mem_of_getElem? (i := 225) rfl)) rfl
    | 12, _ => exact wG (tb3 (List.mem_of_getElem? (i := 227) rfl)) rfl
    | 13, _ => exact wG (tb3 (List.mem_of_getElem? (i := 229) rfl)) rfl
    | 14, _ => exact wG (tb3 (List.mem_of_getElem? (i := 231) rfl)) rfl
    | 15, _ => exact wG (tb3 (List.mem_of_getElem? (i := 233) rfl)) rfl
    | 16, _ => exact wG (tb3 (List.mem_of_getElem? (i := 235) rfl)) rfl
    | 17, _ => exact wG (tb3 (List.mem_of_getElem? (i := 237) rfl)) rfl
    | 18, _ => exact wG (tb3 (List.mem_of_getElem? (i := 239) rfl)) rfl
    | 19, _ => exact wG (tb4 (List.mem_of_getElem? (i := 1) rfl)) rfl
    | 20, _ => exact wG (tb4 (List.mem_of_getElem? (i := 3) rfl)) rfl
    | 21, _ => exact wG (tb4 (List.mem_of_getElem? (i := 5) rfl)) rfl
    | 22, _ => exact wG (tb4 (List.mem_of_getElem? (i := 7) rfl)) rfl
    | 23, _ => exact wG (tb4 (List.mem_of_getElem? (i := 9) rfl)) rfl
    | 24, _ => exact wG (tb4 (List.mem_of_getElem? (i := 11) rfl)) rfl
    | 25, _ => exact wG (tb4 (List.mem_of_getElem? (i := 13) rfl)) rfl
    | 26, _ => exact wG (tb4 (List.mem_of_getElem? (i := 15) rfl)) rfl
    | 27, _ => exact wG (tb4 (List.mem_of_getElem? (i := 17) rfl)) rfl
    | 28, _ => exact wG (tb4 (List.mem_of_getElem? (i := 19) rfl)) rfl
    | 29, _ => exact wG (tb4 (List.mem_of_getElem? (i := 21) rfl)) rfl
    | 30, _ => exact wG (tb4 (List.mem_of_getElem? (i := 23) rfl)) rfl
    | 31, _ => exact wG (tb4 (List.mem_of_getElem? (i := 25) rfl)) rfl
    | 32, _ => exact wG (tb4 (List.mem_of_getElem? (i := 27) rfl)) rfl
    | 33, _ => exact wG (tb4 (List.mem_of_getElem? (i := 29) rfl)) rfl
    | 34, _ => exact wG (tb4 (List.mem_of_getElem? (i := 31) rfl)) rfl
    | 35, _ => exact wG (tb4 (List.mem_of_getElem? (i := 33) rfl)) rfl
    | 36, _ => exact wG (tb4 (List.mem_of_getElem? (i := 35) rfl)) rfl
    | 37, _ => exact wG (tb4 (List.mem_of_getElem? (i := 37) rfl)) rfl
    | k + 38, hk => exact absurd hk (by omega)
