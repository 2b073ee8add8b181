abbrev wsL_law : List Cond := Cond.initialized RX4 :: wsG
abbrev wsL_told : List Cond := .codeWith yL_told cL_told 5 (some .int) [(0, 10, 13, 13)] :: wsG
abbrev wsT : List Cond := .code yX4_told cX4_told 4 (some .int) :: wsG
abbrev wsX0_init : List Cond := .code yX0_init cX0_init 1 none :: wsG
abbrev wsX0_setTerms : List Cond := .code yX0_setTerms cX0_setTerms 4 none :: wsG
abbrev wsX0_lastOffset : List Cond := .code yX0_lastOffset cX0_lastOffset 1 (some .int) :: wsG
abbrev wsX4_isIn : List Cond := .code yX4_isIn cX4_isIn 3 (some .boolean) :: wsG
abbrev wsX0_isSnowedIn : List Cond := .code yX0_isSnowedIn cX0_isSnowedIn 2 (some .boolean) :: wsG
abbrev wsX0_addSnow : List Cond := .code yX0_addSnow cX0_addSnow 2 none :: wsG
abbrev wsX0_goesOn : List Cond := .code yX0_goesOn cX0_goesOn 2 (some .boolean) :: wsG
abbrev wsX0_hourAt : List Cond := .code yX0_hourAt cX0_hourAt 3 (some .int) :: wsG
abbrev wsX0_dayOf : List Cond := .code yX0_dayOf cX0_dayOf 3 (some .int) :: wsG
abbrev wsX0_takesFrom : List Cond := .code yX0_takesFrom cX0_takesFrom 3 (some .boolean) :: wsG
abbrev wsX0_lastInTime : List Cond := .code yX0_lastInTime cX0_lastInTime 5 (some .int) :: wsG
abbrev wsX0_roomLeft : List Cond := .code yX0_roomLeft cX0_roomLeft 3 (some .int) :: wsG
abbrev wsX0_load : List Cond := .code yX0_load cX0_load 4 none :: wsG
abbrev wsX0_unload : List Cond := .code yX0_unload cX0_unload 3 none :: wsG
abbrev wsX0_isLaden : List Cond := .code yX0_isLaden cX0_isLaden 2 (some .boolean) :: wsG
abbrev wsX1_init : List Cond := .code yX1_init cX1_init 3 none :: wsG
abbrev wsX1_forget : List Cond := .code yX1_forget cX1_forget 1 none :: wsG
abbrev wsX1_setWalk : List Cond := .code yX1_setWalk cX1_setWalk 4 none :: wsG
abbrev wsX1_bitOf : List Cond := .code yX1_bitOf cX1_bitOf 1 (some .int) :: wsG
abbrev wsX1_put : List Cond := .code yX1_put cX1_put 4 none :: wsG
abbrev wsX1_empty : List Cond := .code yX1_empty cX1_empty 1 none :: wsG
abbrev wsX1_wayBy : List Cond := .code yX1_wayBy cX1_wayBy 5 (some .int) :: wsG
abbrev wsX1_wayFrom : List Cond := .code yX1_wayFrom cX1_wayFrom 5 (some .int) :: wsG
abbrev wsX1_measure : List Cond := .code yX1_measure cX1_measure 3 none :: wsG
abbrev wsX1_take : List Cond := .code yX1_take cX1_take 6 none :: wsG
abbrev wsX1_worthOf : List Cond := .code yX1_worthOf cX1_worthOf 4 (some .int) :: wsG
abbrev wsX1_nextShop : List Cond := .code yX1_nextShop cX1_nextShop 4 (some .int) :: wsG
abbrev wsX1_orderOf : List Cond := .code yX1_orderOf cX1_orderOf 8 (some .long) :: wsG
abbrev wsX1_weigh : List Cond := .code yX1_weigh cX1_weigh 6 none :: wsG
abbrev wsX1_choose : List Cond := .code yX1_choose cX1_choose 3 none :: wsG
abbrev wsX1_chosenShop : List Cond := .code yX1_chosenShop cX1_chosenShop 3 (some .int) :: wsG
abbrev wsX2_init : List Cond := .code yX2_init cX2_init 1 none :: wsG
abbrev wsX2_give : List Cond := .code yX2_give cX2_give 4 none :: wsG
abbrev wsX2_board : List Cond := .code yX2_board cX2_board 5 none :: wsG
abbrev wsX2_leave : List Cond := .code yX2_leave cX2_leave 2 none :: wsG
abbrev wsX3_init : List Cond := .code yX3_init cX3_init 2 none :: wsG
abbrev wsX3_addHalt : List Cond := .code yX3_addHalt cX3_addHalt 7 none :: wsG
abbrev wsX3_growLinks : List Cond := .code yX3_growLinks cX3_growLinks 7 (some .boolean) :: wsG
abbrev wsX3_renew : List Cond := .code yX3_renew cX3_renew 2 none :: wsG
abbrev wsX3_addStop : List Cond := .code yX3_addStop cX3_addStop 6 none :: wsG
abbrev wsX3_haltsBegin : List Cond := .code yX3_haltsBegin cX3_haltsBegin 2 (some .int) :: wsG
abbrev wsX3_haltsEnd : List Cond := .code yX3_haltsEnd cX3_haltsEnd 2 (some .int) :: wsG
abbrev wsX3_hasHalts : List Cond := .code yX3_hasHalts cX3_hasHalts 2 (some .boolean) :: wsG
abbrev wsX3_cartOf : List Cond := .code yX3_cartOf cX3_cartOf 2 (some .int) :: wsG
abbrev wsX3_stopOf : List Cond := .code yX3_stopOf cX3_stopOf 2 (some .int) :: wsG
abbrev wsJ7_fill_53178 : List Cond := .code yJ7_fill_53178 cJ7_fill_53178 4 none :: wsG
abbrev wsX3_getDown : List Cond := .code yX3_getDown cX3_getDown 8 none :: wsG
abbrev wsX3_getOn : List Cond := .code yX3_getOn cX3_getOn 8 none :: wsG
abbrev wsX3_soonest : List Cond := .code yX3_soonest cX3_soonest 6 (some .int) :: wsG
abbrev wsX3_lookWhereItCameBy : List Cond := .code yX3_lookWhereItCameBy cX3_lookWhereItCameBy 10 none :: wsG
abbrev wsX3_lookWhatComes : List Cond := .code yX3_lookWhatComes cX3_lookWhatComes 10 none :: wsG
abbrev wsX3_findLatest : List Cond := .code yX3_findLatest cX3_findLatest 7 none :: wsG
abbrev wsX3_startsFor : List Cond := .code yX3_startsFor cX3_startsFor 6 (some .int) :: wsG
abbrev wsX3_earnedInAll : List Cond := .code yX3_earnedInAll cX3_earnedInAll 3 (some .int) :: wsG
abbrev wsX4_init : List Cond := .code yX4_init cX4_init 2 none :: wsG
abbrev wsX4_areTerms : List Cond := .code yX4_areTerms cX4_areTerms 3 (some .boolean) :: wsG
abbrev wsX4_isPlace : List Cond := .code yX4_isPlace cX4_isPlace 1 (some .boolean) :: wsG
abbrev wsX4_cart : List Cond := .code yX4_cart cX4_cart 8 (some .int) :: wsG
abbrev wsX4_isCart : List Cond := .code yX4_isCart cX4_isCart 2 (some .boolean) :: wsG
abbrev wsX4_stop : List Cond := .code yX4_stop cX4_stop 5 (some .int) :: wsG
abbrev wsX4_change : List Cond := .code yX4_change cX4_change 6 (some .boolean) :: wsG
abbrev wsX4_snow : List Cond := .code yX4_snow cX4_snow 4 (some .boolean) :: wsG
abbrev wsX4_runs : List Cond := .code yX4_runs cX4_runs 3 (some .int) :: wsG
abbrev wsX4_fares : List Cond := .code yX4_fares cX4_fares 2 (some .int) :: wsG
abbrev wsX4_room : List Cond := .code yX4_room cX4_room 3 (some .int) :: wsG
abbrev wsX4_soon : List Cond := .code yX4_soon cX4_soon 4 (some .int) :: wsG
abbrev wsX4_reach : List Cond := .code yX4_reach cX4_reach 4 (some .int) :: wsG
abbrev wsX4_cut : List Cond := .code yX4_cut cX4_cut 6 (some .int) :: wsG
abbrev wsX4_parcel : List Cond := .code yX4_parcel cX4_parcel 5 (some .int) :: wsG
abbrev wsX4_unloadParcels : List Cond := .code yX4_unloadParcels cX4_unloadParcels 3 none :: wsG
abbrev wsX4_renewPlan : List Cond := .code yX4_renewPlan cX4_renewPlan 5 none :: wsG
abbrev wsX4_seekRide : List Cond := .code yX4_seekRide cX4_seekRide 9 none :: wsG
abbrev wsX4_loadParcels : List Cond := .code yX4_loadParcels cX4_loadParcels 3 none :: wsG
abbrev wsX4_tick : List Cond := .code yX4_tick cX4_tick 3 (some .int) :: wsG
abbrev wsX4_told : List Cond := .code yX4_told cX4_told 4 (some .int) :: wsG
abbrev wsX4_waiting : List Cond := .code yX4_waiting cX4_waiting 4 (some .int) :: wsG
abbrev wsX4_walk : List Cond := .code yX4_walk cX4_walk 4 (some .boolean) :: wsG
abbrev wsX4_errand : List Cond := .code yX4_errand cX4_errand 4 (some .boolean) :: wsG
abbrev wsX4_clear : List Cond := .code yX4_clear cX4_clear 1 none :: wsG
abbrev wsJ6_bitCount_0f7a4 : List Cond := .code yJ6_bitCount_0f7a4 cJ6_bitCount_0f7a4 1 (some .int) :: wsG
abbrev wsX4_best : List Cond := .code yX4_best cX4_best 3 (some .int) :: wsG
abbrev wsX4_round : List Cond := .code yX4_round cX4_round 3 (some .int) :: wsG
abbrev wsX4_countCome : List Cond := .code yX4_countCome cX4_countCome 3 (some .int) :: wsG
abbrev wsX4_countRiding : List Cond := .code yX4_countRiding cX4_countRiding 3 (some .int) :: wsG
abbrev wsX4_count : List Cond := .code yX4_count cX4_count 2 (some .int) :: wsG
abbrev wsX5_init : List Cond := .code yX5_init cX5_init 2 none :: wsG
abbrev wsX5_isIn : List Cond := .code yX5_isIn cX5_isIn 3 (some .boolean) :: wsG
abbrev wsX5_isCart : List Cond := .code yX5_isCart cX5_isCart 2 (some .boolean) :: wsG
abbrev wsX5_isPlace : List Cond := .code yX5_isPlace cX5_isPlace 1 (some .boolean) :: wsG
abbrev wsX5_isBusy : List Cond := .code yX5_isBusy cX5_isBusy 3 (some .boolean) :: wsG
abbrev wsX5_forget : List Cond := .code yX5_forget cX5_forget 1 none :: wsG
abbrev wsX5_cart : List Cond := .code yX5_cart cX5_cart 6 (some .int) :: wsG
abbrev wsX5_stop : List Cond := .code yX5_stop cX5_stop 4 (some .int) :: wsG
abbrev wsX5_change : List Cond := .code yX5_change cX5_change 5 (some .boolean) :: wsG
abbrev wsX5_snow : List Cond := .code yX5_snow cX5_snow 3 (some .boolean) :: wsG
abbrev wsX5_isRun : List Cond := .code yX5_isRun cX5_isRun 3 (some .boolean) :: wsG
abbrev wsX5_runs : List Cond := .code yX5_runs cX5_runs 3 (some .int) :: wsG
abbrev wsX5_hourOf : List Cond := .code yX5_hourOf cX5_hourOf 4 (some .int) :: wsG
abbrev wsX5_find : List Cond := .code yX5_find cX5_find 11 none :: wsG
abbrev wsX5_soonOf : List Cond := .code yX5_soonOf cX5_soonOf 6 (some .int) :: wsG
abbrev wsX5_isHour : List Cond := .code yX5_isHour cX5_isHour 1 (some .boolean) :: wsG
abbrev wsX5_soon : List Cond := .code yX5_soon cX5_soon 5 (some .int) :: wsG
abbrev wsX5_reach : List Cond := .code yX5_reach cX5_reach 6 (some .int) :: wsG
abbrev wsX5_cut : List Cond := .code yX5_cut cX5_cut 6 (some .int) :: wsG
abbrev wsX5_parcel : List Cond := .code yX5_parcel cX5_parcel 4 (some .int) :: wsG
abbrev wsX5_roomLeft : List Cond := .code yX5_roomLeft cX5_roomLeft 5 (some .int) :: wsG
abbrev wsX5_seeks : List Cond := .code yX5_seeks cX5_seeks 7 none :: wsG
abbrev wsX5_goesBy : List Cond := .code yX5_goesBy cX5_goesBy 2 none :: wsG
abbrev wsX5_tick : List Cond := .code yX5_tick cX5_tick 3 (some .int) :: wsG
abbrev wsX5_told : List Cond := .code yX5_told cX5_told 3 (some .int) :: wsG
abbrev wsX5_waiting : List Cond := .code yX5_waiting cX5_waiting 4 (some .int) :: wsG
abbrev wsX5_fares : List Cond := .code yX5_fares cX5_fares 2 (some .int) :: wsG
abbrev wsX5_room : List Cond := .code yX5_room cX5_room 3 (some .int) :: wsG
abbrev wsX5_walk : List Cond := .code yX5_walk cX5_walk 4 (some .boolean) :: wsG
abbrev wsX5_errand : List Cond := .code yX5_errand cX5_errand 4 (some .boolean) :: wsG
abbrev wsX5_clear : List Cond := .code yX5_clear cX5_clear 2 none :: wsG
abbrev wsX5_goes : List Cond := .code yX5_goes cX5_goes 8 none :: wsG
abbrev wsX5_finds : List Cond := .code yX5_finds cX5_finds 2 (some .boolean) :: wsG
abbrev wsX5_best : List Cond := .code yX5_best cX5_best 3 (some .int) :: wsG
abbrev wsX5_round : List Cond := .code yX5_round cX5_round 3 (some .int) :: wsG
abbrev wsX5_count : List Cond := .code yX5_count cX5_count 4 (some .int) :: wsG
abbrev wsJ9_max_7cf53 : List Cond := .code yJ9_max_7cf53 cJ9_max_7cf53 2 (some .int) :: wsG
abbrev wsJ9_min_7cf53 : List Cond := .code yJ9_min_7cf53 cJ9_min_7cf53 2 (some .int) :: wsG
theorem ggX0_isSnowedIn_X4_isIn : GoodIn wsX0_isSnowedIn wsX4_isIn := gI wd_522
theorem gX0_isSnowedIn_X4_isIn_n46 : GoodIn wsX0_isSnowedIn wsX4_isIn := gI wd_522
theorem ggX0_lastInTime_X0_hourAt : GoodIn wsX0_lastInTime wsX0_hourAt := gI wd_523
theorem gX0_lastInTime_X0_hourAt : GoodIn wsX0_lastInTime (wsV RX0 50 RX0 yX0_hourAt wsX0_hourAt) := gE wd_16 wd_17 wd_18 wd_19 wd_523
theorem hdV_X0_hourAt : yX0_hourAt.cls = RX0 ∧ yX0_hourAt.cls ≠ "java/lang/invoke/MethodHandle" ∧ yX0_hourAt.cls ≠ "java/lang/invoke/VarHandle" ∧ (parseMethodDescriptor yX0_hourAt.desc).map (fun d => d.parameters.length) = some 2 := by decide +kernel
theorem ggX1_setWalk_X1_forget : GoodIn wsX1_setWalk wsX1_forget := gI wd_524
theorem gX1_setWalk_X1_forget : GoodIn wsX1_setWalk (wsV RX1 48 RX1 yX1_forget wsX1_forget) := gE wd_32 wd_33 wd_34 wd_35 wd_524
theorem hdV_X1_forget : yX1_forget.cls = RX1 ∧ yX1_forget.cls ≠ "java/lang/invoke/MethodHandle" ∧ yX1_forget.cls ≠ "java/lang/invoke/VarHandle" ∧ (parseMethodDescriptor yX1_forget.desc).map (fun d => d.parameters.length) = some 0 := by decide +kernel
theorem ggX1_put_X1_bitOf : GoodIn wsX1_put wsX1_bitOf := gI wd_525
theorem gX1_put_X1_bitOf : GoodIn wsX1_put (va_wsS RX1 51 yX1_bitOf wsX1_bitOf) := gS wd_36 wd_37 wd_35 wd_525
theorem hdS_X1_bitOf : yX1_bitOf.cls ≠ "java/lang/invoke/MethodHandle" ∧ yX1_bitOf.cls ≠ "java/lang/invoke/VarHandle" ∧ (parseMethodDescriptor yX1_bitOf.desc).map (fun d => d.parameters.length) = some 1 := by decide +kernel
theorem ggX1_put_X1_forget : GoodIn wsX1_put wsX1_forget := gI wd_524
theorem gX1_put_X1_forget : GoodIn wsX1_put (wsV RX1 48 RX1 yX1_forget wsX1_forget) := gE wd_32 wd_33 wd_34 wd_35 wd_524
theorem ggX1_empty_X1_forget : GoodIn wsX1_empty wsX1_forget := gI wd_524
theorem gX1_empty_X1_forget : GoodIn wsX1_empty (wsV RX1 48 RX1 yX1_forget wsX1_forget) := gE wd_32 wd_33 wd_34 wd_35 wd_524
theorem ggX1_measure_X1_wayFrom : GoodIn wsX1_measure wsX1_wayFrom := gI wd_526
theorem gX1_measure_X1_wayFrom : GoodIn wsX1_measure (wsV RX1 55 RX1 yX1_wayFrom wsX1_wayFrom) := gE wd_45 wd_46 wd_47 wd_35 wd_526
theorem hdV_X1_wayFrom : yX1_wayFrom.cls = RX1 ∧ yX1_wayFrom.cls ≠ "java/lang/invoke/MethodHandle" ∧ yX1_wayFrom.cls ≠ "java/lang/invoke/VarHandle" ∧ (parseMethodDescriptor yX1_wayFrom.desc).map (fun d => d.parameters.length) = some 2 := by decide +kernel
theorem ggX1_measure_X1_bitOf : GoodIn wsX1_measure wsX1_bitOf := gI wd_525
theorem gX1_measure_X1_bitOf : GoodIn wsX1_measure (va_wsS RX1 51 yX1_bitOf wsX1_bitOf) := gS wd_36 wd_37 wd_35 wd_525
theorem ggX1_wayFrom_X1_bitOf : GoodIn wsX1_wayFrom wsX1_bitOf := gI wd_525
theorem gX1_wayFrom_X1_bitOf : GoodIn wsX1_wayFrom (va_wsS RX1 51 yX1_bitOf wsX1_bitOf) := gS wd_36 wd_37 wd_35 wd_525
theorem ggX1_wayFrom_X1_wayBy : GoodIn wsX1_wayFrom wsX1_wayBy := gI wd_527
theorem gX1_wayFrom_X1_wayBy : GoodIn wsX1_wayFrom (wsV RX1 60 RX1 yX1_wayBy wsX1_wayBy) := gE wd_42 wd_43 wd_44 wd_35 wd_527
theorem hdV_X1_wayBy : yX1_wayBy.cls = RX1 ∧ yX1_wayBy.cls ≠ "java/lang/invoke/MethodHandle" ∧ yX1_wayBy.cls ≠ "java/lang/invoke/VarHandle" ∧ (parseMethodDescriptor yX1_wayBy.desc).map (fun d => d.parameters.length) = some 3 := by decide +kernel
theorem ggX1_wayBy_X1_bitOf : GoodIn wsX1_wayBy wsX1_bitOf := gI wd_525
theorem gX1_wayBy_X1_bitOf : GoodIn wsX1_wayBy (va_wsS RX1 51 yX1_bitOf wsX1_bitOf) := gS wd_36 wd_37 wd_35 wd_525
theorem ggX1_choose_X1_measure : GoodIn wsX1_choose wsX1_measure := gI wd_528
theorem gX1_choose_X1_measure : GoodIn wsX1_choose (wsV RX1 69 RX1 yX1_measure wsX1_measure) := gE wd_60 wd_61 wd_62 wd_35 wd_528
theorem hdV_X1_measure : yX1_measure.cls = RX1 ∧ yX1_measure.cls ≠ "java/lang/invoke/MethodHandle" ∧ yX1_measure.cls ≠ "java/lang/invoke/VarHandle" ∧ (parseMethodDescriptor yX1_measure.desc).map (fun d => d.parameters.length) = some 0 := by decide +kernel
theorem ggX1_choose_X1_take : GoodIn wsX1_choose wsX1_take := gI wd_529
theorem gX1_choose_X1_take : GoodIn wsX1_choose (wsV RX1 72 RX1 yX1_take wsX1_take) := gE wd_57 wd_58 wd_59 wd_35 wd_529
theorem hdV_X1_take : yX1_take.cls = RX1 ∧ yX1_take.cls ≠ "java/lang/invoke/MethodHandle" ∧ yX1_take.cls ≠ "java/lang/invoke/VarHandle" ∧ (parseMethodDescriptor yX1_take.desc).map (fun d => d.parameters.length) = some 4 := by decide +kernel
theorem ggX1_choose_X1_weigh : GoodIn wsX1_choose wsX1_weigh := gI wd_530
theorem gX1_choose_X1_weigh : GoodIn wsX1_choose (wsV RX1 76 RX1 yX1_weigh wsX1_weigh) := gE wd_63 wd_64 wd_65 wd_35 wd_530
theorem hdV_X1_weigh : yX1_weigh.cls = RX1 ∧ yX1_weigh.cls ≠ "java/lang/invoke/MethodHandle" ∧ yX1_weigh.cls ≠ "java/lang/invoke/VarHandle" ∧ (parseMethodDescriptor yX1_weigh.desc).map (fun d => d.parameters.length) = some 1 := by decide +kernel
theorem ggX1_weigh_X1_worthOf : GoodIn wsX1_weigh wsX1_worthOf := gI wd_531
theorem gX1_weigh_X1_worthOf : GoodIn wsX1_weigh (wsV RX1 80 RX1 yX1_worthOf wsX1_worthOf) := gE wd_51 wd_52 wd_53 wd_35 wd_531
theorem hdV_X1_worthOf : yX1_worthOf.cls = RX1 ∧ yX1_worthOf.cls ≠ "java/lang/invoke/MethodHandle" ∧ yX1_worthOf.cls ≠ "java/lang/invoke/VarHandle" ∧ (parseMethodDescriptor yX1_worthOf.desc).map (fun d => d.parameters.length) = some 1 := by decide +kernel
theorem ggX1_weigh_X1_orderOf : GoodIn wsX1_weigh wsX1_orderOf := gI wd_532
theorem gX1_weigh_X1_orderOf : GoodIn wsX1_weigh (wsV RX1 83 RX1 yX1_orderOf wsX1_orderOf) := gE wd_54 wd_55 wd_56 wd_35 wd_532
theorem hdV_X1_orderOf : yX1_orderOf.cls = RX1 ∧ yX1_orderOf.cls ≠ "java/lang/invoke/MethodHandle" ∧ yX1_orderOf.cls ≠ "java/lang/invoke/VarHandle" ∧ (parseMethodDescriptor yX1_orderOf.desc).map (fun d => d.parameters.length) = some 1 := by decide +kernel
theorem ggX1_weigh_X1_take : GoodIn wsX1_weigh wsX1_take := gI wd_529
theorem gX1_weigh_X1_take : GoodIn wsX1_weigh (wsV RX1 72 RX1 yX1_take wsX1_take) := gE wd_57 wd_58 wd_59 wd_35 wd_529
theorem ggX1_worthOf_X1_bitOf : GoodIn wsX1_worthOf wsX1_bitOf := gI wd_525
theorem gX1_worthOf_X1_bitOf : GoodIn wsX1_worthOf (va_wsS RX1 51 yX1_bitOf wsX1_bitOf) := gS wd_36 wd_37 wd_35 wd_525
theorem ggX1_orderOf_X1_nextShop : GoodIn wsX1_orderOf wsX1_nextShop := gI wd_533
theorem gX1_orderOf_X1_nextShop : GoodIn wsX1_orderOf (wsV RX1 87 RX1 yX1_nextShop wsX1_nextShop) := gE wd_48 wd_49 wd_50 wd_35 wd_533
theorem hdV_X1_nextShop : yX1_nextShop.cls = RX1 ∧ yX1_nextShop.cls ≠ "java/lang/invoke/MethodHandle" ∧ yX1_nextShop.cls ≠ "java/lang/invoke/VarHandle" ∧ (parseMethodDescriptor yX1_nextShop.desc).map (fun d => d.parameters.length) = some 2 := by decide +kernel
theorem ggX1_orderOf_X1_bitOf : GoodIn wsX1_orderOf wsX1_bitOf := gI wd_525
theorem gX1_orderOf_X1_bitOf : GoodIn wsX1_orderOf (va_wsS RX1 51 yX1_bitOf wsX1_bitOf) := gS wd_36 wd_37 wd_35 wd_525
theorem ggX1_nextShop_X1_bitOf : GoodIn wsX1_nextShop wsX1_bitOf := gI wd_525
theorem gX1_nextShop_X1_bitOf : GoodIn wsX1_nextShop (va_wsS RX1 51 yX1_bitOf wsX1_bitOf) := gS wd_36 wd_37 wd_35 wd_525
theorem ggX1_nextShop_X1_wayBy : GoodIn wsX1_nextShop wsX1_wayBy := gI wd_527
theorem gX1_nextShop_X1_wayBy : GoodIn wsX1_nextShop (wsV RX1 60 RX1 yX1_wayBy wsX1_wayBy) := gE wd_42 wd_43 wd_44 wd_35 wd_527
theorem ggX3_init_X0_init : GoodIn wsX3_init wsX0_init := gI wd_534
theorem gX3_init_X0_init_n43 : GoodIn wsX3_init wsX0_init := gI wd_534
theorem ggX3_addStop_X3_addHalt : GoodIn wsX3_addStop wsX3_addHalt := gI wd_535
theorem gX3_addStop_X3_addHalt : GoodIn wsX3_addStop (wsV RX3 56 RX3 yX3_addHalt wsX3_addHalt) := gE wd_101 wd_102 wd_103 wd_98 wd_535
theorem hdV_X3_addHalt : yX3_addHalt.cls = RX3 ∧ yX3_addHalt.cls ≠ "java/lang/invoke/MethodHandle" ∧ yX3_addHalt.cls ≠ "java/lang/invoke/VarHandle" ∧ (parseMethodDescriptor yX3_addHalt.desc).map (fun d => d.parameters.length) = some 3 := by decide +kernel
theorem ggX3_addStop_X3_renew : GoodIn wsX3_addStop wsX3_renew := gI wd_536
theorem gX3_addStop_X3_renew : GoodIn wsX3_addStop (wsV RX3 60 RX3 yX3_renew wsX3_renew) := gE wd_104 wd_105 wd_106 wd_98 wd_536
theorem hdV_X3_renew : yX3_renew.cls = RX3 ∧ yX3_renew.cls ≠ "java/lang/invoke/MethodHandle" ∧ yX3_renew.cls ≠ "java/lang/invoke/VarHandle" ∧ (parseMethodDescriptor yX3_renew.desc).map (fun d => d.parameters.length) = some 0 := by decide +kernel
theorem ggX3_hasHalts_X3_haltsBegin : GoodIn wsX3_hasHalts wsX3_haltsBegin := gI wd_537
theorem gX3_hasHalts_X3_haltsBegin : GoodIn wsX3_hasHalts (wsV RX3 63 RX3 yX3_haltsBegin wsX3_haltsBegin) := gE wd_107 wd_108 wd_109 wd_98 wd_537
theorem hdV_X3_haltsBegin : yX3_haltsBegin.cls = RX3 ∧ yX3_haltsBegin.cls ≠ "java/lang/invoke/MethodHandle" ∧ yX3_haltsBegin.cls ≠ "java/lang/invoke/VarHandle" ∧ (parseMethodDescriptor yX3_haltsBegin.desc).map (fun d => d.parameters.length) = some 1 := by decide +kernel
theorem ggX3_hasHalts_X3_haltsEnd : GoodIn wsX3_hasHalts wsX3_haltsEnd := gI wd_538
theorem gX3_hasHalts_X3_haltsEnd : GoodIn wsX3_hasHalts (wsV RX3 67 RX3 yX3_haltsEnd wsX3_haltsEnd) := gE wd_110 wd_111 wd_112 wd_98 wd_538
theorem hdV_X3_haltsEnd : yX3_haltsEnd.cls = RX3 ∧ yX3_haltsEnd.cls ≠ "java/lang/invoke/MethodHandle" ∧ yX3_haltsEnd.cls ≠ "java/lang/invoke/VarHandle" ∧ (parseMethodDescriptor yX3_haltsEnd.desc).map (fun d => d.parameters.length) = some 1 := by decide +kernel
theorem ggX3_renew_X3_growLinks : GoodIn wsX3_renew wsX3_growLinks := gI wd_539
theorem gX3_renew_X3_growLinks : GoodIn wsX3_renew (wsV RX3 70 RX3 yX3_growLinks wsX3_growLinks) := gE wd_95 wd_96 wd_97 wd_98 wd_539
theorem hdV_X3_growLinks : yX3_growLinks.cls = RX3 ∧ yX3_growLinks.cls ≠ "java/lang/invoke/MethodHandle" ∧ yX3_growLinks.cls ≠ "java/lang/invoke/VarHandle" ∧ (parseMethodDescriptor yX3_growLinks.desc).map (fun d => d.parameters.length) = some 0 := by decide +kernel
theorem ggX3_soonest_J7_fill_53178 : GoodIn wsX3_soonest wsJ7_fill_53178 := gI wd_540
theorem gX3_soonest_J7_fill_53178 : GoodIn wsX3_soonest (va_wsS RX3 77 yJ7_fill_53178 wsJ7_fill_53178) := gS wd_125 wd_126 wd_127 wd_540
theorem hdS_J7_fill_53178 : yJ7_fill_53178.cls ≠ "java/lang/invoke/MethodHandle" ∧ yJ7_fill_53178.cls ≠ "java/lang/invoke/VarHandle" ∧ (parseMethodDescriptor yJ7_fill_53178.desc).map (fun d => d.parameters.length) = some 2 := by decide +kernel
theorem ggX3_soonest_X3_getDown : GoodIn wsX3_soonest wsX3_getDown := gI wd_541
theorem gX3_soonest_X3_getDown : GoodIn wsX3_soonest (wsV RX3 83 RX3 yX3_getDown wsX3_getDown) := gE wd_128 wd_129 wd_130 wd_98 wd_541
theorem hdV_X3_getDown : yX3_getDown.cls = RX3 ∧ yX3_getDown.cls ≠ "java/lang/invoke/MethodHandle" ∧ yX3_getDown.cls ≠ "java/lang/invoke/VarHandle" ∧ (parseMethodDescriptor yX3_getDown.desc).map (fun d => d.parameters.length) = some 1 := by decide +kernel
theorem ggX3_soonest_X3_getOn : GoodIn wsX3_soonest wsX3_getOn := gI wd_542
theorem gX3_soonest_X3_getOn : GoodIn wsX3_soonest (wsV RX3 87 RX3 yX3_getOn wsX3_getOn) := gE wd_131 wd_132 wd_133 wd_98 wd_542
theorem hdV_X3_getOn : yX3_getOn.cls = RX3 ∧ yX3_getOn.cls ≠ "java/lang/invoke/MethodHandle" ∧ yX3_getOn.cls ≠ "java/lang/invoke/VarHandle" ∧ (parseMethodDescriptor yX3_getOn.desc).map (fun d => d.parameters.length) = some 1 := by decide +kernel
theorem ggX3_getDown_X3_haltsEnd : GoodIn wsX3_getDown wsX3_haltsEnd := gI wd_538
theorem gX3_getDown_X3_haltsEnd : GoodIn wsX3_getDown (wsV RX3 67 RX3 yX3_haltsEnd wsX3_haltsEnd) := gE wd_110 wd_111 wd_112 wd_98 wd_538
theorem ggX3_getDown_X3_haltsBegin : GoodIn wsX3_getDown wsX3_haltsBegin := gI wd_537
theorem gX3_getDown_X3_haltsBegin : GoodIn wsX3_getDown (wsV RX3 63 RX3 yX3_haltsBegin wsX3_haltsBegin) := gE wd_107 wd_108 wd_109 wd_98 wd_537
theorem ggX3_getDown_X3_cartOf : GoodIn wsX3_getDown wsX3_cartOf := gI wd_543
theorem gX3_getDown_X3_cartOf : GoodIn wsX3_getDown (wsV RX3 90 RX3 yX3_cartOf wsX3_cartOf) := gE wd_113 wd_114 wd_115 wd_98 wd_543
theorem hdV_X3_cartOf : yX3_cartOf.cls = RX3 ∧ yX3_cartOf.cls ≠ "java/lang/invoke/MethodHandle" ∧ yX3_cartOf.cls ≠ "java/lang/invoke/VarHandle" ∧ (parseMethodDescriptor yX3_cartOf.desc).map (fun d => d.parameters.length) = some 1 := by decide +kernel
theorem ggX3_getDown_X3_stopOf : GoodIn wsX3_getDown wsX3_stopOf := gI wd_544
theorem gX3_getDown_X3_stopOf : GoodIn wsX3_getDown (wsV RX3 93 RX3 yX3_stopOf wsX3_stopOf) := gE wd_116 wd_117 wd_118 wd_98 wd_544
theorem hdV_X3_stopOf : yX3_stopOf.cls = RX3 ∧ yX3_stopOf.cls ≠ "java/lang/invoke/MethodHandle" ∧ yX3_stopOf.cls ≠ "java/lang/invoke/VarHandle" ∧ (parseMethodDescriptor yX3_stopOf.desc).map (fun d => d.parameters.length) = some 1 := by decide +kernel
theorem ggX3_getDown_X0_dayOf : GoodIn wsX3_getDown wsX0_dayOf := gI wd_545
theorem gX3_getDown_X0_dayOf : GoodIn wsX3_getDown (wsV RX3 96 RX0 yX0_dayOf wsX0_dayOf) := gE wd_119 wd_120 wd_121 wd_19 wd_545
theorem hdV_X0_dayOf : yX0_dayOf.cls = RX0 ∧ yX0_dayOf.cls ≠ "java/lang/invoke/MethodHandle" ∧ yX0_dayOf.cls ≠ "java/lang/invoke/VarHandle" ∧ (parseMethodDescriptor yX0_dayOf.desc).map (fun d => d.parameters.length) = some 2 := by decide +kernel
theorem ggX3_getOn_X3_haltsEnd : GoodIn wsX3_getOn wsX3_haltsEnd := gI wd_538
theorem gX3_getOn_X3_haltsEnd : GoodIn wsX3_getOn (wsV RX3 67 RX3 yX3_haltsEnd wsX3_haltsEnd) := gE wd_110 wd_111 wd_112 wd_98 wd_538
theorem ggX3_getOn_X3_haltsBegin : GoodIn wsX3_getOn wsX3_haltsBegin := gI wd_537
theorem gX3_getOn_X3_haltsBegin : GoodIn wsX3_getOn (wsV RX3 63 RX3 yX3_haltsBegin wsX3_haltsBegin) := gE wd_107 wd_108 wd_109 wd_98 wd_537
theorem ggX3_getOn_X3_cartOf : GoodIn wsX3_getOn wsX3_cartOf := gI wd_543
theorem gX3_getOn_X3_cartOf : GoodIn wsX3_getOn (wsV RX3 90 RX3 yX3_cartOf wsX3_cartOf) := gE wd_113 wd_114 wd_115 wd_98 wd_543
theorem ggX3_getOn_X3_stopOf : GoodIn wsX3_getOn wsX3_stopOf := gI wd_544
theorem gX3_getOn_X3_stopOf : GoodIn wsX3_getOn (wsV RX3 93 RX3 yX3_stopOf wsX3_stopOf) := gE wd_116 wd_117 wd_118 wd_98 wd_544
theorem ggX3_getOn_X0_dayOf : GoodIn wsX3_getOn wsX0_dayOf := gI wd_545
theorem gX3_getOn_X0_dayOf : GoodIn wsX3_getOn (wsV RX3 96 RX0 yX0_dayOf wsX0_dayOf) := gE wd_119 wd_120 wd_121 wd_19 wd_545
theorem ggX3_getOn_X0_goesOn : GoodIn wsX3_getOn wsX0_goesOn := gI wd_546
theorem gX3_getOn_X0_goesOn : GoodIn wsX3_getOn (wsV RX3 100 RX0 yX0_goesOn wsX0_goesOn) := gE wd_122 wd_123 wd_124 wd_19 wd_546
theorem hdV_X0_goesOn : yX0_goesOn.cls = RX0 ∧ yX0_goesOn.cls ≠ "java/lang/invoke/MethodHandle" ∧ yX0_goesOn.cls ≠ "java/lang/invoke/VarHandle" ∧ (parseMethodDescriptor yX0_goesOn.desc).map (fun d => d.parameters.length) = some 1 := by decide +kernel
theorem ggX3_startsFor_X3_findLatest : GoodIn wsX3_startsFor wsX3_findLatest := gI wd_547
theorem gX3_startsFor_X3_findLatest : GoodIn wsX3_startsFor (wsV RX3 104 RX3 yX3_findLatest wsX3_findLatest) := gE wd_142 wd_143 wd_144 wd_98 wd_547
theorem hdV_X3_findLatest : yX3_findLatest.cls = RX3 ∧ yX3_findLatest.cls ≠ "java/lang/invoke/MethodHandle" ∧ yX3_findLatest.cls ≠ "java/lang/invoke/VarHandle" ∧ (parseMethodDescriptor yX3_findLatest.desc).map (fun d => d.parameters.length) = some 5 := by decide +kernel
theorem ggX3_findLatest_J7_fill_53178 : GoodIn wsX3_findLatest wsJ7_fill_53178 := gI wd_540
theorem gX3_findLatest_J7_fill_53178 : GoodIn wsX3_findLatest (va_wsS RX3 77 yJ7_fill_53178 wsJ7_fill_53178) := gS wd_125 wd_126 wd_127 wd_540
theorem ggX3_findLatest_X3_lookWhereItCameBy : GoodIn wsX3_findLatest wsX3_lookWhereItCameBy := gI wd_548
theorem gX3_findLatest_X3_lookWhereItCameBy : GoodIn wsX3_findLatest (wsV RX3 108 RX3 yX3_lookWhereItCameBy wsX3_lookWhereItCameBy) := gE wd_136 wd_137 wd_138 wd_98 wd_548
theorem hdV_X3_lookWhereItCameBy : yX3_lookWhereItCameBy.cls = RX3 ∧ yX3_lookWhereItCameBy.cls ≠ "java/lang/invoke/MethodHandle" ∧ yX3_lookWhereItCameBy.cls ≠ "java/lang/invoke/VarHandle" ∧ (parseMethodDescriptor yX3_lookWhereItCameBy.desc).map (fun d => d.parameters.length) = some 2 := by decide +kernel
theorem ggX3_findLatest_X3_lookWhatComes : GoodIn wsX3_findLatest wsX3_lookWhatComes := gI wd_549
theorem gX3_findLatest_X3_lookWhatComes : GoodIn wsX3_findLatest (wsV RX3 112 RX3 yX3_lookWhatComes wsX3_lookWhatComes) := gE wd_139 wd_140 wd_141 wd_98 wd_549
theorem hdV_X3_lookWhatComes : yX3_lookWhatComes.cls = RX3 ∧ yX3_lookWhatComes.cls ≠ "java/lang/invoke/MethodHandle" ∧ yX3_lookWhatComes.cls ≠ "java/lang/invoke/VarHandle" ∧ (parseMethodDescriptor yX3_lookWhatComes.desc).map (fun d => d.parameters.length) = some 3 := by decide +kernel
theorem ggX3_lookWhereItCameBy_X3_haltsEnd : GoodIn wsX3_lookWhereItCameBy wsX3_haltsEnd := gI wd_538
theorem gX3_lookWhereItCameBy_X3_haltsEnd : GoodIn wsX3_lookWhereItCameBy (wsV RX3 67 RX3 yX3_haltsEnd wsX3_haltsEnd) := gE wd_110 wd_111 wd_112 wd_98 wd_538
theorem ggX3_lookWhereItCameBy_X3_haltsBegin : GoodIn wsX3_lookWhereItCameBy wsX3_haltsBegin := gI wd_537
theorem gX3_lookWhereItCameBy_X3_haltsBegin : GoodIn wsX3_lookWhereItCameBy (wsV RX3 63 RX3 yX3_haltsBegin wsX3_haltsBegin) := gE wd_107 wd_108 wd_109 wd_98 wd_537
theorem ggX3_lookWhereItCameBy_X3_cartOf : GoodIn wsX3_lookWhereItCameBy wsX3_cartOf := gI wd_543
theorem gX3_lookWhereItCameBy_X3_cartOf : GoodIn wsX3_lookWhereItCameBy (wsV RX3 90 RX3 yX3_cartOf wsX3_cartOf) := gE wd_113 wd_114 wd_115 wd_98 wd_543
theorem ggX3_lookWhereItCameBy_X3_stopOf : GoodIn wsX3_lookWhereItCameBy wsX3_stopOf := gI wd_544
theorem gX3_lookWhereItCameBy_X3_stopOf : GoodIn wsX3_lookWhereItCameBy (wsV RX3 93 RX3 yX3_stopOf wsX3_stopOf) := gE wd_116 wd_117 wd_118 wd_98 wd_544
theorem ggX3_lookWhereItCameBy_X0_dayOf : GoodIn wsX3_lookWhereItCameBy wsX0_dayOf := gI wd_545
theorem gX3_lookWhereItCameBy_X0_dayOf : GoodIn wsX3_lookWhereItCameBy (wsV RX3 96 RX0 yX0_dayOf wsX0_dayOf) := gE wd_119 wd_120 wd_121 wd_19 wd_545
theorem ggX3_lookWhatComes_X3_haltsEnd : GoodIn wsX3_lookWhatComes wsX3_haltsEnd := gI wd_538
theorem gX3_lookWhatComes_X3_haltsEnd : GoodIn wsX3_lookWhatComes (wsV RX3 67 RX3 yX3_haltsEnd wsX3_haltsEnd) := gE wd_110 wd_111 wd_112 wd_98 wd_538
theorem ggX3_lookWhatComes_X3_haltsBegin : GoodIn wsX3_lookWhatComes wsX3_haltsBegin := gI wd_537
theorem gX3_lookWhatComes_X3_haltsBegin : GoodIn wsX3_lookWhatComes (wsV RX3 63 RX3 yX3_haltsBegin wsX3_haltsBegin) := gE wd_107 wd_108 wd_109 wd_98 wd_537
theorem ggX3_lookWhatComes_X3_cartOf : GoodIn wsX3_lookWhatComes wsX3_cartOf := gI wd_543
theorem gX3_lookWhatComes_X3_cartOf : GoodIn wsX3_lookWhatComes (wsV RX3 90 RX3 yX3_cartOf wsX3_cartOf) := gE wd_113 wd_114 wd_115 wd_98 wd_543
theorem ggX3_lookWhatComes_X3_stopOf : GoodIn wsX3_lookWhatComes wsX3_stopOf := gI wd_544
theorem gX3_lookWhatComes_X3_stopOf : GoodIn wsX3_lookWhatComes (wsV RX3 93 RX3 yX3_stopOf wsX3_stopOf) := gE wd_116 wd_117 wd_118 wd_98 wd_544
theorem ggX3_lookWhatComes_X0_dayOf : GoodIn wsX3_lookWhatComes wsX0_dayOf := gI wd_545
theorem gX3_lookWhatComes_X0_dayOf : GoodIn wsX3_lookWhatComes (wsV RX3 96 RX0 yX0_dayOf wsX0_dayOf) := gE wd_119 wd_120 wd_121 wd_19 wd_545
theorem ggX3_lookWhatComes_X0_goesOn : GoodIn wsX3_lookWhatComes wsX0_goesOn := gI wd_546
theorem gX3_lookWhatComes_X0_goesOn : GoodIn wsX3_lookWhatComes (wsV RX3 100 RX0 yX0_goesOn wsX0_goesOn) := gE wd_122 wd_123 wd_124 wd_19 wd_546
theorem ggX4_init_X3_init : GoodIn wsX4_init wsX3_init := gI wd_550
theorem gX4_init_X3_init : GoodIn wsX4_init wsX3_init := gI wd_550
theorem ggX4_init_X1_init : GoodIn wsX4_init wsX1_init := gI wd_551
theorem gX4_init_X1_init : GoodIn wsX4_init wsX1_init := gI wd_551
theorem ggX4_init_X2_init : GoodIn wsX4_init wsX2_init := gI wd_552
theorem gX4_init_X2_init_n39 : GoodIn wsX4_init wsX2_init := gI wd_552
theorem ggX4_cart_X4_areTerms : GoodIn wsX4_cart wsX4_areTerms := gI wd_553
theorem gX4_cart_X4_areTerms : GoodIn wsX4_cart (va_wsS RX4 40 yX4_areTerms wsX4_areTerms) := gS wd_169 wd_170 wd_15 wd_553
theorem hdS_X4_areTerms : yX4_areTerms.cls ≠ "java/lang/invoke/MethodHandle" ∧ yX4_areTerms.cls ≠ "java/lang/invoke/VarHandle" ∧ (parseMethodDescriptor yX4_areTerms.desc).map (fun d => d.parameters.length) = some 3 := by decide +kernel
theorem ggX4_cart_X4_isIn : GoodIn wsX4_cart wsX4_isIn := gI wd_522
theorem gX4_cart_X4_isIn : GoodIn wsX4_cart (va_wsS RX4 44 yX4_isIn wsX4_isIn) := gS wd_165 wd_14 wd_15 wd_522
theorem hdS_X4_isIn : yX4_isIn.cls ≠ "java/lang/invoke/MethodHandle" ∧ yX4_isIn.cls ≠ "java/lang/invoke/VarHandle" ∧ (parseMethodDescriptor yX4_isIn.desc).map (fun d => d.parameters.length) = some 3 := by decide +kernel
theorem ggX4_cart_X4_isPlace : GoodIn wsX4_cart wsX4_isPlace := gI wd_554
theorem gX4_cart_X4_isPlace : GoodIn wsX4_cart (va_wsS RX4 47 yX4_isPlace wsX4_isPlace) := gS wd_171 wd_172 wd_15 wd_554
theorem hdS_X4_isPlace : yX4_isPlace.cls ≠ "java/lang/invoke/MethodHandle" ∧ yX4_isPlace.cls ≠ "java/lang/invoke/VarHandle" ∧ (parseMethodDescriptor yX4_isPlace.desc).map (fun d => d.parameters.length) = some 1 := by decide +kernel
theorem ggX4_cart_X0_setTerms : GoodIn wsX4_cart wsX0_setTerms := gI wd_555
theorem gX4_cart_X0_setTerms : GoodIn wsX4_cart (wsV RX4 63 RX0 yX0_setTerms wsX0_setTerms) := gE wd_173 wd_174 wd_175 wd_19 wd_555
theorem hdV_X0_setTerms : yX0_setTerms.cls = RX0 ∧ yX0_setTerms.cls ≠ "java/lang/invoke/MethodHandle" ∧ yX0_setTerms.cls ≠ "java/lang/invoke/VarHandle" ∧ (parseMethodDescriptor yX0_setTerms.desc).map (fun d => d.parameters.length) = some 3 := by decide +kernel
theorem ggX4_cart_X3_addStop : GoodIn wsX4_cart wsX3_addStop := gI wd_556
theorem gX4_cart_X3_addStop : GoodIn wsX4_cart (wsV RX4 67 RX3 yX3_addStop wsX3_addStop) := gE wd_176 wd_177 wd_178 wd_98 wd_556
theorem hdV_X3_addStop : yX3_addStop.cls = RX3 ∧ yX3_addStop.cls ≠ "java/lang/invoke/MethodHandle" ∧ yX3_addStop.cls ≠ "java/lang/invoke/VarHandle" ∧ (parseMethodDescriptor yX3_addStop.desc).map (fun d => d.parameters.length) = some 3 := by decide +kernel
theorem ggX4_stop_X4_isCart : GoodIn wsX4_stop wsX4_isCart := gI wd_557
theorem gX4_stop_X4_isCart : GoodIn wsX4_stop (wsV RX4 70 RX4 yX4_isCart wsX4_isCart) := gE wd_180 wd_181 wd_182 wd_15 wd_557
theorem hdV_X4_isCart : yX4_isCart.cls = RX4 ∧ yX4_isCart.cls ≠ "java/lang/invoke/MethodHandle" ∧ yX4_isCart.cls ≠ "java/lang/invoke/VarHandle" ∧ (parseMethodDescriptor yX4_isCart.desc).map (fun d => d.parameters.length) = some 1 := by decide +kernel
theorem ggX4_stop_X4_isPlace : GoodIn wsX4_stop wsX4_isPlace := gI wd_554
theorem gX4_stop_X4_isPlace : GoodIn wsX4_stop (va_wsS RX4 47 yX4_isPlace wsX4_isPlace) := gS wd_171 wd_172 wd_15 wd_554
theorem ggX4_stop_X0_lastOffset : GoodIn wsX4_stop wsX0_lastOffset := gI wd_558
theorem gX4_stop_X0_lastOffset : GoodIn wsX4_stop (wsV RX4 76 RX0 yX0_lastOffset wsX0_lastOffset) := gE wd_183 wd_184 wd_185 wd_19 wd_558
theorem hdV_X0_lastOffset : yX0_lastOffset.cls = RX0 ∧ yX0_lastOffset.cls ≠ "java/lang/invoke/MethodHandle" ∧ yX0_lastOffset.cls ≠ "java/lang/invoke/VarHandle" ∧ (parseMethodDescriptor yX0_lastOffset.desc).map (fun d => d.parameters.length) = some 0 := by decide +kernel
theorem ggX4_stop_X0_isLaden : GoodIn wsX4_stop wsX0_isLaden := gI wd_559
theorem gX4_stop_X0_isLaden : GoodIn wsX4_stop (wsV RX4 80 RX0 yX0_isLaden wsX0_isLaden) := gE wd_186 wd_187 wd_188 wd_19 wd_559
theorem hdV_X0_isLaden : yX0_isLaden.cls = RX0 ∧ yX0_isLaden.cls ≠ "java/lang/invoke/MethodHandle" ∧ yX0_isLaden.cls ≠ "java/lang/invoke/VarHandle" ∧ (parseMethodDescriptor yX0_isLaden.desc).map (fun d => d.parameters.length) = some 0 := by decide +kernel
theorem ggX4_stop_X3_addStop : GoodIn wsX4_stop wsX3_addStop := gI wd_556
theorem gX4_stop_X3_addStop : GoodIn wsX4_stop (wsV RX4 67 RX3 yX3_addStop wsX3_addStop) := gE wd_176 wd_177 wd_178 wd_98 wd_556
theorem ggX4_change_X4_isCart : GoodIn wsX4_change wsX4_isCart := gI wd_557
theorem gX4_change_X4_isCart : GoodIn wsX4_change (wsV RX4 70 RX4 yX4_isCart wsX4_isCart) := gE wd_180 wd_181 wd_182 wd_15 wd_557
theorem ggX4_change_X4_areTerms : GoodIn wsX4_change wsX4_areTerms := gI wd_553
theorem gX4_change_X4_areTerms : GoodIn wsX4_change (va_wsS RX4 40 yX4_areTerms wsX4_areTerms) := gS wd_169 wd_170 wd_15 wd_553
theorem ggX4_change_X0_isLaden : GoodIn wsX4_change wsX0_isLaden := gI wd_559
theorem gX4_change_X0_isLaden : GoodIn wsX4_change (wsV RX4 80 RX0 yX0_isLaden wsX0_isLaden) := gE wd_186 wd_187 wd_188 wd_19 wd_559
theorem ggX4_change_X0_setTerms : GoodIn wsX4_change wsX0_setTerms := gI wd_555
theorem gX4_change_X0_setTerms : GoodIn wsX4_change (wsV RX4 63 RX0 yX0_setTerms wsX0_setTerms) := gE wd_173 wd_174 wd_175 wd_19 wd_555
theorem ggX4_change_X3_renew : GoodIn wsX4_change wsX3_renew := gI wd_536
theorem gX4_change_X3_renew : GoodIn wsX4_change (wsV RX4 84 RX3 yX3_renew wsX3_renew) := gE wd_189 wd_105 wd_106 wd_98 wd_536
theorem ggX4_snow_X4_isCart : GoodIn wsX4_snow wsX4_isCart := gI wd_557
theorem gX4_snow_X4_isCart : GoodIn wsX4_snow (wsV RX4 70 RX4 yX4_isCart wsX4_isCart) := gE wd_180 wd_181 wd_182 wd_15 wd_557
theorem ggX4_snow_X4_isIn : GoodIn wsX4_snow wsX4_isIn := gI wd_522
theorem gX4_snow_X4_isIn : GoodIn wsX4_snow (va_wsS RX4 44 yX4_isIn wsX4_isIn) := gS wd_165 wd_14 wd_15 wd_522
theorem ggX4_snow_X0_isSnowedIn : GoodIn wsX4_snow wsX0_isSnowedIn := gI wd_560
theorem gX4_snow_X0_isSnowedIn : GoodIn wsX4_snow (wsV RX4 87 RX0 yX0_isSnowedIn wsX0_isSnowedIn) := gE wd_190 wd_191 wd_192 wd_19 wd_560
theorem hdV_X0_isSnowedIn : yX0_isSnowedIn.cls = RX0 ∧ yX0_isSnowedIn.cls ≠ "java/lang/invoke/MethodHandle" ∧ yX0_isSnowedIn.cls ≠ "java/lang/invoke/VarHandle" ∧ (parseMethodDescriptor yX0_isSnowedIn.desc).map (fun d => d.parameters.length) = some 1 := by decide +kernel
theorem ggX4_snow_X0_addSnow : GoodIn wsX4_snow wsX0_addSnow := gI wd_561
theorem gX4_snow_X0_addSnow : GoodIn wsX4_snow (wsV RX4 90 RX0 yX0_addSnow wsX0_addSnow) := gE wd_193 wd_194 wd_195 wd_19 wd_561
theorem hdV_X0_addSnow : yX0_addSnow.cls = RX0 ∧ yX0_addSnow.cls ≠ "java/lang/invoke/MethodHandle" ∧ yX0_addSnow.cls ≠ "java/lang/invoke/VarHandle" ∧ (parseMethodDescriptor yX0_addSnow.desc).map (fun d => d.parameters.length) = some 1 := by decide +kernel
theorem ggX4_snow_X3_renew : GoodIn wsX4_snow wsX3_renew := gI wd_536
theorem gX4_snow_X3_renew : GoodIn wsX4_snow (wsV RX4 84 RX3 yX3_renew wsX3_renew) := gE wd_189 wd_105 wd_106 wd_98 wd_536
theorem ggX4_runs_X4_isCart : GoodIn wsX4_runs wsX4_isCart := gI wd_557
theorem gX4_runs_X4_isCart : GoodIn wsX4_runs (wsV RX4 70 RX4 yX4_isCart wsX4_isCart) := gE wd_180 wd_181 wd_182 wd_15 wd_557
theorem ggX4_runs_X4_isIn : GoodIn wsX4_runs wsX4_isIn := gI wd_522
theorem gX4_runs_X4_isIn : GoodIn wsX4_runs (va_wsS RX4 44 yX4_isIn wsX4_isIn) := gS wd_165 wd_14 wd_15 wd_522
theorem ggX4_runs_X0_goesOn : GoodIn wsX4_runs wsX0_goesOn := gI wd_546
theorem gX4_runs_X0_goesOn : GoodIn wsX4_runs (wsV RX4 94 RX0 yX0_goesOn wsX0_goesOn) := gE wd_196 wd_123 wd_124 wd_19 wd_546
theorem ggX4_fares_X4_isCart : GoodIn wsX4_fares wsX4_isCart := gI wd_557
theorem gX4_fares_X4_isCart : GoodIn wsX4_fares (wsV RX4 70 RX4 yX4_isCart wsX4_isCart) := gE wd_180 wd_181 wd_182 wd_15 wd_557
theorem ggX4_room_X4_isCart : GoodIn wsX4_room wsX4_isCart := gI wd_557
theorem gX4_room_X4_isCart : GoodIn wsX4_room (wsV RX4 70 RX4 yX4_isCart wsX4_isCart) := gE wd_180 wd_181 wd_182 wd_15 wd_557
theorem ggX4_room_X0_goesOn : GoodIn wsX4_room wsX0_goesOn := gI wd_546
theorem gX4_room_X0_goesOn : GoodIn wsX4_room (wsV RX4 94 RX0 yX0_goesOn wsX0_goesOn) := gE wd_196 wd_123 wd_124 wd_19 wd_546
theorem ggX4_room_X0_roomLeft : GoodIn wsX4_room wsX0_roomLeft := gI wd_562
theorem gX4_room_X0_roomLeft : GoodIn wsX4_room (wsV RX4 100 RX0 yX0_roomLeft wsX0_roomLeft) := gE wd_198 wd_199 wd_200 wd_19 wd_562
theorem hdV_X0_roomLeft : yX0_roomLeft.cls = RX0 ∧ yX0_roomLeft.cls ≠ "java/lang/invoke/MethodHandle" ∧ yX0_roomLeft.cls ≠ "java/lang/invoke/VarHandle" ∧ (parseMethodDescriptor yX0_roomLeft.desc).map (fun d => d.parameters.length) = some 1 := by decide +kernel
theorem ggX4_soon_X4_isPlace : GoodIn wsX4_soon wsX4_isPlace := gI wd_554
theorem gX4_soon_X4_isPlace : GoodIn wsX4_soon (va_wsS RX4 47 yX4_isPlace wsX4_isPlace) := gS wd_171 wd_172 wd_15 wd_554
theorem ggX4_soon_X4_isIn : GoodIn wsX4_soon wsX4_isIn := gI wd_522
theorem gX4_soon_X4_isIn : GoodIn wsX4_soon (va_wsS RX4 44 yX4_isIn wsX4_isIn) := gS wd_165 wd_14 wd_15 wd_522
theorem ggX4_soon_X3_soonest : GoodIn wsX4_soon wsX3_soonest := gI wd_563
theorem gX4_soon_X3_soonest : GoodIn wsX4_soon (wsV RX4 104 RX3 yX3_soonest wsX3_soonest) := gE wd_201 wd_202 wd_203 wd_98 wd_563
theorem hdV_X3_soonest : yX3_soonest.cls = RX3 ∧ yX3_soonest.cls ≠ "java/lang/invoke/MethodHandle" ∧ yX3_soonest.cls ≠ "java/lang/invoke/VarHandle" ∧ (parseMethodDescriptor yX3_soonest.desc).map (fun d => d.parameters.length) = some 4 := by decide +kernel
theorem ggX4_reach_X4_isPlace : GoodIn wsX4_reach wsX4_isPlace := gI wd_554
theorem gX4_reach_X4_isPlace : GoodIn wsX4_reach (va_wsS RX4 47 yX4_isPlace wsX4_isPlace) := gS wd_171 wd_172 wd_15 wd_554
theorem ggX4_reach_X4_isIn : GoodIn wsX4_reach wsX4_isIn := gI wd_522
theorem gX4_reach_X4_isIn : GoodIn wsX4_reach (va_wsS RX4 44 yX4_isIn wsX4_isIn) := gS wd_165 wd_14 wd_15 wd_522
theorem ggX4_reach_X3_soonest : GoodIn wsX4_reach wsX3_soonest := gI wd_563
theorem gX4_reach_X3_soonest : GoodIn wsX4_reach (wsV RX4 104 RX3 yX3_soonest wsX3_soonest) := gE wd_201 wd_202 wd_203 wd_98 wd_563
theorem ggX4_cut_X4_isCart : GoodIn wsX4_cut wsX4_isCart := gI wd_557
theorem gX4_cut_X4_isCart : GoodIn wsX4_cut (wsV RX4 70 RX4 yX4_isCart wsX4_isCart) := gE wd_180 wd_181 wd_182 wd_15 wd_557
theorem ggX4_cut_X4_isPlace : GoodIn wsX4_cut wsX4_isPlace := gI wd_554
theorem gX4_cut_X4_isPlace : GoodIn wsX4_cut (va_wsS RX4 47 yX4_isPlace wsX4_isPlace) := gS wd_171 wd_172 wd_15 wd_554
theorem ggX4_cut_X4_isIn : GoodIn wsX4_cut wsX4_isIn := gI wd_522
theorem gX4_cut_X4_isIn : GoodIn wsX4_cut (va_wsS RX4 44 yX4_isIn wsX4_isIn) := gS wd_165 wd_14 wd_15 wd_522
theorem ggX4_cut_X3_startsFor : GoodIn wsX4_cut wsX3_startsFor := gI wd_564
theorem gX4_cut_X3_startsFor : GoodIn wsX4_cut (wsV RX4 115 RX3 yX3_startsFor wsX3_startsFor) := gE wd_206 wd_207 wd_208 wd_98 wd_564
theorem hdV_X3_startsFor : yX3_startsFor.cls = RX3 ∧ yX3_startsFor.cls ≠ "java/lang/invoke/MethodHandle" ∧ yX3_startsFor.cls ≠ "java/lang/invoke/VarHandle" ∧ (parseMethodDescriptor yX3_startsFor.desc).map (fun d => d.parameters.length) = some 3 := by decide +kernel
theorem ggX4_parcel_X4_isPlace : GoodIn wsX4_parcel wsX4_isPlace := gI wd_554
theorem gX4_parcel_X4_isPlace : GoodIn wsX4_parcel (va_wsS RX4 47 yX4_isPlace wsX4_isPlace) := gS wd_171 wd_172 wd_15 wd_554
theorem ggX4_parcel_X4_isIn : GoodIn wsX4_parcel wsX4_isIn := gI wd_522
theorem gX4_parcel_X4_isIn : GoodIn wsX4_parcel (va_wsS RX4 44 yX4_isIn wsX4_isIn) := gS wd_165 wd_14 wd_15 wd_522
theorem ggX4_parcel_X2_give : GoodIn wsX4_parcel wsX2_give := gI wd_565
theorem gX4_parcel_X2_give : GoodIn wsX4_parcel (wsV RX4 119 RX2 yX2_give wsX2_give) := gE wd_209 wd_210 wd_211 wd_159 wd_565
theorem hdV_X2_give : yX2_give.cls = RX2 ∧ yX2_give.cls ≠ "java/lang/invoke/MethodHandle" ∧ yX2_give.cls ≠ "java/lang/invoke/VarHandle" ∧ (parseMethodDescriptor yX2_give.desc).map (fun d => d.parameters.length) = some 3 := by decide +kernel
theorem ggX4_tick_X4_isIn : GoodIn wsX4_tick wsX4_isIn := gI wd_522
theorem gX4_tick_X4_isIn : GoodIn wsX4_tick (va_wsS RX4 44 yX4_isIn wsX4_isIn) := gS wd_165 wd_14 wd_15 wd_522
theorem ggX4_tick_X4_unloadParcels : GoodIn wsX4_tick wsX4_unloadParcels := gI wd_566
theorem gX4_tick_X4_unloadParcels : GoodIn wsX4_tick (wsV RX4 122 RX4 yX4_unloadParcels wsX4_unloadParcels) := gE wd_256 wd_257 wd_258 wd_15 wd_566
theorem hdV_X4_unloadParcels : yX4_unloadParcels.cls = RX4 ∧ yX4_unloadParcels.cls ≠ "java/lang/invoke/MethodHandle" ∧ yX4_unloadParcels.cls ≠ "java/lang/invoke/VarHandle" ∧ (parseMethodDescriptor yX4_unloadParcels.desc).map (fun d => d.parameters.length) = some 0 := by decide +kernel
theorem ggX4_tick_X3_hasHalts : GoodIn wsX4_tick wsX3_hasHalts := gI wd_567
theorem gX4_tick_X3_hasHalts : GoodIn wsX4_tick (wsV RX4 125 RX3 yX3_hasHalts wsX3_hasHalts) := gE wd_259 wd_260 wd_261 wd_98 wd_567
theorem hdV_X3_hasHalts : yX3_hasHalts.cls = RX3 ∧ yX3_hasHalts.cls ≠ "java/lang/invoke/MethodHandle" ∧ yX3_hasHalts.cls ≠ "java/lang/invoke/VarHandle" ∧ (parseMethodDescriptor yX3_hasHalts.desc).map (fun d => d.parameters.length) = some 1 := by decide +kernel
theorem ggX4_tick_X4_loadParcels : GoodIn wsX4_tick wsX4_loadParcels := gI wd_568
theorem gX4_tick_X4_loadParcels : GoodIn wsX4_tick (wsV RX4 128 RX4 yX4_loadParcels wsX4_loadParcels) := gE wd_262 wd_263 wd_264 wd_15 wd_568
theorem hdV_X4_loadParcels : yX4_loadParcels.cls = RX4 ∧ yX4_loadParcels.cls ≠ "java/lang/invoke/MethodHandle" ∧ yX4_loadParcels.cls ≠ "java/lang/invoke/VarHandle" ∧ (parseMethodDescriptor yX4_loadParcels.desc).map (fun d => d.parameters.length) = some 0 := by decide +kernel
theorem ggX4_told_X4_isIn : GoodIn wsX4_told wsX4_isIn := gI wd_522
theorem gX4_told_X4_isIn : GoodIn wsX4_told (va_wsS RX4 44 yX4_isIn wsX4_isIn) := gS wd_165 wd_14 wd_15 wd_522
theorem ggX4_waiting_X4_isPlace : GoodIn wsX4_waiting wsX4_isPlace := gI wd_554
theorem gX4_waiting_X4_isPlace : GoodIn wsX4_waiting (va_wsS RX4 47 yX4_isPlace wsX4_isPlace) := gS wd_171 wd_172 wd_15 wd_554
theorem ggX4_walk_X4_isIn : GoodIn wsX4_walk wsX4_isIn := gI wd_522
theorem gX4_walk_X4_isIn : GoodIn wsX4_walk (va_wsS RX4 44 yX4_isIn wsX4_isIn) := gS wd_165 wd_14 wd_15 wd_522
theorem ggX4_walk_X1_setWalk : GoodIn wsX4_walk wsX1_setWalk := gI wd_569
theorem gX4_walk_X1_setWalk : GoodIn wsX4_walk (wsV RX4 164 RX1 yX1_setWalk wsX1_setWalk) := gE wd_268 wd_269 wd_270 wd_35 wd_569
theorem hdV_X1_setWalk : yX1_setWalk.cls = RX1 ∧ yX1_setWalk.cls ≠ "java/lang/invoke/MethodHandle" ∧ yX1_setWalk.cls ≠ "java/lang/invoke/VarHandle" ∧ (parseMethodDescriptor yX1_setWalk.desc).map (fun d => d.parameters.length) = some 3 := by decide +kernel
theorem ggX4_errand_X4_isIn : GoodIn wsX4_errand wsX4_isIn := gI wd_522
theorem gX4_errand_X4_isIn : GoodIn wsX4_errand (va_wsS RX4 44 yX4_isIn wsX4_isIn) := gS wd_165 wd_14 wd_15 wd_522
theorem ggX4_errand_X1_put : GoodIn wsX4_errand wsX1_put := gI wd_570
theorem gX4_errand_X1_put : GoodIn wsX4_errand (wsV RX4 167 RX1 yX1_put wsX1_put) := gE wd_271 wd_272 wd_273 wd_35 wd_570
theorem hdV_X1_put : yX1_put.cls = RX1 ∧ yX1_put.cls ≠ "java/lang/invoke/MethodHandle" ∧ yX1_put.cls ≠ "java/lang/invoke/VarHandle" ∧ (parseMethodDescriptor yX1_put.desc).map (fun d => d.parameters.length) = some 3 := by decide +kernel
theorem ggX4_clear_X1_empty : GoodIn wsX4_clear wsX1_empty := gI wd_571
theorem gX4_clear_X1_empty : GoodIn wsX4_clear (wsV RX4 170 RX1 yX1_empty wsX1_empty) := gE wd_274 wd_275 wd_276 wd_35 wd_571
theorem hdV_X1_empty : yX1_empty.cls = RX1 ∧ yX1_empty.cls ≠ "java/lang/invoke/MethodHandle" ∧ yX1_empty.cls ≠ "java/lang/invoke/VarHandle" ∧ (parseMethodDescriptor yX1_empty.desc).map (fun d => d.parameters.length) = some 0 := by decide +kernel
theorem ggX4_best_X4_isIn : GoodIn wsX4_best wsX4_isIn := gI wd_522
theorem gX4_best_X4_isIn : GoodIn wsX4_best (va_wsS RX4 44 yX4_isIn wsX4_isIn) := gS wd_165 wd_14 wd_15 wd_522
theorem ggX4_best_X1_choose : GoodIn wsX4_best wsX1_choose := gI wd_572
theorem gX4_best_X1_choose : GoodIn wsX4_best (wsV RX4 173 RX1 yX1_choose wsX1_choose) := gE wd_283 wd_284 wd_285 wd_35 wd_572
theorem hdV_X1_choose : yX1_choose.cls = RX1 ∧ yX1_choose.cls ≠ "java/lang/invoke/MethodHandle" ∧ yX1_choose.cls ≠ "java/lang/invoke/VarHandle" ∧ (parseMethodDescriptor yX1_choose.desc).map (fun d => d.parameters.length) = some 1 := by decide +kernel
theorem ggX4_best_J6_bitCount_0f7a4 : GoodIn wsX4_best wsJ6_bitCount_0f7a4 := gI wd_573
theorem gX4_best_J6_bitCount_0f7a4 : GoodIn wsX4_best (va_wsS RX4 185 yJ6_bitCount_0f7a4 wsJ6_bitCount_0f7a4) := gS wd_286 wd_287 wd_288 wd_573
theorem hdS_J6_bitCount_0f7a4 : yJ6_bitCount_0f7a4.cls ≠ "java/lang/invoke/MethodHandle" ∧ yJ6_bitCount_0f7a4.cls ≠ "java/lang/invoke/VarHandle" ∧ (parseMethodDescriptor yJ6_bitCount_0f7a4.desc).map (fun d => d.parameters.length) = some 1 := by decide +kernel
theorem ggX4_round_X4_isIn : GoodIn wsX4_round wsX4_isIn := gI wd_522
theorem gX4_round_X4_isIn : GoodIn wsX4_round (va_wsS RX4 44 yX4_isIn wsX4_isIn) := gS wd_165 wd_14 wd_15 wd_522
theorem ggX4_round_X1_choose : GoodIn wsX4_round wsX1_choose := gI wd_572
theorem gX4_round_X1_choose : GoodIn wsX4_round (wsV RX4 173 RX1 yX1_choose wsX1_choose) := gE wd_283 wd_284 wd_285 wd_35 wd_572
theorem ggX4_round_X1_chosenShop : GoodIn wsX4_round wsX1_chosenShop := gI wd_574
theorem gX4_round_X1_chosenShop : GoodIn wsX4_round (wsV RX4 190 RX1 yX1_chosenShop wsX1_chosenShop) := gE wd_289 wd_290 wd_291 wd_35 wd_574
theorem hdV_X1_chosenShop : yX1_chosenShop.cls = RX1 ∧ yX1_chosenShop.cls ≠ "java/lang/invoke/MethodHandle" ∧ yX1_chosenShop.cls ≠ "java/lang/invoke/VarHandle" ∧ (parseMethodDescriptor yX1_chosenShop.desc).map (fun d => d.parameters.length) = some 1 := by decide +kernel
theorem ggX4_count_X4_countCome : GoodIn wsX4_count wsX4_countCome := gI wd_575
theorem gX4_count_X4_countCome : GoodIn wsX4_count (wsV RX4 193 RX4 yX4_countCome wsX4_countCome) := gE wd_293 wd_294 wd_295 wd_15 wd_575
theorem hdV_X4_countCome : yX4_countCome.cls = RX4 ∧ yX4_countCome.cls ≠ "java/lang/invoke/MethodHandle" ∧ yX4_countCome.cls ≠ "java/lang/invoke/VarHandle" ∧ (parseMethodDescriptor yX4_countCome.desc).map (fun d => d.parameters.length) = some 0 := by decide +kernel
theorem ggX4_count_X4_countRiding : GoodIn wsX4_count wsX4_countRiding := gI wd_576
theorem gX4_count_X4_countRiding : GoodIn wsX4_count (wsV RX4 196 RX4 yX4_countRiding wsX4_countRiding) := gE wd_296 wd_297 wd_298 wd_15 wd_576
theorem hdV_X4_countRiding : yX4_countRiding.cls = RX4 ∧ yX4_countRiding.cls ≠ "java/lang/invoke/MethodHandle" ∧ yX4_countRiding.cls ≠ "java/lang/invoke/VarHandle" ∧ (parseMethodDescriptor yX4_countRiding.desc).map (fun d => d.parameters.length) = some 0 := by decide +kernel
theorem ggX4_count_X3_earnedInAll : GoodIn wsX4_count wsX3_earnedInAll := gI wd_577
theorem gX4_count_X3_earnedInAll : GoodIn wsX4_count (wsV RX4 199 RX3 yX3_earnedInAll wsX3_earnedInAll) := gE wd_299 wd_300 wd_301 wd_98 wd_577
theorem hdV_X3_earnedInAll : yX3_earnedInAll.cls = RX3 ∧ yX3_earnedInAll.cls ≠ "java/lang/invoke/MethodHandle" ∧ yX3_earnedInAll.cls ≠ "java/lang/invoke/VarHandle" ∧ (parseMethodDescriptor yX3_earnedInAll.desc).map (fun d => d.parameters.length) = some 0 := by decide +kernel
theorem ggX4_count_J6_bitCount_0f7a4 : GoodIn wsX4_count wsJ6_bitCount_0f7a4 := gI wd_573
theorem gX4_count_J6_bitCount_0f7a4 : GoodIn wsX4_count (va_wsS RX4 185 yJ6_bitCount_0f7a4 wsJ6_bitCount_0f7a4) := gS wd_286 wd_287 wd_288 wd_573
theorem ggX4_isPlace_X4_isIn : GoodIn wsX4_isPlace wsX4_isIn := gI wd_522
theorem gX4_isPlace_X4_isIn : GoodIn wsX4_isPlace (va_wsS RX4 44 yX4_isIn wsX4_isIn) := gS wd_165 wd_14 wd_15 wd_522
theorem ggX4_isCart_X4_isIn : GoodIn wsX4_isCart wsX4_isIn := gI wd_522
theorem gX4_isCart_X4_isIn : GoodIn wsX4_isCart (va_wsS RX4 44 yX4_isIn wsX4_isIn) := gS wd_165 wd_14 wd_15 wd_522
theorem ggX4_areTerms_X4_isIn : GoodIn wsX4_areTerms wsX4_isIn := gI wd_522
theorem gX4_areTerms_X4_isIn : GoodIn wsX4_areTerms (va_wsS RX4 44 yX4_isIn wsX4_isIn) := gS wd_165 wd_14 wd_15 wd_522
theorem ggX4_unloadParcels_X0_unload : GoodIn wsX4_unloadParcels wsX0_unload := gI wd_578
theorem gX4_unloadParcels_X0_unload : GoodIn wsX4_unloadParcels (wsV RX4 205 RX0 yX0_unload wsX0_unload) := gE wd_216 wd_217 wd_218 wd_19 wd_578
theorem hdV_X0_unload : yX0_unload.cls = RX0 ∧ yX0_unload.cls ≠ "java/lang/invoke/MethodHandle" ∧ yX0_unload.cls ≠ "java/lang/invoke/VarHandle" ∧ (parseMethodDescriptor yX0_unload.desc).map (fun d => d.parameters.length) = some 2 := by decide +kernel
theorem ggX4_unloadParcels_X2_leave : GoodIn wsX4_unloadParcels wsX2_leave := gI wd_579
theorem gX4_unloadParcels_X2_leave : GoodIn wsX4_unloadParcels (wsV RX4 209 RX2 yX2_leave wsX2_leave) := gE wd_219 wd_220 wd_221 wd_159 wd_579
theorem hdV_X2_leave : yX2_leave.cls = RX2 ∧ yX2_leave.cls ≠ "java/lang/invoke/MethodHandle" ∧ yX2_leave.cls ≠ "java/lang/invoke/VarHandle" ∧ (parseMethodDescriptor yX2_leave.desc).map (fun d => d.parameters.length) = some 1 := by decide +kernel
theorem ggX4_loadParcels_X4_seekRide : GoodIn wsX4_loadParcels wsX4_seekRide := gI wd_580
theorem gX4_loadParcels_X4_seekRide : GoodIn wsX4_loadParcels (wsV RX4 212 RX4 yX4_seekRide wsX4_seekRide) := gE wd_253 wd_254 wd_255 wd_15 wd_580
theorem hdV_X4_seekRide : yX4_seekRide.cls = RX4 ∧ yX4_seekRide.cls ≠ "java/lang/invoke/MethodHandle" ∧ yX4_seekRide.cls ≠ "java/lang/invoke/VarHandle" ∧ (parseMethodDescriptor yX4_seekRide.desc).map (fun d => d.parameters.length) = some 1 := by decide +kernel
theorem ggX4_seekRide_X3_haltsEnd : GoodIn wsX4_seekRide wsX3_haltsEnd := gI wd_538
theorem gX4_seekRide_X3_haltsEnd : GoodIn wsX4_seekRide (wsV RX4 216 RX3 yX3_haltsEnd wsX3_haltsEnd) := gE wd_231 wd_111 wd_112 wd_98 wd_538
theorem ggX4_seekRide_X3_haltsBegin : GoodIn wsX4_seekRide wsX3_haltsBegin := gI wd_537
theorem gX4_seekRide_X3_haltsBegin : GoodIn wsX4_seekRide (wsV RX4 219 RX3 yX3_haltsBegin wsX3_haltsBegin) := gE wd_232 wd_108 wd_109 wd_98 wd_537
theorem ggX4_seekRide_X3_cartOf : GoodIn wsX4_seekRide wsX3_cartOf := gI wd_543
theorem gX4_seekRide_X3_cartOf : GoodIn wsX4_seekRide (wsV RX4 222 RX3 yX3_cartOf wsX3_cartOf) := gE wd_233 wd_114 wd_115 wd_98 wd_543
theorem ggX4_seekRide_X3_stopOf : GoodIn wsX4_seekRide wsX3_stopOf := gI wd_544
theorem gX4_seekRide_X3_stopOf : GoodIn wsX4_seekRide (wsV RX4 225 RX3 yX3_stopOf wsX3_stopOf) := gE wd_234 wd_117 wd_118 wd_98 wd_544
theorem ggX4_seekRide_X0_dayOf : GoodIn wsX4_seekRide wsX0_dayOf := gI wd_545
theorem gX4_seekRide_X0_dayOf : GoodIn wsX4_seekRide (wsV RX4 228 RX0 yX0_dayOf wsX0_dayOf) := gE wd_235 wd_120 wd_121 wd_19 wd_545
theorem ggX4_seekRide_X0_takesFrom : GoodIn wsX4_seekRide wsX0_takesFrom := gI wd_581
theorem gX4_seekRide_X0_takesFrom : GoodIn wsX4_seekRide (wsV RX4 232 RX0 yX0_takesFrom wsX0_takesFrom) := gE wd_236 wd_237 wd_238 wd_19 wd_581
theorem hdV_X0_takesFrom : yX0_takesFrom.cls = RX0 ∧ yX0_takesFrom.cls ≠ "java/lang/invoke/MethodHandle" ∧ yX0_takesFrom.cls ≠ "java/lang/invoke/VarHandle" ∧ (parseMethodDescriptor yX0_takesFrom.desc).map (fun d => d.parameters.length) = some 2 := by decide +kernel
theorem ggX4_seekRide_X0_goesOn : GoodIn wsX4_seekRide wsX0_goesOn := gI wd_546
theorem gX4_seekRide_X0_goesOn : GoodIn wsX4_seekRide (wsV RX4 94 RX0 yX0_goesOn wsX0_goesOn) := gE wd_196 wd_123 wd_124 wd_19 wd_546
theorem ggX4_seekRide_X0_roomLeft : GoodIn wsX4_seekRide wsX0_roomLeft := gI wd_562
theorem gX4_seekRide_X0_roomLeft : GoodIn wsX4_seekRide (wsV RX4 100 RX0 yX0_roomLeft wsX0_roomLeft) := gE wd_198 wd_199 wd_200 wd_19 wd_562
theorem ggX4_seekRide_X4_renewPlan : GoodIn wsX4_seekRide wsX4_renewPlan := gI wd_582
theorem gX4_seekRide_X4_renewPlan : GoodIn wsX4_seekRide (wsV RX4 236 RX4 yX4_renewPlan wsX4_renewPlan) := gE wd_239 wd_240 wd_241 wd_15 wd_582
theorem hdV_X4_renewPlan : yX4_renewPlan.cls = RX4 ∧ yX4_renewPlan.cls ≠ "java/lang/invoke/MethodHandle" ∧ yX4_renewPlan.cls ≠ "java/lang/invoke/VarHandle" ∧ (parseMethodDescriptor yX4_renewPlan.desc).map (fun d => d.parameters.length) = some 1 := by decide +kernel
theorem ggX4_seekRide_X0_lastInTime : GoodIn wsX4_seekRide wsX0_lastInTime := gI wd_583
theorem gX4_seekRide_X0_lastInTime : GoodIn wsX4_seekRide (wsV RX4 242 RX0 yX0_lastInTime wsX0_lastInTime) := gE wd_242 wd_243 wd_244 wd_19 wd_583
theorem hdV_X0_lastInTime : yX0_lastInTime.cls = RX0 ∧ yX0_lastInTime.cls ≠ "java/lang/invoke/MethodHandle" ∧ yX0_lastInTime.cls ≠ "java/lang/invoke/VarHandle" ∧ (parseMethodDescriptor yX0_lastInTime.desc).map (fun d => d.parameters.length) = some 3 := by decide +kernel
theorem ggX4_seekRide_X0_load : GoodIn wsX4_seekRide wsX0_load := gI wd_584
theorem gX4_seekRide_X0_load : GoodIn wsX4_seekRide (wsV RX4 246 RX0 yX0_load wsX0_load) := gE wd_245 wd_246 wd_247 wd_19 wd_584
theorem hdV_X0_load : yX0_load.cls = RX0 ∧ yX0_load.cls ≠ "java/lang/invoke/MethodHandle" ∧ yX0_load.cls ≠ "java/lang/invoke/VarHandle" ∧ (parseMethodDescriptor yX0_load.desc).map (fun d => d.parameters.length) = some 2 := by decide +kernel
theorem ggX4_seekRide_X0_hourAt : GoodIn wsX4_seekRide wsX0_hourAt := gI wd_523
theorem gX4_seekRide_X0_hourAt : GoodIn wsX4_seekRide (wsV RX4 249 RX0 yX0_hourAt wsX0_hourAt) := gE wd_248 wd_17 wd_18 wd_19 wd_523
theorem ggX4_seekRide_X2_board : GoodIn wsX4_seekRide wsX2_board := gI wd_585
theorem gX4_seekRide_X2_board : GoodIn wsX4_seekRide (wsV RX4 255 RX2 yX2_board wsX2_board) := gE wd_249 wd_250 wd_251 wd_159 wd_585
theorem hdV_X2_board : yX2_board.cls = RX2 ∧ yX2_board.cls ≠ "java/lang/invoke/MethodHandle" ∧ yX2_board.cls ≠ "java/lang/invoke/VarHandle" ∧ (parseMethodDescriptor yX2_board.desc).map (fun d => d.parameters.length) = some 4 := by decide +kernel
theorem ggX4_renewPlan_X3_soonest : GoodIn wsX4_renewPlan wsX3_soonest := gI wd_563
theorem gX4_renewPlan_X3_soonest : GoodIn wsX4_renewPlan (wsV RX4 104 RX3 yX3_soonest wsX3_soonest) := gE wd_201 wd_202 wd_203 wd_98 wd_563
theorem ggX4_renewPlan_J7_fill_53178 : GoodIn wsX4_renewPlan wsJ7_fill_53178 := gI wd_540
theorem gX4_renewPlan_J7_fill_53178 : GoodIn wsX4_renewPlan (va_wsS RX4 268 yJ7_fill_53178 wsJ7_fill_53178) := gS wd_228 wd_126 wd_127 wd_540
theorem ggX4_renewPlan_X3_findLatest : GoodIn wsX4_renewPlan wsX3_findLatest := gI wd_547
theorem gX4_renewPlan_X3_findLatest : GoodIn wsX4_renewPlan (wsV RX4 274 RX3 yX3_findLatest wsX3_findLatest) := gE wd_229 wd_143 wd_144 wd_98 wd_547
theorem ggX5_cart_X5_isIn : GoodIn wsX5_cart wsX5_isIn := gI wd_586
theorem gX5_cart_X5_isIn : GoodIn wsX5_cart (va_wsS RX5 110 yX5_isIn wsX5_isIn) := gS wd_338 wd_339 wd_340 wd_586
theorem hdS_X5_isIn : yX5_isIn.cls ≠ "java/lang/invoke/MethodHandle" ∧ yX5_isIn.cls ≠ "java/lang/invoke/VarHandle" ∧ (parseMethodDescriptor yX5_isIn.desc).map (fun d => d.parameters.length) = some 3 := by decide +kernel
theorem ggX5_cart_X5_isPlace : GoodIn wsX5_cart wsX5_isPlace := gI wd_587
theorem gX5_cart_X5_isPlace : GoodIn wsX5_cart (va_wsS RX5 114 yX5_isPlace wsX5_isPlace) := gS wd_341 wd_342 wd_340 wd_587
theorem hdS_X5_isPlace : yX5_isPlace.cls ≠ "java/lang/invoke/MethodHandle" ∧ yX5_isPlace.cls ≠ "java/lang/invoke/VarHandle" ∧ (parseMethodDescriptor yX5_isPlace.desc).map (fun d => d.parameters.length) = some 1 := by decide +kernel
theorem ggX5_cart_X5_forget : GoodIn wsX5_cart wsX5_forget := gI wd_588
theorem gX5_cart_X5_forget : GoodIn wsX5_cart (wsV RX5 118 RX5 yX5_forget wsX5_forget) := gE wd_343 wd_344 wd_345 wd_340 wd_588
theorem hdV_X5_forget : yX5_forget.cls = RX5 ∧ yX5_forget.cls ≠ "java/lang/invoke/MethodHandle" ∧ yX5_forget.cls ≠ "java/lang/invoke/VarHandle" ∧ (parseMethodDescriptor yX5_forget.desc).map (fun d => d.parameters.length) = some 0 := by decide +kernel
theorem ggX5_stop_X5_isCart : GoodIn wsX5_stop wsX5_isCart := gI wd_589
theorem gX5_stop_X5_isCart : GoodIn wsX5_stop (wsV RX5 121 RX5 yX5_isCart wsX5_isCart) := gE wd_346 wd_347 wd_348 wd_340 wd_589
theorem hdV_X5_isCart : yX5_isCart.cls = RX5 ∧ yX5_isCart.cls ≠ "java/lang/invoke/MethodHandle" ∧ yX5_isCart.cls ≠ "java/lang/invoke/VarHandle" ∧ (parseMethodDescriptor yX5_isCart.desc).map (fun d => d.parameters.length) = some 1 := by decide +kernel
theorem ggX5_stop_X5_isPlace : GoodIn wsX5_stop wsX5_isPlace := gI wd_587
theorem gX5_stop_X5_isPlace : GoodIn wsX5_stop (va_wsS RX5 114 yX5_isPlace wsX5_isPlace) := gS wd_341 wd_342 wd_340 wd_587
theorem ggX5_stop_X5_isBusy : GoodIn wsX5_stop wsX5_isBusy := gI wd_590
theorem gX5_stop_X5_isBusy : GoodIn wsX5_stop (wsV RX5 124 RX5 yX5_isBusy wsX5_isBusy) := gE wd_349 wd_350 wd_351 wd_340 wd_590
theorem hdV_X5_isBusy : yX5_isBusy.cls = RX5 ∧ yX5_isBusy.cls ≠ "java/lang/invoke/MethodHandle" ∧ yX5_isBusy.cls ≠ "java/lang/invoke/VarHandle" ∧ (parseMethodDescriptor yX5_isBusy.desc).map (fun d => d.parameters.length) = some 1 := by decide +kernel
theorem ggX5_stop_X5_isIn : GoodIn wsX5_stop wsX5_isIn := gI wd_586
theorem gX5_stop_X5_isIn : GoodIn wsX5_stop (va_wsS RX5 110 yX5_isIn wsX5_isIn) := gS wd_338 wd_339 wd_340 wd_586
theorem ggX5_stop_X5_forget : GoodIn wsX5_stop wsX5_forget := gI wd_588
theorem gX5_stop_X5_forget : GoodIn wsX5_stop (wsV RX5 118 RX5 yX5_forget wsX5_forget) := gE wd_343 wd_344 wd_345 wd_340 wd_588
theorem ggX5_change_X5_isCart : GoodIn wsX5_change wsX5_isCart := gI wd_589
theorem gX5_change_X5_isCart : GoodIn wsX5_change (wsV RX5 121 RX5 yX5_isCart wsX5_isCart) := gE wd_346 wd_347 wd_348 wd_340 wd_589
theorem ggX5_change_X5_isIn : GoodIn wsX5_change wsX5_isIn := gI wd_586
theorem gX5_change_X5_isIn : GoodIn wsX5_change (va_wsS RX5 110 yX5_isIn wsX5_isIn) := gS wd_338 wd_339 wd_340 wd_586
theorem ggX5_change_X5_isBusy : GoodIn wsX5_change wsX5_isBusy := gI wd_590
theorem gX5_change_X5_isBusy : GoodIn wsX5_change (wsV RX5 124 RX5 yX5_isBusy wsX5_isBusy) := gE wd_349 wd_350 wd_351 wd_340 wd_590
theorem ggX5_change_X5_forget : GoodIn wsX5_change wsX5_forget := gI wd_588
theorem gX5_change_X5_forget : GoodIn wsX5_change (wsV RX5 118 RX5 yX5_forget wsX5_forget) := gE wd_343 wd_344 wd_345 wd_340 wd_588
theorem ggX5_snow_X5_isCart : GoodIn wsX5_snow wsX5_isCart := gI wd_589
theorem gX5_snow_X5_isCart : GoodIn wsX5_snow (wsV RX5 121 RX5 yX5_isCart wsX5_isCart) := gE wd_346 wd_347 wd_348 wd_340 wd_589
theorem ggX5_snow_X5_isIn : GoodIn wsX5_snow wsX5_isIn := gI wd_586
theorem gX5_snow_X5_isIn : GoodIn wsX5_snow (va_wsS RX5 110 yX5_isIn wsX5_isIn) := gS wd_338 wd_339 wd_340 wd_586
theorem ggX5_snow_X5_forget : GoodIn wsX5_snow wsX5_forget := gI wd_588
theorem gX5_snow_X5_forget : GoodIn wsX5_snow (wsV RX5 118 RX5 yX5_forget wsX5_forget) := gE wd_343 wd_344 wd_345 wd_340 wd_588
theorem ggX5_runs_X5_isCart : GoodIn wsX5_runs wsX5_isCart := gI wd_589
theorem gX5_runs_X5_isCart : GoodIn wsX5_runs (wsV RX5 121 RX5 yX5_isCart wsX5_isCart) := gE wd_346 wd_347 wd_348 wd_340 wd_589
theorem ggX5_runs_X5_isIn : GoodIn wsX5_runs wsX5_isIn := gI wd_586
theorem gX5_runs_X5_isIn : GoodIn wsX5_runs (va_wsS RX5 110 yX5_isIn wsX5_isIn) := gS wd_338 wd_339 wd_340 wd_586
theorem ggX5_runs_X5_isRun : GoodIn wsX5_runs wsX5_isRun := gI wd_591
theorem gX5_runs_X5_isRun : GoodIn wsX5_runs (wsV RX5 133 RX5 yX5_isRun wsX5_isRun) := gE wd_354 wd_355 wd_356 wd_340 wd_591
theorem hdV_X5_isRun : yX5_isRun.cls = RX5 ∧ yX5_isRun.cls ≠ "java/lang/invoke/MethodHandle" ∧ yX5_isRun.cls ≠ "java/lang/invoke/VarHandle" ∧ (parseMethodDescriptor yX5_isRun.desc).map (fun d => d.parameters.length) = some 2 := by decide +kernel
theorem ggX5_find_X5_isRun : GoodIn wsX5_find wsX5_isRun := gI wd_591
theorem gX5_find_X5_isRun : GoodIn wsX5_find (wsV RX5 133 RX5 yX5_isRun wsX5_isRun) := gE wd_354 wd_355 wd_356 wd_340 wd_591
theorem ggX5_find_X5_hourOf : GoodIn wsX5_find wsX5_hourOf := gI wd_592
theorem gX5_find_X5_hourOf : GoodIn wsX5_find (wsV RX5 144 RX5 yX5_hourOf wsX5_hourOf) := gE wd_359 wd_360 wd_361 wd_340 wd_592
theorem hdV_X5_hourOf : yX5_hourOf.cls = RX5 ∧ yX5_hourOf.cls ≠ "java/lang/invoke/MethodHandle" ∧ yX5_hourOf.cls ≠ "java/lang/invoke/VarHandle" ∧ (parseMethodDescriptor yX5_hourOf.desc).map (fun d => d.parameters.length) = some 3 := by decide +kernel
theorem ggX5_soonOf_X5_find : GoodIn wsX5_soonOf wsX5_find := gI wd_593
theorem gX5_soonOf_X5_find : GoodIn wsX5_soonOf (wsV RX5 148 RX5 yX5_find wsX5_find) := gE wd_362 wd_363 wd_364 wd_340 wd_593
theorem hdV_X5_find : yX5_find.cls = RX5 ∧ yX5_find.cls ≠ "java/lang/invoke/MethodHandle" ∧ yX5_find.cls ≠ "java/lang/invoke/VarHandle" ∧ (parseMethodDescriptor yX5_find.desc).map (fun d => d.parameters.length) = some 3 := by decide +kernel
theorem ggX5_isHour_X5_isIn : GoodIn wsX5_isHour wsX5_isIn := gI wd_586
theorem gX5_isHour_X5_isIn : GoodIn wsX5_isHour (va_wsS RX5 110 yX5_isIn wsX5_isIn) := gS wd_338 wd_339 wd_340 wd_586
theorem ggX5_soon_X5_isPlace : GoodIn wsX5_soon wsX5_isPlace := gI wd_587
theorem gX5_soon_X5_isPlace : GoodIn wsX5_soon (va_wsS RX5 114 yX5_isPlace wsX5_isPlace) := gS wd_341 wd_342 wd_340 wd_587
theorem ggX5_soon_X5_isHour : GoodIn wsX5_soon wsX5_isHour := gI wd_594
theorem gX5_soon_X5_isHour : GoodIn wsX5_soon (va_wsS RX5 152 yX5_isHour wsX5_isHour) := gS wd_365 wd_366 wd_340 wd_594
theorem hdS_X5_isHour : yX5_isHour.cls ≠ "java/lang/invoke/MethodHandle" ∧ yX5_isHour.cls ≠ "java/lang/invoke/VarHandle" ∧ (parseMethodDescriptor yX5_isHour.desc).map (fun d => d.parameters.length) = some 1 := by decide +kernel
theorem ggX5_soon_X5_soonOf : GoodIn wsX5_soon wsX5_soonOf := gI wd_595
theorem gX5_soon_X5_soonOf : GoodIn wsX5_soon (wsV RX5 155 RX5 yX5_soonOf wsX5_soonOf) := gE wd_367 wd_368 wd_369 wd_340 wd_595
theorem hdV_X5_soonOf : yX5_soonOf.cls = RX5 ∧ yX5_soonOf.cls ≠ "java/lang/invoke/MethodHandle" ∧ yX5_soonOf.cls ≠ "java/lang/invoke/VarHandle" ∧ (parseMethodDescriptor yX5_soonOf.desc).map (fun d => d.parameters.length) = some 3 := by decide +kernel
theorem ggX5_reach_X5_isPlace : GoodIn wsX5_reach wsX5_isPlace := gI wd_587
theorem gX5_reach_X5_isPlace : GoodIn wsX5_reach (va_wsS RX5 114 yX5_isPlace wsX5_isPlace) := gS wd_341 wd_342 wd_340 wd_587
theorem ggX5_reach_X5_isHour : GoodIn wsX5_reach wsX5_isHour := gI wd_594
theorem gX5_reach_X5_isHour : GoodIn wsX5_reach (va_wsS RX5 152 yX5_isHour wsX5_isHour) := gS wd_365 wd_366 wd_340 wd_594
theorem ggX5_reach_X5_soonOf : GoodIn wsX5_reach wsX5_soonOf := gI wd_595
theorem gX5_reach_X5_soonOf : GoodIn wsX5_reach (wsV RX5 155 RX5 yX5_soonOf wsX5_soonOf) := gE wd_367 wd_368 wd_369 wd_340 wd_595
theorem ggX5_cut_X5_isCart : GoodIn wsX5_cut wsX5_isCart := gI wd_589
theorem gX5_cut_X5_isCart : GoodIn wsX5_cut (wsV RX5 121 RX5 yX5_isCart wsX5_isCart) := gE wd_346 wd_347 wd_348 wd_340 wd_589
theorem ggX5_cut_X5_isHour : GoodIn wsX5_cut wsX5_isHour := gI wd_594
theorem gX5_cut_X5_isHour : GoodIn wsX5_cut (va_wsS RX5 152 yX5_isHour wsX5_isHour) := gS wd_365 wd_366 wd_340 wd_594
theorem ggX5_cut_X5_isPlace : GoodIn wsX5_cut wsX5_isPlace := gI wd_587
theorem gX5_cut_X5_isPlace : GoodIn wsX5_cut (va_wsS RX5 114 yX5_isPlace wsX5_isPlace) := gS wd_341 wd_342 wd_340 wd_587
theorem ggX5_cut_X5_soonOf : GoodIn wsX5_cut wsX5_soonOf := gI wd_595
theorem gX5_cut_X5_soonOf : GoodIn wsX5_cut (wsV RX5 155 RX5 yX5_soonOf wsX5_soonOf) := gE wd_367 wd_368 wd_369 wd_340 wd_595
theorem ggX5_cut_X5_find : GoodIn wsX5_cut wsX5_find := gI wd_593
theorem gX5_cut_X5_find : GoodIn wsX5_cut (wsV RX5 148 RX5 yX5_find wsX5_find) := gE wd_362 wd_363 wd_364 wd_340 wd_593
theorem ggX5_parcel_X5_isPlace : GoodIn wsX5_parcel wsX5_isPlace := gI wd_587
theorem gX5_parcel_X5_isPlace : GoodIn wsX5_parcel (va_wsS RX5 114 yX5_isPlace wsX5_isPlace) := gS wd_341 wd_342 wd_340 wd_587
theorem ggX5_parcel_X5_isIn : GoodIn wsX5_parcel wsX5_isIn := gI wd_586
theorem gX5_parcel_X5_isIn : GoodIn wsX5_parcel (va_wsS RX5 110 yX5_isIn wsX5_isIn) := gS wd_338 wd_339 wd_340 wd_586
theorem ggX5_seeks_X5_soonOf : GoodIn wsX5_seeks wsX5_soonOf := gI wd_595
theorem gX5_seeks_X5_soonOf : GoodIn wsX5_seeks (wsV RX5 155 RX5 yX5_soonOf wsX5_soonOf) := gE wd_367 wd_368 wd_369 wd_340 wd_595
theorem ggX5_seeks_X5_isRun : GoodIn wsX5_seeks wsX5_isRun := gI wd_591
theorem gX5_seeks_X5_isRun : GoodIn wsX5_seeks (wsV RX5 133 RX5 yX5_isRun wsX5_isRun) := gE wd_354 wd_355 wd_356 wd_340 wd_591
theorem ggX5_seeks_X5_roomLeft : GoodIn wsX5_seeks wsX5_roomLeft := gI wd_596
theorem gX5_seeks_X5_roomLeft : GoodIn wsX5_seeks (wsV RX5 158 RX5 yX5_roomLeft wsX5_roomLeft) := gE wd_370 wd_371 wd_372 wd_340 wd_596
theorem hdV_X5_roomLeft : yX5_roomLeft.cls = RX5 ∧ yX5_roomLeft.cls ≠ "java/lang/invoke/MethodHandle" ∧ yX5_roomLeft.cls ≠ "java/lang/invoke/VarHandle" ∧ (parseMethodDescriptor yX5_roomLeft.desc).map (fun d => d.parameters.length) = some 2 := by decide +kernel
theorem ggX5_seeks_X5_hourOf : GoodIn wsX5_seeks wsX5_hourOf := gI wd_592
theorem gX5_seeks_X5_hourOf : GoodIn wsX5_seeks (wsV RX5 144 RX5 yX5_hourOf wsX5_hourOf) := gE wd_359 wd_360 wd_361 wd_340 wd_592
theorem ggX5_goesBy_X5_seeks : GoodIn wsX5_goesBy wsX5_seeks := gI wd_597
theorem gX5_goesBy_X5_seeks : GoodIn wsX5_goesBy (wsV RX5 161 RX5 yX5_seeks wsX5_seeks) := gE wd_373 wd_374 wd_375 wd_340 wd_597
theorem hdV_X5_seeks : yX5_seeks.cls = RX5 ∧ yX5_seeks.cls ≠ "java/lang/invoke/MethodHandle" ∧ yX5_seeks.cls ≠ "java/lang/invoke/VarHandle" ∧ (parseMethodDescriptor yX5_seeks.desc).map (fun d => d.parameters.length) = some 1 := by decide +kernel
theorem ggX5_tick_X5_isIn : GoodIn wsX5_tick wsX5_isIn := gI wd_586
theorem gX5_tick_X5_isIn : GoodIn wsX5_tick (va_wsS RX5 110 yX5_isIn wsX5_isIn) := gS wd_338 wd_339 wd_340 wd_586
theorem ggX5_tick_X5_goesBy : GoodIn wsX5_tick wsX5_goesBy := gI wd_598
theorem gX5_tick_X5_goesBy : GoodIn wsX5_tick (wsV RX5 165 RX5 yX5_goesBy wsX5_goesBy) := gE wd_376 wd_377 wd_378 wd_340 wd_598
theorem hdV_X5_goesBy : yX5_goesBy.cls = RX5 ∧ yX5_goesBy.cls ≠ "java/lang/invoke/MethodHandle" ∧ yX5_goesBy.cls ≠ "java/lang/invoke/VarHandle" ∧ (parseMethodDescriptor yX5_goesBy.desc).map (fun d => d.parameters.length) = some 0 := by decide +kernel
theorem ggX5_told_X5_isIn : GoodIn wsX5_told wsX5_isIn := gI wd_586
theorem gX5_told_X5_isIn : GoodIn wsX5_told (va_wsS RX5 110 yX5_isIn wsX5_isIn) := gS wd_338 wd_339 wd_340 wd_586
theorem ggX5_waiting_X5_isPlace : GoodIn wsX5_waiting wsX5_isPlace := gI wd_587
theorem gX5_waiting_X5_isPlace : GoodIn wsX5_waiting (va_wsS RX5 114 yX5_isPlace wsX5_isPlace) := gS wd_341 wd_342 wd_340 wd_587
theorem ggX5_fares_X5_isCart : GoodIn wsX5_fares wsX5_isCart := gI wd_589
theorem gX5_fares_X5_isCart : GoodIn wsX5_fares (wsV RX5 121 RX5 yX5_isCart wsX5_isCart) := gE wd_346 wd_347 wd_348 wd_340 wd_589
theorem ggX5_room_X5_isCart : GoodIn wsX5_room wsX5_isCart := gI wd_589
theorem gX5_room_X5_isCart : GoodIn wsX5_room (wsV RX5 121 RX5 yX5_isCart wsX5_isCart) := gE wd_346 wd_347 wd_348 wd_340 wd_589
theorem ggX5_room_X5_isIn : GoodIn wsX5_room wsX5_isIn := gI wd_586
theorem gX5_room_X5_isIn : GoodIn wsX5_room (va_wsS RX5 110 yX5_isIn wsX5_isIn) := gS wd_338 wd_339 wd_340 wd_586
theorem ggX5_room_X5_isRun : GoodIn wsX5_room wsX5_isRun := gI wd_591
theorem gX5_room_X5_isRun : GoodIn wsX5_room (wsV RX5 133 RX5 yX5_isRun wsX5_isRun) := gE wd_354 wd_355 wd_356 wd_340 wd_591
theorem ggX5_room_X5_roomLeft : GoodIn wsX5_room wsX5_roomLeft := gI wd_596
theorem gX5_room_X5_roomLeft : GoodIn wsX5_room (wsV RX5 158 RX5 yX5_roomLeft wsX5_roomLeft) := gE wd_370 wd_371 wd_372 wd_340 wd_596
theorem ggX5_walk_X5_isIn : GoodIn wsX5_walk wsX5_isIn := gI wd_586
theorem gX5_walk_X5_isIn : GoodIn wsX5_walk (va_wsS RX5 110 yX5_isIn wsX5_isIn) := gS wd_338 wd_339 wd_340 wd_586
theorem ggX5_errand_X5_isIn : GoodIn wsX5_errand wsX5_isIn := gI wd_586
theorem gX5_errand_X5_isIn : GoodIn wsX5_errand (va_wsS RX5 110 yX5_isIn wsX5_isIn) := gS wd_338 wd_339 wd_340 wd_586
theorem ggX5_goes_X5_goes : GoodIn wsX5_goes wsX5_goes := gI wd_599
theorem gX5_goes_X5_goes : GoodIn wsX5_goes (wsV RX5 180 RX5 yX5_goes wsX5_goes) := gE wd_383 wd_384 wd_385 wd_340 wd_599
theorem hdV_X5_goes : yX5_goes.cls = RX5 ∧ yX5_goes.cls ≠ "java/lang/invoke/MethodHandle" ∧ yX5_goes.cls ≠ "java/lang/invoke/VarHandle" ∧ (parseMethodDescriptor yX5_goes.desc).map (fun d => d.parameters.length) = some 4 := by decide +kernel
theorem ggX5_finds_X5_isIn : GoodIn wsX5_finds wsX5_isIn := gI wd_586
theorem gX5_finds_X5_isIn : GoodIn wsX5_finds (va_wsS RX5 110 yX5_isIn wsX5_isIn) := gS wd_338 wd_339 wd_340 wd_586
theorem ggX5_finds_X5_goes : GoodIn wsX5_finds wsX5_goes := gI wd_599
theorem gX5_finds_X5_goes : GoodIn wsX5_finds (wsV RX5 180 RX5 yX5_goes wsX5_goes) := gE wd_383 wd_384 wd_385 wd_340 wd_599
theorem ggX5_best_X5_finds : GoodIn wsX5_best wsX5_finds := gI wd_600
theorem gX5_best_X5_finds : GoodIn wsX5_best (wsV RX5 184 RX5 yX5_finds wsX5_finds) := gE wd_386 wd_387 wd_388 wd_340 wd_600
theorem hdV_X5_finds : yX5_finds.cls = RX5 ∧ yX5_finds.cls ≠ "java/lang/invoke/MethodHandle" ∧ yX5_finds.cls ≠ "java/lang/invoke/VarHandle" ∧ (parseMethodDescriptor yX5_finds.desc).map (fun d => d.parameters.length) = some 1 := by decide +kernel
theorem ggX5_best_X5_isIn : GoodIn wsX5_best wsX5_isIn := gI wd_586
theorem gX5_best_X5_isIn : GoodIn wsX5_best (va_wsS RX5 110 yX5_isIn wsX5_isIn) := gS wd_338 wd_339 wd_340 wd_586
theorem ggX5_round_X5_finds : GoodIn wsX5_round wsX5_finds := gI wd_600
theorem gX5_round_X5_finds : GoodIn wsX5_round (wsV RX5 184 RX5 yX5_finds wsX5_finds) := gE wd_386 wd_387 wd_388 wd_340 wd_600
theorem ggL_law_X4_init : GoodIn wsL_law wsX4_init := gI wd_601
theorem gL_law_X4_init : GoodIn wsL_law wsX4_init := gI wd_601
theorem ggL_law_X5_init : GoodIn wsL_law wsX5_init := gI wd_602
theorem gL_law_X5_init : GoodIn wsL_law wsX5_init := gI wd_602
theorem ggL_law_X4_cart : GoodIn wsL_law wsX4_cart := gI wd_603
theorem gL_law_X4_cart : GoodIn wsL_law (wsV RL 19 RX4 yX4_cart wsX4_cart) := gE wd_402 wd_403 wd_404 wd_15 wd_603
theorem hdV_X4_cart : yX4_cart.cls = RX4 ∧ yX4_cart.cls ≠ "java/lang/invoke/MethodHandle" ∧ yX4_cart.cls ≠ "java/lang/invoke/VarHandle" ∧ (parseMethodDescriptor yX4_cart.desc).map (fun d => d.parameters.length) = some 5 := by decide +kernel
theorem ggL_law_X5_cart : GoodIn wsL_law wsX5_cart := gI wd_604
theorem gL_law_X5_cart : GoodIn wsL_law (wsV RL 23 RX5 yX5_cart wsX5_cart) := gE wd_405 wd_406 wd_407 wd_340 wd_604
theorem hdV_X5_cart : yX5_cart.cls = RX5 ∧ yX5_cart.cls ≠ "java/lang/invoke/MethodHandle" ∧ yX5_cart.cls ≠ "java/lang/invoke/VarHandle" ∧ (parseMethodDescriptor yX5_cart.desc).map (fun d => d.parameters.length) = some 5 := by decide +kernel
theorem ggL_law_X4_stop : GoodIn wsL_law wsX4_stop := gI wd_605
theorem gL_law_X4_stop : GoodIn wsL_law (wsV RL 24 RX4 yX4_stop wsX4_stop) := gE wd_408 wd_409 wd_410 wd_15 wd_605
theorem hdV_X4_stop : yX4_stop.cls = RX4 ∧ yX4_stop.cls ≠ "java/lang/invoke/MethodHandle" ∧ yX4_stop.cls ≠ "java/lang/invoke/VarHandle" ∧ (parseMethodDescriptor yX4_stop.desc).map (fun d => d.parameters.length) = some 3 := by decide +kernel
theorem ggL_law_X5_stop : GoodIn wsL_law wsX5_stop := gI wd_606
theorem gL_law_X5_stop : GoodIn wsL_law (wsV RL 28 RX5 yX5_stop wsX5_stop) := gE wd_411 wd_412 wd_413 wd_340 wd_606
theorem hdV_X5_stop : yX5_stop.cls = RX5 ∧ yX5_stop.cls ≠ "java/lang/invoke/MethodHandle" ∧ yX5_stop.cls ≠ "java/lang/invoke/VarHandle" ∧ (parseMethodDescriptor yX5_stop.desc).map (fun d => d.parameters.length) = some 3 := by decide +kernel
theorem ggL_law_X4_change : GoodIn wsL_law wsX4_change := gI wd_607
theorem gL_law_X4_change : GoodIn wsL_law (wsV RL 29 RX4 yX4_change wsX4_change) := gE wd_414 wd_415 wd_416 wd_15 wd_607
theorem hdV_X4_change : yX4_change.cls = RX4 ∧ yX4_change.cls ≠ "java/lang/invoke/MethodHandle" ∧ yX4_change.cls ≠ "java/lang/invoke/VarHandle" ∧ (parseMethodDescriptor yX4_change.desc).map (fun d => d.parameters.length) = some 4 := by decide +kernel
theorem ggL_law_X5_change : GoodIn wsL_law wsX5_change := gI wd_608
theorem gL_law_X5_change : GoodIn wsL_law (wsV RL 33 RX5 yX5_change wsX5_change) := gE wd_417 wd_418 wd_419 wd_340 wd_608
theorem hdV_X5_change : yX5_change.cls = RX5 ∧ yX5_change.cls ≠ "java/lang/invoke/MethodHandle" ∧ yX5_change.cls ≠ "java/lang/invoke/VarHandle" ∧ (parseMethodDescriptor yX5_change.desc).map (fun d => d.parameters.length) = some 4 := by decide +kernel
theorem ggL_law_X4_snow : GoodIn wsL_law wsX4_snow := gI wd_609
theorem gL_law_X4_snow : GoodIn wsL_law (wsV RL 34 RX4 yX4_snow wsX4_snow) := gE wd_420 wd_421 wd_422 wd_15 wd_609
theorem hdV_X4_snow : yX4_snow.cls = RX4 ∧ yX4_snow.cls ≠ "java/lang/invoke/MethodHandle" ∧ yX4_snow.cls ≠ "java/lang/invoke/VarHandle" ∧ (parseMethodDescriptor yX4_snow.desc).map (fun d => d.parameters.length) = some 2 := by decide +kernel
theorem ggL_law_X5_snow : GoodIn wsL_law wsX5_snow := gI wd_610
theorem gL_law_X5_snow : GoodIn wsL_law (wsV RL 38 RX5 yX5_snow wsX5_snow) := gE wd_423 wd_424 wd_425 wd_340 wd_610
theorem hdV_X5_snow : yX5_snow.cls = RX5 ∧ yX5_snow.cls ≠ "java/lang/invoke/MethodHandle" ∧ yX5_snow.cls ≠ "java/lang/invoke/VarHandle" ∧ (parseMethodDescriptor yX5_snow.desc).map (fun d => d.parameters.length) = some 2 := by decide +kernel
theorem ggL_law_X4_runs : GoodIn wsL_law wsX4_runs := gI wd_611
theorem gL_law_X4_runs : GoodIn wsL_law (wsV RL 39 RX4 yX4_runs wsX4_runs) := gE wd_426 wd_427 wd_428 wd_15 wd_611
theorem hdV_X4_runs : yX4_runs.cls = RX4 ∧ yX4_runs.cls ≠ "java/lang/invoke/MethodHandle" ∧ yX4_runs.cls ≠ "java/lang/invoke/VarHandle" ∧ (parseMethodDescriptor yX4_runs.desc).map (fun d => d.parameters.length) = some 2 := by decide +kernel
theorem ggL_law_X5_runs : GoodIn wsL_law wsX5_runs := gI wd_612
theorem gL_law_X5_runs : GoodIn wsL_law (wsV RL 42 RX5 yX5_runs wsX5_runs) := gE wd_429 wd_430 wd_431 wd_340 wd_612
theorem hdV_X5_runs : yX5_runs.cls = RX5 ∧ yX5_runs.cls ≠ "java/lang/invoke/MethodHandle" ∧ yX5_runs.cls ≠ "java/lang/invoke/VarHandle" ∧ (parseMethodDescriptor yX5_runs.desc).map (fun d => d.parameters.length) = some 2 := by decide +kernel
theorem ggL_law_X4_soon : GoodIn wsL_law wsX4_soon := gI wd_613
theorem gL_law_X4_soon : GoodIn wsL_law (wsV RL 43 RX4 yX4_soon wsX4_soon) := gE wd_432 wd_433 wd_434 wd_15 wd_613
theorem hdV_X4_soon : yX4_soon.cls = RX4 ∧ yX4_soon.cls ≠ "java/lang/invoke/MethodHandle" ∧ yX4_soon.cls ≠ "java/lang/invoke/VarHandle" ∧ (parseMethodDescriptor yX4_soon.desc).map (fun d => d.parameters.length) = some 3 := by decide +kernel
theorem ggL_law_X5_soon : GoodIn wsL_law wsX5_soon := gI wd_614
theorem gL_law_X5_soon : GoodIn wsL_law (wsV RL 46 RX5 yX5_soon wsX5_soon) := gE wd_435 wd_436 wd_437 wd_340 wd_614
theorem hdV_X5_soon : yX5_soon.cls = RX5 ∧ yX5_soon.cls ≠ "java/lang/invoke/MethodHandle" ∧ yX5_soon.cls ≠ "java/lang/invoke/VarHandle" ∧ (parseMethodDescriptor yX5_soon.desc).map (fun d => d.parameters.length) = some 3 := by decide +kernel
theorem ggL_law_X4_reach : GoodIn wsL_law wsX4_reach := gI wd_615
theorem gL_law_X4_reach : GoodIn wsL_law (wsV RL 47 RX4 yX4_reach wsX4_reach) := gE wd_438 wd_439 wd_440 wd_15 wd_615
theorem hdV_X4_reach : yX4_reach.cls = RX4 ∧ yX4_reach.cls ≠ "java/lang/invoke/MethodHandle" ∧ yX4_reach.cls ≠ "java/lang/invoke/VarHandle" ∧ (parseMethodDescriptor yX4_reach.desc).map (fun d => d.parameters.length) = some 3 := by decide +kernel
theorem ggL_law_X5_reach : GoodIn wsL_law wsX5_reach := gI wd_616
theorem gL_law_X5_reach : GoodIn wsL_law (wsV RL 50 RX5 yX5_reach wsX5_reach) := gE wd_441 wd_442 wd_443 wd_340 wd_616
theorem hdV_X5_reach : yX5_reach.cls = RX5 ∧ yX5_reach.cls ≠ "java/lang/invoke/MethodHandle" ∧ yX5_reach.cls ≠ "java/lang/invoke/VarHandle" ∧ (parseMethodDescriptor yX5_reach.desc).map (fun d => d.parameters.length) = some 3 := by decide +kernel
theorem ggL_law_X4_cut : GoodIn wsL_law wsX4_cut := gI wd_617
theorem gL_law_X4_cut : GoodIn wsL_law (wsV RL 51 RX4 yX4_cut wsX4_cut) := gE wd_444 wd_445 wd_446 wd_15 wd_617
theorem hdV_X4_cut : yX4_cut.cls = RX4 ∧ yX4_cut.cls ≠ "java/lang/invoke/MethodHandle" ∧ yX4_cut.cls ≠ "java/lang/invoke/VarHandle" ∧ (parseMethodDescriptor yX4_cut.desc).map (fun d => d.parameters.length) = some 3 := by decide +kernel
theorem ggL_law_X5_cut : GoodIn wsL_law wsX5_cut := gI wd_618
theorem gL_law_X5_cut : GoodIn wsL_law (wsV RL 54 RX5 yX5_cut wsX5_cut) := gE wd_447 wd_448 wd_449 wd_340 wd_618
theorem hdV_X5_cut : yX5_cut.cls = RX5 ∧ yX5_cut.cls ≠ "java/lang/invoke/MethodHandle" ∧ yX5_cut.cls ≠ "java/lang/invoke/VarHandle" ∧ (parseMethodDescriptor yX5_cut.desc).map (fun d => d.parameters.length) = some 3 := by decide +kernel
theorem ggL_law_X4_parcel : GoodIn wsL_law wsX4_parcel := gI wd_619
theorem gL_law_X4_parcel : GoodIn wsL_law (wsV RL 55 RX4 yX4_parcel wsX4_parcel) := gE wd_450 wd_451 wd_452 wd_15 wd_619
theorem hdV_X4_parcel : yX4_parcel.cls = RX4 ∧ yX4_parcel.cls ≠ "java/lang/invoke/MethodHandle" ∧ yX4_parcel.cls ≠ "java/lang/invoke/VarHandle" ∧ (parseMethodDescriptor yX4_parcel.desc).map (fun d => d.parameters.length) = some 3 := by decide +kernel
theorem ggL_law_X5_parcel : GoodIn wsL_law wsX5_parcel := gI wd_620
theorem gL_law_X5_parcel : GoodIn wsL_law (wsV RL 58 RX5 yX5_parcel wsX5_parcel) := gE wd_453 wd_454 wd_455 wd_340 wd_620
theorem hdV_X5_parcel : yX5_parcel.cls = RX5 ∧ yX5_parcel.cls ≠ "java/lang/invoke/MethodHandle" ∧ yX5_parcel.cls ≠ "java/lang/invoke/VarHandle" ∧ (parseMethodDescriptor yX5_parcel.desc).map (fun d => d.parameters.length) = some 3 := by decide +kernel
theorem ggL_law_X4_tick : GoodIn wsL_law wsX4_tick := gI wd_621
theorem gL_law_X4_tick : GoodIn wsL_law (wsV RL 59 RX4 yX4_tick wsX4_tick) := gE wd_456 wd_457 wd_458 wd_15 wd_621
theorem hdV_X4_tick : yX4_tick.cls = RX4 ∧ yX4_tick.cls ≠ "java/lang/invoke/MethodHandle" ∧ yX4_tick.cls ≠ "java/lang/invoke/VarHandle" ∧ (parseMethodDescriptor yX4_tick.desc).map (fun d => d.parameters.length) = some 1 := by decide +kernel
theorem ggL_law_X5_tick : GoodIn wsL_law wsX5_tick := gI wd_622
theorem gL_law_X5_tick : GoodIn wsL_law (wsV RL 63 RX5 yX5_tick wsX5_tick) := gE wd_459 wd_460 wd_461 wd_340 wd_622
theorem hdV_X5_tick : yX5_tick.cls = RX5 ∧ yX5_tick.cls ≠ "java/lang/invoke/MethodHandle" ∧ yX5_tick.cls ≠ "java/lang/invoke/VarHandle" ∧ (parseMethodDescriptor yX5_tick.desc).map (fun d => d.parameters.length) = some 1 := by decide +kernel
theorem ggL_law_X5_told : GoodIn wsL_law wsX5_told := gI wd_623
theorem gL_law_X5_told : GoodIn wsL_law (wsV RL 69 RX5 yX5_told wsX5_told) := gE wd_465 wd_466 wd_467 wd_340 wd_623
theorem hdV_X5_told : yX5_told.cls = RX5 ∧ yX5_told.cls ≠ "java/lang/invoke/MethodHandle" ∧ yX5_told.cls ≠ "java/lang/invoke/VarHandle" ∧ (parseMethodDescriptor yX5_told.desc).map (fun d => d.parameters.length) = some 2 := by decide +kernel
theorem ggL_law_X4_waiting : GoodIn wsL_law wsX4_waiting := gI wd_624
theorem gL_law_X4_waiting : GoodIn wsL_law (wsV RL 70 RX4 yX4_waiting wsX4_waiting) := gE wd_468 wd_469 wd_470 wd_15 wd_624
theorem hdV_X4_waiting : yX4_waiting.cls = RX4 ∧ yX4_waiting.cls ≠ "java/lang/invoke/MethodHandle" ∧ yX4_waiting.cls ≠ "java/lang/invoke/VarHandle" ∧ (parseMethodDescriptor yX4_waiting.desc).map (fun d => d.parameters.length) = some 1 := by decide +kernel
theorem ggL_law_X5_waiting : GoodIn wsL_law wsX5_waiting := gI wd_625
theorem gL_law_X5_waiting : GoodIn wsL_law (wsV RL 73 RX5 yX5_waiting wsX5_waiting) := gE wd_471 wd_472 wd_473 wd_340 wd_625
theorem hdV_X5_waiting : yX5_waiting.cls = RX5 ∧ yX5_waiting.cls ≠ "java/lang/invoke/MethodHandle" ∧ yX5_waiting.cls ≠ "java/lang/invoke/VarHandle" ∧ (parseMethodDescriptor yX5_waiting.desc).map (fun d => d.parameters.length) = some 1 := by decide +kernel
theorem ggL_law_X4_fares : GoodIn wsL_law wsX4_fares := gI wd_626
theorem gL_law_X4_fares : GoodIn wsL_law (wsV RL 74 RX4 yX4_fares wsX4_fares) := gE wd_474 wd_475 wd_476 wd_15 wd_626
theorem hdV_X4_fares : yX4_fares.cls = RX4 ∧ yX4_fares.cls ≠ "java/lang/invoke/MethodHandle" ∧ yX4_fares.cls ≠ "java/lang/invoke/VarHandle" ∧ (parseMethodDescriptor yX4_fares.desc).map (fun d => d.parameters.length) = some 1 := by decide +kernel
theorem ggL_law_X5_fares : GoodIn wsL_law wsX5_fares := gI wd_627
theorem gL_law_X5_fares : GoodIn wsL_law (wsV RL 77 RX5 yX5_fares wsX5_fares) := gE wd_477 wd_478 wd_479 wd_340 wd_627
theorem hdV_X5_fares : yX5_fares.cls = RX5 ∧ yX5_fares.cls ≠ "java/lang/invoke/MethodHandle" ∧ yX5_fares.cls ≠ "java/lang/invoke/VarHandle" ∧ (parseMethodDescriptor yX5_fares.desc).map (fun d => d.parameters.length) = some 1 := by decide +kernel
theorem ggL_law_X4_room : GoodIn wsL_law wsX4_room := gI wd_628
theorem gL_law_X4_room : GoodIn wsL_law (wsV RL 78 RX4 yX4_room wsX4_room) := gE wd_480 wd_481 wd_482 wd_15 wd_628
theorem hdV_X4_room : yX4_room.cls = RX4 ∧ yX4_room.cls ≠ "java/lang/invoke/MethodHandle" ∧ yX4_room.cls ≠ "java/lang/invoke/VarHandle" ∧ (parseMethodDescriptor yX4_room.desc).map (fun d => d.parameters.length) = some 2 := by decide +kernel
theorem ggL_law_X5_room : GoodIn wsL_law wsX5_room := gI wd_629
theorem gL_law_X5_room : GoodIn wsL_law (wsV RL 81 RX5 yX5_room wsX5_room) := gE wd_483 wd_484 wd_485 wd_340 wd_629
theorem hdV_X5_room : yX5_room.cls = RX5 ∧ yX5_room.cls ≠ "java/lang/invoke/MethodHandle" ∧ yX5_room.cls ≠ "java/lang/invoke/VarHandle" ∧ (parseMethodDescriptor yX5_room.desc).map (fun d => d.parameters.length) = some 2 := by decide +kernel
theorem ggL_law_X4_walk : GoodIn wsL_law wsX4_walk := gI wd_630
theorem gL_law_X4_walk : GoodIn wsL_law (wsV RL 82 RX4 yX4_walk wsX4_walk) := gE wd_486 wd_487 wd_488 wd_15 wd_630
theorem hdV_X4_walk : yX4_walk.cls = RX4 ∧ yX4_walk.cls ≠ "java/lang/invoke/MethodHandle" ∧ yX4_walk.cls ≠ "java/lang/invoke/VarHandle" ∧ (parseMethodDescriptor yX4_walk.desc).map (fun d => d.parameters.length) = some 3 := by decide +kernel
theorem ggL_law_X5_walk : GoodIn wsL_law wsX5_walk := gI wd_631
theorem gL_law_X5_walk : GoodIn wsL_law (wsV RL 86 RX5 yX5_walk wsX5_walk) := gE wd_489 wd_490 wd_491 wd_340 wd_631
theorem hdV_X5_walk : yX5_walk.cls = RX5 ∧ yX5_walk.cls ≠ "java/lang/invoke/MethodHandle" ∧ yX5_walk.cls ≠ "java/lang/invoke/VarHandle" ∧ (parseMethodDescriptor yX5_walk.desc).map (fun d => d.parameters.length) = some 3 := by decide +kernel
theorem ggL_law_X4_errand : GoodIn wsL_law wsX4_errand := gI wd_632
theorem gL_law_X4_errand : GoodIn wsL_law (wsV RL 87 RX4 yX4_errand wsX4_errand) := gE wd_492 wd_493 wd_494 wd_15 wd_632
theorem hdV_X4_errand : yX4_errand.cls = RX4 ∧ yX4_errand.cls ≠ "java/lang/invoke/MethodHandle" ∧ yX4_errand.cls ≠ "java/lang/invoke/VarHandle" ∧ (parseMethodDescriptor yX4_errand.desc).map (fun d => d.parameters.length) = some 3 := by decide +kernel
theorem ggL_law_X5_errand : GoodIn wsL_law wsX5_errand := gI wd_633
theorem gL_law_X5_errand : GoodIn wsL_law (wsV RL 90 RX5 yX5_errand wsX5_errand) := gE wd_495 wd_496 wd_497 wd_340 wd_633
theorem hdV_X5_errand : yX5_errand.cls = RX5 ∧ yX5_errand.cls ≠ "java/lang/invoke/MethodHandle" ∧ yX5_errand.cls ≠ "java/lang/invoke/VarHandle" ∧ (parseMethodDescriptor yX5_errand.desc).map (fun d => d.parameters.length) = some 3 := by decide +kernel
theorem ggL_law_X4_clear : GoodIn wsL_law wsX4_clear := gI wd_634
theorem gL_law_X4_clear : GoodIn wsL_law (wsV RL 91 RX4 yX4_clear wsX4_clear) := gE wd_498 wd_499 wd_500 wd_15 wd_634
theorem hdV_X4_clear : yX4_clear.cls = RX4 ∧ yX4_clear.cls ≠ "java/lang/invoke/MethodHandle" ∧ yX4_clear.cls ≠ "java/lang/invoke/VarHandle" ∧ (parseMethodDescriptor yX4_clear.desc).map (fun d => d.parameters.length) = some 0 := by decide +kernel
theorem ggL_law_X5_clear : GoodIn wsL_law wsX5_clear := gI wd_635
theorem gL_law_X5_clear : GoodIn wsL_law (wsV RL 94 RX5 yX5_clear wsX5_clear) := gE wd_501 wd_502 wd_503 wd_340 wd_635
theorem hdV_X5_clear : yX5_clear.cls = RX5 ∧ yX5_clear.cls ≠ "java/lang/invoke/MethodHandle" ∧ yX5_clear.cls ≠ "java/lang/invoke/VarHandle" ∧ (parseMethodDescriptor yX5_clear.desc).map (fun d => d.parameters.length) = some 0 := by decide +kernel
theorem ggL_law_X4_best : GoodIn wsL_law wsX4_best := gI wd_636
theorem gL_law_X4_best : GoodIn wsL_law (wsV RL 95 RX4 yX4_best wsX4_best) := gE wd_504 wd_505 wd_506 wd_15 wd_636
theorem hdV_X4_best : yX4_best.cls = RX4 ∧ yX4_best.cls ≠ "java/lang/invoke/MethodHandle" ∧ yX4_best.cls ≠ "java/lang/invoke/VarHandle" ∧ (parseMethodDescriptor yX4_best.desc).map (fun d => d.parameters.length) = some 2 := by decide +kernel
theorem ggL_law_X5_best : GoodIn wsL_law wsX5_best := gI wd_637
theorem gL_law_X5_best : GoodIn wsL_law (wsV RL 98 RX5 yX5_best wsX5_best) := gE wd_507 wd_508 wd_509 wd_340 wd_637
theorem hdV_X5_best : yX5_best.cls = RX5 ∧ yX5_best.cls ≠ "java/lang/invoke/MethodHandle" ∧ yX5_best.cls ≠ "java/lang/invoke/VarHandle" ∧ (parseMethodDescriptor yX5_best.desc).map (fun d => d.parameters.length) = some 2 := by decide +kernel
theorem ggL_law_X4_round : GoodIn wsL_law wsX4_round := gI wd_638
theorem gL_law_X4_round : GoodIn wsL_law (wsV RL 99 RX4 yX4_round wsX4_round) := gE wd_510 wd_511 wd_512 wd_15 wd_638
theorem hdV_X4_round : yX4_round.cls = RX4 ∧ yX4_round.cls ≠ "java/lang/invoke/MethodHandle" ∧ yX4_round.cls ≠ "java/lang/invoke/VarHandle" ∧ (parseMethodDescriptor yX4_round.desc).map (fun d => d.parameters.length) = some 2 := by decide +kernel
theorem ggL_law_X5_round : GoodIn wsL_law wsX5_round := gI wd_639
theorem gL_law_X5_round : GoodIn wsL_law (wsV RL 102 RX5 yX5_round wsX5_round) := gE wd_513 wd_514 wd_515 wd_340 wd_639
theorem hdV_X5_round : yX5_round.cls = RX5 ∧ yX5_round.cls ≠ "java/lang/invoke/MethodHandle" ∧ yX5_round.cls ≠ "java/lang/invoke/VarHandle" ∧ (parseMethodDescriptor yX5_round.desc).map (fun d => d.parameters.length) = some 2 := by decide +kernel
theorem ggL_law_X4_count : GoodIn wsL_law wsX4_count := gI wd_640
theorem gL_law_X4_count : GoodIn wsL_law (wsV RL 103 RX4 yX4_count wsX4_count) := gE wd_516 wd_517 wd_518 wd_15 wd_640
theorem hdV_X4_count : yX4_count.cls = RX4 ∧ yX4_count.cls ≠ "java/lang/invoke/MethodHandle" ∧ yX4_count.cls ≠ "java/lang/invoke/VarHandle" ∧ (parseMethodDescriptor yX4_count.desc).map (fun d => d.parameters.length) = some 1 := by decide +kernel
theorem ggL_law_X5_count : GoodIn wsL_law wsX5_count := gI wd_641
theorem gL_law_X5_count : GoodIn wsL_law (wsV RL 106 RX5 yX5_count wsX5_count) := gE wd_519 wd_520 wd_521 wd_340 wd_641
theorem hdV_X5_count : yX5_count.cls = RX5 ∧ yX5_count.cls ≠ "java/lang/invoke/MethodHandle" ∧ yX5_count.cls ≠ "java/lang/invoke/VarHandle" ∧ (parseMethodDescriptor yX5_count.desc).map (fun d => d.parameters.length) = some 1 := by decide +kernel
theorem gL_told_X4_told : GoodIn wsL_told (wsV RL 7 RX4 yX4_told wsT) := gE wd_390 wd_391 wd_392 wd_15 wd_642
theorem gL_law_L_told : GoodIn wsL_law (va_wsS RL 64 yL_told wsL_told) := gS wd_462 wd_463 wd_464 wd_Lt
theorem gT_isIn : GoodIn wsT (va_wsS RX4 44 yX4_isIn wsX4_isIn) := gS wd_165 wd_14 wd_15 wd_522
theorem inlX0 : ∀ w ∈ wsX00, w ∈ wsL_law := fun w h => mG (tX0 w h)
theorem inlX1 : ∀ w ∈ wsX10, w ∈ wsL_law := fun w h => mG (tX1 w h)
theorem inlX2 : ∀ w ∈ wsX20, w ∈ wsL_law := fun w h => mG (tX2 w h)
theorem inlX3 : ∀ w ∈ wsX30, w ∈ wsL_law := fun w h => mG (tX3 w h)
theorem inlX4 : ∀ w ∈ wsX40, w ∈ wsL_law := fun w h => mG (tX4 w h)
theorem inlX5 : ∀ w ∈ wsX50, w ∈ wsL_law := fun w h => mG (tX5 w h)
theorem wsL_law_in : ∀ w ∈ wsL_law, w ∈ lw_tbl := fun w h => (List.mem_cons.mp h).elim (fun e => by rw [e]; exact (List.mem_filter.mp wd_15).1) (fun h => (List.mem_filter.mp h).1)
