/-! ===== every method is checked ===== -/
def snMokF (μ : Nat) : Bool := snW (snMt μ).1 (.code (snN μ) (snB μ) (snL μ) (snR μ)) && (snW (snMt μ).2.1 (.initialized (snN μ).cls) && (plainFor (snN μ) && (decide ((snN μ).cls ≠ "java/lang/invoke/MethodHandle") && (decide ((snN μ).cls ≠ "java/lang/invoke/VarHandle") && Nat.ble (snL μ) 40))))
def snMokG (μ : Nat) : Bool := snW (snMt μ).2.1 (.initialized (snN μ).cls) && (plainFor (snN μ) && (decide ((snN μ).cls ≠ "java/lang/invoke/MethodHandle") && (decide ((snN μ).cls ≠ "java/lang/invoke/VarHandle") && Nat.ble (snL μ) 40)))
theorem snMokG_of {μ : Nat} (h1 : lw_tbl[(snMt μ).1]? = some (.code (snN μ) (snB μ) (snL μ) (snR μ))) (h2 : snMokG μ = true) : snMokF μ = true := by
  have h3 : snW (snMt μ).1 (.code (snN μ) (snB μ) (snL μ) (snR μ)) = true := by
    unfold snW
    rw [decide_eq_true h1]
    rfl
  unfold snMokF
  rw [h3]
  exact h2
theorem snMokF_of {μ : Nat} (h : snMok μ = true) : snMokF μ = true := by
  obtain ⟨m1, h⟩ := snB2 h
  obtain ⟨m2, h⟩ := snB2 h
  obtain ⟨m3, h⟩ := snB2 h
  unfold snMokF
  rw [m1, m2, plainFor_of_name m3, h]
  rfl
set_option maxRecDepth 20000 in
theorem snMq1 : snMok 1 = true := snMok_of (show lw_tbl[298]? = some (.code yX0_init cX0_init 2 none) from rfl) (by decide +kernel)
set_option maxRecDepth 20000 in
theorem snMq2 : snMok 2 = true := snMok_of (show lw_tbl[789]? = some (.code yX0_value cX0_value 13 (some .long)) from rfl) (by decide +kernel)
set_option maxRecDepth 20000 in
theorem snMq3 : snMok 3 = true := snMok_of (show lw_tbl[824]? = some (.code yX0_action cX0_action 3 (some .int)) from rfl) (by decide +kernel)
set_option maxRecDepth 20000 in
theorem snMq4 : snMok 4 = true := snMok_of (show lw_tbl[808]? = some (.code yX0_worth cX0_worth 15 (some .long)) from rfl) (by decide +kernel)
set_option maxRecDepth 20000 in
theorem snMq5 : snMok 5 = true := snMok_of (show lw_tbl[901]? = some (.code yX0_waveWorth cX0_waveWorth 6 (some .long)) from rfl) (by decide +kernel)
set_option maxRecDepth 20000 in
theorem snMq6 : snMok 6 = true := snMok_of (show lw_tbl[905]? = some (.code yX0_boardingWorth cX0_boardingWorth 6 (some .long)) from rfl) (by decide +kernel)
set_option maxRecDepth 20000 in
theorem snMq7 : snMok 7 = true := snMok_of (show lw_tbl[913]? = some (.code yX0_unseeing cX0_unseeing 16 (some .long)) from rfl) (by decide +kernel)
set_option maxRecDepth 20000 in
theorem snMq8 : snMok 8 = true := snMok_of (show lw_tbl[319]? = some (.code yX1_init cX1_init 2 none) from rfl) (by decide +kernel)
set_option maxRecDepth 20000 in
theorem snMq9 : snMok 9 = true := snMok_of (show lw_tbl[865]? = some (.code yX1_sum cX1_sum 3 (some .long)) from rfl) (by decide +kernel)
set_option maxRecDepth 20000 in
theorem snMq10 : snMok 10 = true := snMok_of (show lw_tbl[843]? = some (.code yX1_follow cX1_follow 6 none) from rfl) (by decide +kernel)
set_option maxRecDepth 20000 in
theorem snMq11 : snMok 11 = true := snMok_of (show lw_tbl[923]? = some (.code yX1_turnTo cX1_turnTo 2 (some .boolean)) from rfl) (by decide +kernel)
set_option maxRecDepth 20000 in
theorem snMq12 : snMok 12 = true := snMok_of (show lw_tbl[928]? = some (.code yX1_search cX1_search 3 none) from rfl) (by decide +kernel)
set_option maxRecDepth 20000 in
theorem snMq13 : snMok 13 = true := snMok_of (show lw_tbl[848]? = some (.code yX1_begin cX1_begin 5 none) from rfl) (by decide +kernel)
set_option maxRecDepth 20000 in
theorem snMq14 : snMok 14 = true := snMok_of (show lw_tbl[855]? = some (.code yX1_branch cX1_branch 6 none) from rfl) (by decide +kernel)
set_option maxRecDepth 20000 in
theorem snMq15 : snMok 15 = true := snMok_of (show lw_tbl[861]? = some (.code yX1_gather cX1_gather 5 none) from rfl) (by decide +kernel)
set_option maxRecDepth 20000 in
theorem snMq16 : snMok 16 = true := snMok_of (show lw_tbl[871]? = some (.code yX1_advance cX1_advance 12 none) from rfl) (by decide +kernel)
set_option maxRecDepth 20000 in
theorem snMq17 : snMok 17 = true := snMok_of (show lw_tbl[878]? = some (.code yX1_arrive cX1_arrive 8 none) from rfl) (by decide +kernel)
set_option maxRecDepth 20000 in
theorem snMq18 : snMok 18 = true := snMok_of (show lw_tbl[884]? = some (.code yX1_miss cX1_miss 6 none) from rfl) (by decide +kernel)
set_option maxRecDepth 20000 in
theorem snMq19 : snMok 19 = true := snMok_of (show lw_tbl[888]? = some (.code yX1_end cX1_end 4 none) from rfl) (by decide +kernel)
set_option maxRecDepth 20000 in
theorem snMq20 : snMok 20 = true := snMok_of (show lw_tbl[358]? = some (.code yX2_init cX2_init 3 none) from rfl) (by decide +kernel)
set_option maxRecDepth 20000 in
theorem snMq21 : snMok 21 = true := snMok_of (show lw_tbl[473]? = some (.code yX2_fall cX2_fall 1 none) from rfl) (by decide +kernel)
set_option maxRecDepth 20000 in
theorem snMq22 : snMok 22 = true := snMok_of (show lw_tbl[1067]? = some (.code yX2_placeAt cX2_placeAt 2 (some .int)) from rfl) (by decide +kernel)
set_option maxRecDepth 20000 in
theorem snMq23 : snMok 23 = true := snMok_of (show lw_tbl[1092]? = some (.code yX2_actionAt cX2_actionAt 2 (some .int)) from rfl) (by decide +kernel)
set_option maxRecDepth 20000 in
theorem snMq24 : snMok 24 = true := snMok_of (show lw_tbl[1056]? = some (.code yX2_play cX2_play 4 none) from rfl) (by decide +kernel)
set_option maxRecDepth 20000 in
theorem snMq25 : snMok 25 = true := snMok_of (show lw_tbl[1063]? = some (.code yX2_step cX2_step 6 (some .int)) from rfl) (by decide +kernel)
set_option maxRecDepth 20000 in
theorem snMq26 : snMok 26 = true := snMok_of (show lw_tbl[1087]? = some (.code yX2_told cX2_told 2 (some .int)) from rfl) (by decide +kernel)
set_option maxRecDepth 20000 in
theorem snMq27 : snMok 27 = true := snMok_of (show lw_tbl[385]? = some (.code yX3_init cX3_init 2 none) from rfl) (by decide +kernel)
set_option maxRecDepth 20000 in
theorem snMq28 : snMok 28 = true := snMok_of (show lw_tbl[946]? = some (.code yX3_part cX3_part 2 (some .long)) from rfl) (by decide +kernel)
set_option maxRecDepth 20000 in
theorem snMq29 : snMok 29 = true := snMok_of (show lw_tbl[939]? = some (.code yX3_set cX3_set 7 none) from rfl) (by decide +kernel)
set_option maxRecDepth 20000 in
theorem snMq30 : snMok 30 = true := snMok_of (show lw_tbl[942]? = some (.code yX3_divisor cX3_divisor 11 (some .long)) from rfl) (by decide +kernel)
set_option maxRecDepth 20000 in
theorem snMq31 : snMok 31 = true := snMok_of (show lw_tbl[954]? = some (.code yX3_findLeaving cX3_findLeaving 7 none) from rfl) (by decide +kernel)
set_option maxRecDepth 20000 in
theorem snMq32 : snMok 32 = true := snMok_of (show lw_tbl[973]? = some (.code yX3_findOver cX3_findOver 10 none) from rfl) (by decide +kernel)
set_option maxRecDepth 20000 in
theorem snMq33 : snMok 33 = true := snMok_of (show lw_tbl[981]? = some (.code yX3_findSeen cX3_findSeen 11 (some .int)) from rfl) (by decide +kernel)
set_option maxRecDepth 20000 in
theorem snMq34 : snMok 34 = true := snMok_of (show lw_tbl[269]? = some (.code yX4_init cX4_init 1 none) from rfl) (by decide +kernel)
set_option maxRecDepth 20000 in
theorem snMq35 : snMok 35 = true := snMok_of (show lw_tbl[625]? = some (.code yX4_parse cX4_parse 6 (some .int)) from rfl) (by decide +kernel)
set_option maxRecDepth 20000 in
theorem snMq36 : snMok 36 = true := snMok_of (show lw_tbl[633]? = some (.code yX4_clause cX4_clause 2 none) from rfl) (by decide +kernel)
set_option maxRecDepth 20000 in
theorem snMq37 : snMok 37 = true := snMok_of (show lw_tbl[684]? = some (.code yX4_condition cX4_condition 6 none) from rfl) (by decide +kernel)
set_option maxRecDepth 20000 in
theorem snMq38 : snMok 38 = true := snMok_of (show lw_tbl[692]? = some (.code yX4_leap cX4_leap 4 (some .int)) from rfl) (by decide +kernel)
set_option maxRecDepth 20000 in
theorem snMq39 : snMok 39 = true := snMok_of (show lw_tbl[688]? = some (.code yX4_piece cX4_piece 3 none) from rfl) (by decide +kernel)
set_option maxRecDepth 20000 in
theorem snMq40 : snMok 40 = true := snMok_of (show lw_tbl[652]? = some (.code yX4_expression cX4_expression 6 none) from rfl) (by decide +kernel)
set_option maxRecDepth 20000 in
theorem snMq41 : snMok 41 = true := snMok_of (show lw_tbl[656]? = some (.code yX4_factor cX4_factor 4 none) from rfl) (by decide +kernel)
set_option maxRecDepth 20000 in
theorem snMq42 : snMok 42 = true := snMok_of (show lw_tbl[665]? = some (.code yX4_number cX4_number 3 none) from rfl) (by decide +kernel)
set_option maxRecDepth 20000 in
theorem snMq43 : snMok 43 = true := snMok_of (show lw_tbl[675]? = some (.code yX4_isTimes cX4_isTimes 1 (some .boolean)) from rfl) (by decide +kernel)
set_option maxRecDepth 20000 in
theorem snMq44 : snMok 44 = true := snMok_of (show lw_tbl[668]? = some (.code yX4_isDigit cX4_isDigit 1 (some .boolean)) from rfl) (by decide +kernel)
set_option maxRecDepth 20000 in
theorem snMq45 : snMok 45 = true := snMok_of (show lw_tbl[637]? = some (.code yX4_next cX4_next 1 (some .int)) from rfl) (by decide +kernel)
set_option maxRecDepth 20000 in
theorem snMq46 : snMok 46 = true := snMok_of (show lw_tbl[672]? = some (.code yX4_take cX4_take 2 none) from rfl) (by decide +kernel)
set_option maxRecDepth 20000 in
theorem snMq47 : snMok 47 = true := snMok_of (show lw_tbl[642]? = some (.code yX4_fail cX4_fail 2 none) from rfl) (by decide +kernel)
set_option maxRecDepth 20000 in
theorem snMq48 : snMok 48 = true := snMok_of (show lw_tbl[401]? = some (.code yX5_init cX5_init 1 none) from rfl) (by decide +kernel)
set_option maxRecDepth 20000 in
theorem snMq49 : snMok 49 = true := snMok_of (show lw_tbl[1128]? = some (.code yX5_guess cX5_guess 5 none) from rfl) (by decide +kernel)
set_option maxRecDepth 20000 in
theorem snMq50 : snMok 50 = true := snMok_of (show lw_tbl[1133]? = some (.code yX5_multiply cX5_multiply 7 none) from rfl) (by decide +kernel)
set_option maxRecDepth 20000 in
theorem snMq51 : snMok 51 = true := snMok_of (show lw_tbl[1137]? = some (.code yX5_comparedWith cX5_comparedWith 4 (some .int)) from rfl) (by decide +kernel)
set_option maxRecDepth 20000 in
theorem snMq52 : snMok 52 = true := snMok_of (show lw_tbl[172]? = some (.code yX6_init cX6_init 1 none) from rfl) (by decide +kernel)
set_option maxRecDepth 20000 in
theorem snMq53 : snMok 53 = true := snMok_of (show lw_tbl[607]? = some (.code yX6_read cX6_read 6 (some .int)) from rfl) (by decide +kernel)
set_option maxRecDepth 20000 in
theorem snMq54 : snMok 54 = true := snMok_of (show lw_tbl[616]? = some (.code yX6_fillWaiting cX6_fillWaiting 6 none) from rfl) (by decide +kernel)
set_option maxRecDepth 20000 in
theorem snMq55 : snMok 55 = true := snMok_of (show lw_tbl[611]? = some (.code yX6_stepsOf cX6_stepsOf 1 (some .int)) from rfl) (by decide +kernel)
set_option maxRecDepth 20000 in
theorem snMq56 : snMok 56 = true := snMok_of (show lw_tbl[193]? = some (.code yX7_init cX7_init 4 none) from rfl) (by decide +kernel)
set_option maxRecDepth 20000 in
theorem snMq57 : snMok 57 = true := snMok_of (show lw_tbl[793]? = some (.code yX7_stepCount cX7_stepCount 1 (some .int)) from rfl) (by decide +kernel)
set_option maxRecDepth 20000 in
theorem snMq58 : snMok 58 = true := snMok_of (show lw_tbl[729]? = some (.code yX7_ask cX7_ask 7 (some .int)) from rfl) (by decide +kernel)
set_option maxRecDepth 20000 in
theorem snMq59 : snMok 59 = true := snMok_of (show lw_tbl[755]? = some (.code yX7_bounded cX7_bounded 3 (some .int)) from rfl) (by decide +kernel)
set_option maxRecDepth 20000 in
theorem snMq60 : snMok 60 = true := snMok_of (show lw_tbl[737]? = some (.code yX7_tell cX7_tell 4 none) from rfl) (by decide +kernel)
set_option maxRecDepth 20000 in
theorem snMq61 : snMok 61 = true := snMok_of (show lw_tbl[837]? = some (.code yX7_ruled cX7_ruled 5 (some .int)) from rfl) (by decide +kernel)
set_option maxRecDepth 20000 in
theorem snMq62 : snMok 62 = true := snMok_of (show lw_tbl[722]? = some (.code yX7_behind cX7_behind 8 (some .int)) from rfl) (by decide +kernel)
set_option maxRecDepth 20000 in
theorem snMq63 : snMok 63 = true := snMok_of (show lw_tbl[772]? = some (.code yX7_tenthsSeen cX7_tenthsSeen 4 (some .int)) from rfl) (by decide +kernel)
set_option maxRecDepth 20000 in
theorem snMq64 : snMok 64 = true := snMok_of (show lw_tbl[780]? = some (.code yX7_mayGo cX7_mayGo 2 (some .boolean)) from rfl) (by decide +kernel)
set_option maxRecDepth 20000 in
theorem snMq65 : snMok 65 = true := snMok_of (show lw_tbl[776]? = some (.code yX7_tenthsGone cX7_tenthsGone 3 (some .int)) from rfl) (by decide +kernel)
set_option maxRecDepth 20000 in
theorem snMq66 : snMok 66 = true := snMok_of (show lw_tbl[125]? = some (.code yX8_init cX8_init 1 none) from rfl) (by decide +kernel)
set_option maxRecDepth 20000 in
theorem snMq67 : snMok 67 = true := snMok_of (show lw_tbl[1153]? = some (.code yX8_copyFrom cX8_copyFrom 2 none) from rfl) (by decide +kernel)
set_option maxRecDepth 20000 in
theorem snMq68 : snMok 68 = true := snMok_of (show lw_tbl[1075]? = some (.code yX8_draw cX8_draw 1 (some .int)) from rfl) (by decide +kernel)
set_option maxRecDepth 20000 in
theorem snMq69 : snMok 69 = true := snMok_of (show lw_tbl[994]? = some (.code yX8_setLine cX8_setLine 6 none) from rfl) (by decide +kernel)
set_option maxRecDepth 20000 in
theorem snMq70 : snMok 70 = true := snMok_of (show lw_tbl[1003]? = some (.code yX8_hasLine cX8_hasLine 2 (some .boolean)) from rfl) (by decide +kernel)
set_option maxRecDepth 20000 in
theorem snMq71 : snMok 71 = true := snMok_of (show lw_tbl[1009]? = some (.code yX8_oftenOf cX8_oftenOf 6 (some .int)) from rfl) (by decide +kernel)
set_option maxRecDepth 20000 in
theorem snMq72 : snMok 72 = true := snMok_of (show lw_tbl[1018]? = some (.code yX8_setRunner cX8_setRunner 5 none) from rfl) (by decide +kernel)
set_option maxRecDepth 20000 in
theorem snMq73 : snMok 73 = true := snMok_of (show lw_tbl[1031]? = some (.code yX8_runnerYards cX8_runnerYards 2 (some .int)) from rfl) (by decide +kernel)
set_option maxRecDepth 20000 in
theorem snMq74 : snMok 74 = true := snMok_of (show lw_tbl[1027]? = some (.code yX8_waitWorth cX8_waitWorth 7 (some .int)) from rfl) (by decide +kernel)
set_option maxRecDepth 20000 in
theorem snMq75 : snMok 75 = true := snMok_of (show lw_tbl[1112]? = some (.code yX8_tryCount cX8_tryCount 1 (some .int)) from rfl) (by decide +kernel)
set_option maxRecDepth 20000 in
theorem snMq76 : snMok 76 = true := snMok_of (show lw_tbl[1116]? = some (.code yX8_addTry cX8_addTry 4 none) from rfl) (by decide +kernel)
set_option maxRecDepth 20000 in
theorem snMq77 : snMok 77 = true := snMok_of (show lw_tbl[153]? = some (.code yX9_init cX9_init 1 none) from rfl) (by decide +kernel)
set_option maxRecDepth 20000 in
theorem snMq78 : snMok 78 = true := snMok_of (show lw_tbl[492]? = some (.code yX9_read cX9_read 9 (some .int)) from rfl) (by decide +kernel)
set_option maxRecDepth 20000 in
theorem snMq79 : snMok 79 = true := snMok_of (show lw_tbl[495]? = some (.code yX9_isDigit cX9_isDigit 3 (some .boolean)) from rfl) (by decide +kernel)
set_option maxRecDepth 20000 in
theorem snMq80 : snMok 80 = true := snMok_of (show lw_tbl[593]? = some (.code yX9_lay cX9_lay 5 none) from rfl) (by decide +kernel)
set_option maxRecDepth 20000 in
theorem snMq81 : snMok 81 = true := snMok_of (show lw_tbl[598]? = some (.code yX9_accept cX9_accept 4 (some .int)) from rfl) (by decide +kernel)
set_option maxRecDepth 20000 in
theorem snMq82 : snMok 82 = true := snMok_of (show lw_tbl[199]? = some (.code yX10_init cX10_init 1 none) from rfl) (by decide +kernel)
set_option maxRecDepth 20000 in
theorem snMq83 : snMok 83 = true := snMok_of (show lw_tbl[629]? = some (.code yX10_clear cX10_clear 1 none) from rfl) (by decide +kernel)
set_option maxRecDepth 20000 in
theorem snMq84 : snMok 84 = true := snMok_of (show lw_tbl[733]? = some (.code yX10_has cX10_has 2 (some .boolean)) from rfl) (by decide +kernel)
set_option maxRecDepth 20000 in
theorem snMq85 : snMok 85 = true := snMok_of (show lw_tbl[647]? = some (.code yX10_open cX10_open 2 none) from rfl) (by decide +kernel)
set_option maxRecDepth 20000 in
theorem snMq86 : snMok 86 = true := snMok_of (show lw_tbl[679]? = some (.code yX10_turnToCondition cX10_turnToCondition 1 none) from rfl) (by decide +kernel)
set_option maxRecDepth 20000 in
theorem snMq87 : snMok 87 = true := snMok_of (show lw_tbl[700]? = some (.code yX10_close cX10_close 1 none) from rfl) (by decide +kernel)
set_option maxRecDepth 20000 in
theorem snMq88 : snMok 88 = true := snMok_of (show lw_tbl[661]? = some (.code yX10_add cX10_add 3 none) from rfl) (by decide +kernel)
set_option maxRecDepth 20000 in
theorem snMq89 : snMok 89 = true := snMok_of (show lw_tbl[696]? = some (.code yX10_leapHere cX10_leapHere 5 none) from rfl) (by decide +kernel)
set_option maxRecDepth 20000 in
theorem snMq90 : snMok 90 = true := snMok_of (show lw_tbl[748]? = some (.code yX10_run cX10_run 9 (some .int)) from rfl) (by decide +kernel)
set_option maxRecDepth 20000 in
theorem snMq91 : snMok 91 = true := snMok_of (show lw_tbl[752]? = some (.code yX10_reckoned cX10_reckoned 3 (some .int)) from rfl) (by decide +kernel)
set_option maxRecDepth 20000 in
theorem snMq92 : snMok 92 = true := snMok_of (show lw_tbl[117]? = some (.code yX11_init cX11_init 2 none) from rfl) (by decide +kernel)
set_option maxRecDepth 20000 in
theorem snMq93 : snMok 93 = true := snMok_of (show lw_tbl[462]? = some (.code yX11_steps cX11_steps 2 (some .boolean)) from rfl) (by decide +kernel)
set_option maxRecDepth 20000 in
theorem snMq94 : snMok 94 = true := snMok_of (show lw_tbl[477]? = some (.code yX11_feed cX11_feed 6 (some .int)) from rfl) (by decide +kernel)
set_option maxRecDepth 20000 in
theorem snMq95 : snMok 95 = true := snMok_of (show lw_tbl[488]? = some (.code yX11_street cX11_street 3 (some .int)) from rfl) (by decide +kernel)
set_option maxRecDepth 20000 in
theorem snMq96 : snMok 96 = true := snMok_of (show lw_tbl[603]? = some (.code yX11_queue cX11_queue 3 (some .int)) from rfl) (by decide +kernel)
set_option maxRecDepth 20000 in
theorem snMq97 : snMok 97 = true := snMok_of (show lw_tbl[620]? = some (.code yX11_law cX11_law 4 (some .int)) from rfl) (by decide +kernel)
set_option maxRecDepth 20000 in
theorem snMq98 : snMok 98 = true := snMok_of (show lw_tbl[704]? = some (.code yX11_rule cX11_rule 5 (some .int)) from rfl) (by decide +kernel)
set_option maxRecDepth 20000 in
theorem snMq99 : snMok 99 = true := snMok_of (show lw_tbl[709]? = some (.code yX11_may cX11_may 7 (some .int)) from rfl) (by decide +kernel)
set_option maxRecDepth 20000 in
theorem snMq100 : snMok 100 = true := snMok_of (show lw_tbl[766]? = some (.code yX11_after cX11_after 10 (some .int)) from rfl) (by decide +kernel)
set_option maxRecDepth 20000 in
theorem snMq101 : snMok 101 = true := snMok_of (show lw_tbl[784]? = some (.code yX11_best cX11_best 8 (some .long)) from rfl) (by decide +kernel)
set_option maxRecDepth 20000 in
theorem snMq102 : snMok 102 = true := snMok_of (show lw_tbl[828]? = some (.code yX11_by cX11_by 10 (some .long)) from rfl) (by decide +kernel)
set_option maxRecDepth 20000 in
theorem snMq103 : snMok 103 = true := snMok_of (show lw_tbl[893]? = some (.code yX11_point cX11_point 8 (some .int)) from rfl) (by decide +kernel)
set_option maxRecDepth 20000 in
theorem snMq104 : snMok 104 = true := snMok_of (show lw_tbl[897]? = some (.code yX11_more cX11_more 7 (some .long)) from rfl) (by decide +kernel)
set_option maxRecDepth 20000 in
theorem snMq105 : snMok 105 = true := snMok_of (show lw_tbl[909]? = some (.code yX11_corner cX11_corner 12 (some .long)) from rfl) (by decide +kernel)
set_option maxRecDepth 20000 in
theorem snMq106 : snMok 106 = true := snMok_of (show lw_tbl[919]? = some (.code yX11_blind cX11_blind 8 (some .long)) from rfl) (by decide +kernel)
set_option maxRecDepth 20000 in
theorem snMq107 : snMok 107 = true := snMok_of (show lw_tbl[934]? = some (.code yX11_near cX11_near 10 (some .long)) from rfl) (by decide +kernel)
set_option maxRecDepth 20000 in
theorem snMq108 : snMok 108 = true := snMok_of (show lw_tbl[950]? = some (.code yX11_leaves cX11_leaves 7 (some .long)) from rfl) (by decide +kernel)
set_option maxRecDepth 20000 in
theorem snMq109 : snMok 109 = true := snMok_of (show lw_tbl[966]? = some (.code yX11_over cX11_over 9 (some .long)) from rfl) (by decide +kernel)
set_option maxRecDepth 20000 in
theorem snMq110 : snMok 110 = true := snMok_of (show lw_tbl[977]? = some (.code yX11_hadSeen cX11_hadSeen 7 (some .long)) from rfl) (by decide +kernel)
set_option maxRecDepth 20000 in
theorem snMq111 : snMok 111 = true := snMok_of (show lw_tbl[989]? = some (.code yX11_line cX11_line 6 (some .boolean)) from rfl) (by decide +kernel)
set_option maxRecDepth 20000 in
theorem snMq112 : snMok 112 = true := snMok_of (show lw_tbl[999]? = some (.code yX11_which cX11_which 8 (some .int)) from rfl) (by decide +kernel)
set_option maxRecDepth 20000 in
theorem snMq113 : snMok 113 = true := snMok_of (show lw_tbl[1014]? = some (.code yX11_runner cX11_runner 5 (some .boolean)) from rfl) (by decide +kernel)
set_option maxRecDepth 20000 in
theorem snMq114 : snMok 114 = true := snMok_of (show lw_tbl[1022]? = some (.code yX11_wait cX11_wait 7 (some .int)) from rfl) (by decide +kernel)
set_option maxRecDepth 20000 in
theorem snMq115 : snMok 115 = true := snMok_of (show lw_tbl[1036]? = some (.code yX11_three cX11_three 8 (some .int)) from rfl) (by decide +kernel)
set_option maxRecDepth 20000 in
theorem snMq116 : snMok 116 = true := snMok_of (show lw_tbl[1052]? = some (.code yX11_drawn cX11_drawn 7 (some .int)) from rfl) (by decide +kernel)
set_option maxRecDepth 20000 in
theorem snMq117 : snMok 117 = true := snMok_of (show lw_tbl[1083]? = some (.code yX11_log cX11_log 2 (some .int)) from rfl) (by decide +kernel)
set_option maxRecDepth 20000 in
theorem snMq118 : snMok 118 = true := snMok_of (show lw_tbl[1096]? = some (.code yX11_wrong cX11_wrong 5 (some .long)) from rfl) (by decide +kernel)
set_option maxRecDepth 20000 in
theorem snMq119 : snMok 119 = true := snMok_of (show lw_tbl[1108]? = some (.code yX11_tries cX11_tries 3 (some .int)) from rfl) (by decide +kernel)
set_option maxRecDepth 20000 in
theorem snMq120 : snMok 120 = true := snMok_of (show lw_tbl[1120]? = some (.code yX11_book cX11_book 2 (some .int)) from rfl) (by decide +kernel)
set_option maxRecDepth 20000 in
theorem snMq121 : snMok 121 = true := snMok_of (show lw_tbl[1124]? = some (.code yX11_fits cX11_fits 6 (some .int)) from rfl) (by decide +kernel)
set_option maxRecDepth 20000 in
theorem snMq122 : snMok 122 = true := snMok_of (show lw_tbl[1144]? = some (.code yX11_seed cX11_seed 2 (some .boolean)) from rfl) (by decide +kernel)
set_option maxRecDepth 20000 in
theorem snMq123 : snMok 123 = true := snMok_of (show lw_tbl[1149]? = some (.code yX11_keep cX11_keep 1 (some .int)) from rfl) (by decide +kernel)
set_option maxRecDepth 20000 in
theorem snMq124 : snMok 124 = true := snMok_of (show lw_tbl[1160]? = some (.code yX11_undo cX11_undo 1 (some .boolean)) from rfl) (by decide +kernel)
set_option maxRecDepth 20000 in
theorem snMq125 : snMok 125 = true := snMok_of (show lw_tbl[1164]? = some (.code yX11_check cX11_check 3 (some .int)) from rfl) (by decide +kernel)
set_option maxRecDepth 20000 in
theorem snMq126 : snMok 126 = true := snMok_of (show lw_tbl[1173]? = some (.code yX11_count cX11_count 3 (some .int)) from rfl) (by decide +kernel)
set_option maxRecDepth 20000 in
theorem snMq127 : snMok 127 = true := snMok_of (show lw_tbl[481]? = some (.code yX11_append cX11_append 3 none) from rfl) (by decide +kernel)
set_option maxRecDepth 20000 in
theorem snMq128 : snMok 128 = true := snMok_of (show lw_tbl[1168]? = some (.code yX11_numberOnTape cX11_numberOnTape 4 (some .int)) from rfl) (by decide +kernel)
set_option maxRecDepth 20000 in
theorem snMq129 : snMok 129 = true := snMok_of (show lw_tbl[469]? = some (.code yX11_forget cX11_forget 1 none) from rfl) (by decide +kernel)
set_option maxRecDepth 20000 in
theorem snMq130 : snMok 130 = true := snMok_of (show lw_tbl[832]? = some (.code yX11_toldRule cX11_toldRule 3 (some (.object "RunForIt$Text"))) from rfl) (by decide +kernel)
set_option maxRecDepth 20000 in
theorem snMq131 : snMok 131 = true := snMok_of (show lw_tbl[1100]? = some (.code yX11_loss cX11_loss 5 (some .long)) from rfl) (by decide +kernel)
set_option maxRecDepth 20000 in
theorem snMq132 : snMok 132 = true := snMok_of (show lw_tbl[1039]? = some (.code yX11_noneGains cX11_noneGains 6 (some .boolean)) from rfl) (by decide +kernel)
set_option maxRecDepth 20000 in
theorem snMq133 : snMok 133 = true := snMok_of (show lw_tbl[1042]? = some (.code yX11_gain cX11_gain 6 (some .int)) from rfl) (by decide +kernel)
set_option maxRecDepth 20000 in
theorem snMq134 : snMok 134 = true := snMok_of (show lw_tbl[465]? = some (.code yX11_within cX11_within 3 (some .boolean)) from rfl) (by decide +kernel)
set_option maxRecDepth 20000 in
theorem snMq135 : snMok 135 = true := snMok_of (show lw_tbl[712]? = some (.code yX11_isState cX11_isState 2 (some .boolean)) from rfl) (by decide +kernel)
set_option maxRecDepth 20000 in
theorem snMq136 : snMok 136 = true := snMok_of (show lw_tbl[715]? = some (.code yX11_isMove cX11_isMove 1 (some .boolean)) from rfl) (by decide +kernel)
set_option maxRecDepth 20000 in
theorem snMq137 : snMok 137 = true := snMok_of (show lw_tbl[718]? = some (.code yX11_placeOf cX11_placeOf 4 (some .int)) from rfl) (by decide +kernel)
set_option maxRecDepth 20000 in
theorem snMq138 : snMok 138 = true := snMok_of (show lw_tbl[740]? = some (.code yX11_yardsAt cX11_yardsAt 1 (some .int)) from rfl) (by decide +kernel)
set_option maxRecDepth 20000 in
theorem snMq139 : snMok 139 = true := snMok_of (show lw_tbl[725]? = some (.code yX11_breathAt cX11_breathAt 1 (some .int)) from rfl) (by decide +kernel)
set_option maxRecDepth 20000 in
theorem snMq140 : snMok 140 = true := snMok_of (show lw_tbl[743]? = some (.code yX11_isSeenAt cX11_isSeenAt 1 (some .boolean)) from rfl) (by decide +kernel)
set_option maxRecDepth 20000 in
theorem snMq141 : snMok 141 = true := snMok_of (show lw_tbl[969]? = some (.code yX11_roundedUp cX11_roundedUp 2 (some .int)) from rfl) (by decide +kernel)
set_option maxRecDepth 20000 in
theorem snMq142 : snMok 142 = true := snMok_of (show lw_tbl[798]? = some (.code yX11_hundreds cX11_hundreds 1 (some .long)) from rfl) (by decide +kernel)
set_option maxRecDepth 20000 in
theorem snMq143 : snMok 143 = true := snMok_of (show lw_tbl[959]? = some (.code yX11_tens cX11_tens 1 (some .long)) from rfl) (by decide +kernel)
set_option maxRecDepth 20000 in
theorem snMq144 : snMok 144 = true := snMok_of (show lw_tbl[502]? = some (.code yX11_faultOf cX11_faultOf 2 (some .int)) from rfl) (by decide +kernel)
set_option maxRecDepth 20000 in
theorem snMq145 : snMok 145 = true := snMok_of (show lw_tbl[498]? = some (.code yX11_item cX11_item 2 (some .int)) from rfl) (by decide +kernel)
set_option maxRecDepth 20000 in
theorem snMq146 : snMok 146 = true := snMok_of (show lw_tbl[484]? = some (.code yX11_put cX11_put 3 none) from rfl) (by decide +kernel)
set_option maxRecDepth 20000 in
theorem snMq147 : snMok 147 = true := snMok_of (show lw_tbl[804]? = some (.code yX11_longItem cX11_longItem 2 (some .long)) from rfl) (by decide +kernel)
set_option maxRecDepth 20000 in
theorem snMq148 : snMok 148 = true := snMok_of (show lw_tbl[820]? = some (.code yX11_putLong cX11_putLong 4 none) from rfl) (by decide +kernel)
set_option maxRecDepth 20000 in
theorem snMq149 : snMok 149 = true := snMok_of (show lw_tbl[1178]? = some (.code yX12_init cX12_init 1 none) from rfl) (by decide +kernel)
set_option maxRecDepth 20000 in
theorem snMq150 : snMok 150 = true := snMok_of (show lw_tbl[1476]? = some (.code yX12_in cX12_in 3 (some .boolean)) from rfl) (by decide +kernel)
set_option maxRecDepth 20000 in
theorem snMq151 : snMok 151 = true := snMok_of (show lw_tbl[1665]? = some (.code yX12_min cX12_min 2 (some .int)) from rfl) (by decide +kernel)
set_option maxRecDepth 20000 in
theorem snMq152 : snMok 152 = true := snMok_of (show lw_tbl[1662]? = some (.code yX12_max cX12_max 2 (some .int)) from rfl) (by decide +kernel)
set_option maxRecDepth 20000 in
theorem snMq153 : snMok 153 = true := snMok_of (show lw_tbl[1827]? = some (.code yX12_has cX12_has 2 (some .boolean)) from rfl) (by decide +kernel)
set_option maxRecDepth 20000 in
theorem snMq154 : snMok 154 = true := snMok_of (show lw_tbl[1704]? = some (.code yX12_hundreds cX12_hundreds 4 (some .long)) from rfl) (by decide +kernel)
set_option maxRecDepth 20000 in
theorem snMq155 : snMok 155 = true := snMok_of (show lw_tbl[1771]? = some (.code yX12_gcd cX12_gcd 10 (some .long)) from rfl) (by decide +kernel)
set_option maxRecDepth 20000 in
theorem snMq156 : snMok 156 = true := snMok_of (show lw_tbl[1768]? = some (.code yX12_through cX12_through 7 (some .long)) from rfl) (by decide +kernel)
set_option maxRecDepth 20000 in
theorem snMq157 : snMok 157 = true := snMok_of (show lw_tbl[1469]? = some (.code yX12_types cX12_types 3 none) from rfl) (by decide +kernel)
set_option maxRecDepth 20000 in
theorem snMq158 : snMok 158 = true := snMok_of (show lw_tbl[1465]? = some (.code yX12_feed cX12_feed 6 (some .int)) from rfl) (by decide +kernel)
set_option maxRecDepth 20000 in
theorem snMq159 : snMok 159 = true := snMok_of (show lw_tbl[1473]? = some (.code yX12_steps cX12_steps 2 (some .boolean)) from rfl) (by decide +kernel)
set_option maxRecDepth 20000 in
theorem snMq160 : snMok 160 = true := snMok_of (show lw_tbl[1499]? = some (.code yX12_kindFor cX12_kindFor 1 (some .int)) from rfl) (by decide +kernel)
set_option maxRecDepth 20000 in
theorem snMq161 : snMok 161 = true := snMok_of (show lw_tbl[1484]? = some (.code yX12_readsPiece cX12_readsPiece 4 (some .boolean)) from rfl) (by decide +kernel)
set_option maxRecDepth 20000 in
theorem snMq162 : snMok 162 = true := snMok_of (show lw_tbl[1480]? = some (.code yX12_street cX12_street 4 (some .int)) from rfl) (by decide +kernel)
set_option maxRecDepth 20000 in
theorem snMq163 : snMok 163 = true := snMok_of (show lw_tbl[1510]? = some (.code yX12_boardsFor cX12_boardsFor 1 (some .int)) from rfl) (by decide +kernel)
set_option maxRecDepth 20000 in
theorem snMq164 : snMok 164 = true := snMok_of (show lw_tbl[1507]? = some (.code yX12_queue cX12_queue 5 (some .int)) from rfl) (by decide +kernel)
set_option maxRecDepth 20000 in
theorem snMq165 : snMok 165 = true := snMok_of (show lw_tbl[1640]? = some (.code yX12_kindWith cX12_kindWith 2 (some .int)) from rfl) (by decide +kernel)
set_option maxRecDepth 20000 in
theorem snMq166 : snMok 166 = true := snMok_of (show lw_tbl[1636]? = some (.code yX12_waitingAt cX12_waitingAt 4 (some .int)) from rfl) (by decide +kernel)
set_option maxRecDepth 20000 in
theorem snMq167 : snMok 167 = true := snMok_of (show lw_tbl[1492]? = some (.code yX12_here cX12_here 1 (some .int)) from rfl) (by decide +kernel)
set_option maxRecDepth 20000 in
theorem snMq168 : snMok 168 = true := snMok_of (show lw_tbl[1488]? = some (.code yX12_isDigit cX12_isDigit 1 (some .boolean)) from rfl) (by decide +kernel)
set_option maxRecDepth 20000 in
theorem snMq169 : snMok 169 = true := snMok_of (show lw_tbl[1496]? = some (.code yX12_wrongAt cX12_wrongAt 3 (some .boolean)) from rfl) (by decide +kernel)
set_option maxRecDepth 20000 in
theorem snMq170 : snMok 170 = true := snMok_of (show lw_tbl[1503]? = some (.code yX12_takes cX12_takes 2 (some .boolean)) from rfl) (by decide +kernel)
set_option maxRecDepth 20000 in
theorem snMq171 : snMok 171 = true := snMok_of (show lw_tbl[1542]? = some (.code yX12_readsNumber cX12_readsNumber 2 (some .boolean)) from rfl) (by decide +kernel)
set_option maxRecDepth 20000 in
theorem snMq172 : snMok 172 = true := snMok_of (show lw_tbl[1546]? = some (.code yX12_notes cX12_notes 3 none) from rfl) (by decide +kernel)
set_option maxRecDepth 20000 in
theorem snMq173 : snMok 173 = true := snMok_of (show lw_tbl[1537]? = some (.code yX12_opens cX12_opens 2 (some .boolean)) from rfl) (by decide +kernel)
set_option maxRecDepth 20000 in
theorem snMq174 : snMok 174 = true := snMok_of (show lw_tbl[1560]? = some (.code yX12_waitTop cX12_waitTop 1 (some .int)) from rfl) (by decide +kernel)
set_option maxRecDepth 20000 in
theorem snMq175 : snMok 175 = true := snMok_of (show lw_tbl[1549]? = some (.code yX12_factOf cX12_factOf 1 (some .int)) from rfl) (by decide +kernel)
set_option maxRecDepth 20000 in
theorem snMq176 : snMok 176 = true := snMok_of (show lw_tbl[1552]? = some (.code yX12_sumSign cX12_sumSign 1 (some .int)) from rfl) (by decide +kernel)
set_option maxRecDepth 20000 in
theorem snMq177 : snMok 177 = true := snMok_of (show lw_tbl[1556]? = some (.code yX12_closesSums cX12_closesSums 2 none) from rfl) (by decide +kernel)
set_option maxRecDepth 20000 in
theorem snMq178 : snMok 178 = true := snMok_of (show lw_tbl[1533]? = some (.code yX12_readsFactor cX12_readsFactor 2 (some .boolean)) from rfl) (by decide +kernel)
set_option maxRecDepth 20000 in
theorem snMq179 : snMok 179 = true := snMok_of (show lw_tbl[1564]? = some (.code yX12_hasOpenSum cX12_hasOpenSum 3 (some .boolean)) from rfl) (by decide +kernel)
set_option maxRecDepth 20000 in
theorem snMq180 : snMok 180 = true := snMok_of (show lw_tbl[1529]? = some (.code yX12_readsSum cX12_readsSum 3 (some .boolean)) from rfl) (by decide +kernel)
set_option maxRecDepth 20000 in
theorem snMq181 : snMok 181 = true := snMok_of (show lw_tbl[1576]? = some (.code yX12_endsPiece cX12_endsPiece 1 none) from rfl) (by decide +kernel)
set_option maxRecDepth 20000 in
theorem snMq182 : snMok 182 = true := snMok_of (show lw_tbl[1580]? = some (.code yX12_lands cX12_lands 3 none) from rfl) (by decide +kernel)
set_option maxRecDepth 20000 in
theorem snMq183 : snMok 183 = true := snMok_of (show lw_tbl[1584]? = some (.code yX12_jumps cX12_jumps 2 none) from rfl) (by decide +kernel)
set_option maxRecDepth 20000 in
theorem snMq184 : snMok 184 = true := snMok_of (show lw_tbl[1572]? = some (.code yX12_readsCompared cX12_readsCompared 2 (some .boolean)) from rfl) (by decide +kernel)
set_option maxRecDepth 20000 in
theorem snMq185 : snMok 185 = true := snMok_of (show lw_tbl[1568]? = some (.code yX12_readsCondition cX12_readsCondition 1 (some .boolean)) from rfl) (by decide +kernel)
set_option maxRecDepth 20000 in
theorem snMq186 : snMok 186 = true := snMok_of (show lw_tbl[1525]? = some (.code yX12_isClause cX12_isClause 2 (some .boolean)) from rfl) (by decide +kernel)
set_option maxRecDepth 20000 in
theorem snMq187 : snMok 187 = true := snMok_of (show lw_tbl[1522]? = some (.code yX12_readsClause cX12_readsClause 3 (some .boolean)) from rfl) (by decide +kernel)
set_option maxRecDepth 20000 in
theorem snMq188 : snMok 188 = true := snMok_of (show lw_tbl[1518]? = some (.code yX12_reads cX12_reads 6 (some .int)) from rfl) (by decide +kernel)
set_option maxRecDepth 20000 in
theorem snMq189 : snMok 189 = true := snMok_of (show lw_tbl[1514]? = some (.code yX12_law cX12_law 3 (some .int)) from rfl) (by decide +kernel)
set_option maxRecDepth 20000 in
theorem snMq190 : snMok 190 = true := snMok_of (show lw_tbl[1591]? = some (.code yX12_isRule cX12_isRule 1 (some .boolean)) from rfl) (by decide +kernel)
set_option maxRecDepth 20000 in
theorem snMq191 : snMok 191 = true := snMok_of (show lw_tbl[1735]? = some (.code yX12_isTold cX12_isTold 2 (some .boolean)) from rfl) (by decide +kernel)
set_option maxRecDepth 20000 in
theorem snMq192 : snMok 192 = true := snMok_of (show lw_tbl[1588]? = some (.code yX12_rule cX12_rule 3 (some .int)) from rfl) (by decide +kernel)
set_option maxRecDepth 20000 in
theorem snMq193 : snMok 193 = true := snMok_of (show lw_tbl[1651]? = some (.code yX12_reckon cX12_reckon 3 (some .int)) from rfl) (by decide +kernel)
set_option maxRecDepth 20000 in
theorem snMq194 : snMok 194 = true := snMok_of (show lw_tbl[1648]? = some (.code yX12_comesTo cX12_comesTo 8 (some .int)) from rfl) (by decide +kernel)
set_option maxRecDepth 20000 in
theorem snMq195 : snMok 195 = true := snMok_of (show lw_tbl[1644]? = some (.code yX12_byLaw cX12_byLaw 5 (some .int)) from rfl) (by decide +kernel)
set_option maxRecDepth 20000 in
theorem snMq196 : snMok 196 = true := snMok_of (show lw_tbl[1608]? = some (.code yX12_stateOf cX12_stateOf 4 (some .int)) from rfl) (by decide +kernel)
set_option maxRecDepth 20000 in
theorem snMq197 : snMok 197 = true := snMok_of (show lw_tbl[1623]? = some (.code yX12_yardsIn cX12_yardsIn 1 (some .int)) from rfl) (by decide +kernel)
set_option maxRecDepth 20000 in
theorem snMq198 : snMok 198 = true := snMok_of (show lw_tbl[1626]? = some (.code yX12_breathIn cX12_breathIn 1 (some .int)) from rfl) (by decide +kernel)
set_option maxRecDepth 20000 in
theorem snMq199 : snMok 199 = true := snMok_of (show lw_tbl[1629]? = some (.code yX12_seenIn cX12_seenIn 1 (some .int)) from rfl) (by decide +kernel)
set_option maxRecDepth 20000 in
theorem snMq200 : snMok 200 = true := snMok_of (show lw_tbl[1632]? = some (.code yX12_ranIn cX12_ranIn 1 (some .int)) from rfl) (by decide +kernel)
set_option maxRecDepth 20000 in
theorem snMq201 : snMok 201 = true := snMok_of (show lw_tbl[1599]? = some (.code yX12_isState cX12_isState 4 (some .boolean)) from rfl) (by decide +kernel)
set_option maxRecDepth 20000 in
theorem snMq202 : snMok 202 = true := snMok_of (show lw_tbl[1602]? = some (.code yX12_isAction cX12_isAction 1 (some .boolean)) from rfl) (by decide +kernel)
set_option maxRecDepth 20000 in
theorem snMq203 : snMok 203 = true := snMok_of (show lw_tbl[1605]? = some (.code yX12_told cX12_told 4 (some .int)) from rfl) (by decide +kernel)
set_option maxRecDepth 20000 in
theorem snMq204 : snMok 204 = true := snMok_of (show lw_tbl[1620]? = some (.code yX12_feels cX12_feels 4 none) from rfl) (by decide +kernel)
set_option maxRecDepth 20000 in
theorem snMq205 : snMok 205 = true := snMok_of (show lw_tbl[1616]? = some (.code yX12_asks cX12_asks 6 (some .int)) from rfl) (by decide +kernel)
set_option maxRecDepth 20000 in
theorem snMq206 : snMok 206 = true := snMok_of (show lw_tbl[1709]? = some (.code yX12_worth cX12_worth 3 (some .int)) from rfl) (by decide +kernel)
set_option maxRecDepth 20000 in
theorem snMq207 : snMok 207 = true := snMok_of (show lw_tbl[1713]? = some (.code yX12_costs cX12_costs 3 (some .int)) from rfl) (by decide +kernel)
set_option maxRecDepth 20000 in
theorem snMq208 : snMok 208 = true := snMok_of (show lw_tbl[1612]? = some (.code yX12_mayBe cX12_mayBe 4 (some .boolean)) from rfl) (by decide +kernel)
set_option maxRecDepth 20000 in
theorem snMq209 : snMok 209 = true := snMok_of (show lw_tbl[1659]? = some (.code yX12_behind cX12_behind 6 (some .int)) from rfl) (by decide +kernel)
set_option maxRecDepth 20000 in
theorem snMq210 : snMok 210 = true := snMok_of (show lw_tbl[1669]? = some (.code yX12_seenBy cX12_seenBy 4 (some .int)) from rfl) (by decide +kernel)
set_option maxRecDepth 20000 in
theorem snMq211 : snMok 211 = true := snMok_of (show lw_tbl[1672]? = some (.code yX12_asSeen cX12_asSeen 2 (some .int)) from rfl) (by decide +kernel)
set_option maxRecDepth 20000 in
theorem snMq212 : snMok 212 = true := snMok_of (show lw_tbl[1676]? = some (.code yX12_goesBy cX12_goesBy 3 (some .int)) from rfl) (by decide +kernel)
set_option maxRecDepth 20000 in
theorem snMq213 : snMok 213 = true := snMok_of (show lw_tbl[1595]? = some (.code yX12_may cX12_may 7 (some .int)) from rfl) (by decide +kernel)
set_option maxRecDepth 20000 in
theorem snMq214 : snMok 214 = true := snMok_of (show lw_tbl[1655]? = some (.code yX12_after cX12_after 10 (some .int)) from rfl) (by decide +kernel)
set_option maxRecDepth 20000 in
theorem snMq215 : snMok 215 = true := snMok_of (show lw_tbl[1693]? = some (.code yX12_marks cX12_marks 3 none) from rfl) (by decide +kernel)
set_option maxRecDepth 20000 in
theorem snMq216 : snMok 216 = true := snMok_of (show lw_tbl[1697]? = some (.code yX12_spreads cX12_spreads 6 none) from rfl) (by decide +kernel)
set_option maxRecDepth 20000 in
theorem snMq217 : snMok 217 = true := snMok_of (show lw_tbl[1717]? = some (.code yX12_valueBy cX12_valueBy 14 (some .long)) from rfl) (by decide +kernel)
set_option maxRecDepth 20000 in
theorem snMq218 : snMok 218 = true := snMok_of (show lw_tbl[1701]? = some (.code yX12_solvesAt cX12_solvesAt 7 none) from rfl) (by decide +kernel)
set_option maxRecDepth 20000 in
theorem snMq219 : snMok 219 = true := snMok_of (show lw_tbl[1689]? = some (.code yX12_solves cX12_solves 5 (some .long)) from rfl) (by decide +kernel)
set_option maxRecDepth 20000 in
theorem snMq220 : snMok 220 = true := snMok_of (show lw_tbl[1685]? = some (.code yX12_asTold cX12_asTold 1 none) from rfl) (by decide +kernel)
set_option maxRecDepth 20000 in
theorem snMq221 : snMok 221 = true := snMok_of (show lw_tbl[1680]? = some (.code yX12_best cX12_best 10 (some .long)) from rfl) (by decide +kernel)
set_option maxRecDepth 20000 in
theorem snMq222 : snMok 222 = true := snMok_of (show lw_tbl[1723]? = some (.code yX12_point cX12_point 9 (some .int)) from rfl) (by decide +kernel)
set_option maxRecDepth 20000 in
theorem snMq223 : snMok 223 = true := snMok_of (show lw_tbl[1727]? = some (.code yX12_more cX12_more 11 (some .long)) from rfl) (by decide +kernel)
set_option maxRecDepth 20000 in
theorem snMq224 : snMok 224 = true := snMok_of (show lw_tbl[1740]? = some (.code yX12_ruled cX12_ruled 6 (some .int)) from rfl) (by decide +kernel)
set_option maxRecDepth 20000 in
theorem snMq225 : snMok 225 = true := snMok_of (show lw_tbl[1760]? = some (.code yX12_actionNow cX12_actionNow 3 (some .int)) from rfl) (by decide +kernel)
set_option maxRecDepth 20000 in
theorem snMq226 : snMok 226 = true := snMok_of (show lw_tbl[1756]? = some (.code yX12_misses cX12_misses 5 none) from rfl) (by decide +kernel)
set_option maxRecDepth 20000 in
theorem snMq227 : snMok 227 = true := snMok_of (show lw_tbl[1752]? = some (.code yX12_catches cX12_catches 5 none) from rfl) (by decide +kernel)
set_option maxRecDepth 20000 in
theorem snMq228 : snMok 228 = true := snMok_of (show lw_tbl[1748]? = some (.code yX12_goes cX12_goes 15 none) from rfl) (by decide +kernel)
set_option maxRecDepth 20000 in
theorem snMq229 : snMok 229 = true := snMok_of (show lw_tbl[1744]? = some (.code yX12_goesThrough cX12_goesThrough 5 none) from rfl) (by decide +kernel)
set_option maxRecDepth 20000 in
theorem snMq230 : snMok 230 = true := snMok_of (show lw_tbl[1731]? = some (.code yX12_by cX12_by 9 (some .long)) from rfl) (by decide +kernel)
set_option maxRecDepth 20000 in
theorem snMq231 : snMok 231 = true := snMok_of (show lw_tbl[1764]? = some (.code yX12_near cX12_near 7 (some .long)) from rfl) (by decide +kernel)
set_option maxRecDepth 20000 in
theorem snMq232 : snMok 232 = true := snMok_of (show lw_tbl[1782]? = some (.code yX12_actionBy cX12_actionBy 1 (some .int)) from rfl) (by decide +kernel)
set_option maxRecDepth 20000 in
theorem snMq233 : snMok 233 = true := snMok_of (show lw_tbl[1779]? = some (.code yX12_readsRow cX12_readsRow 4 none) from rfl) (by decide +kernel)
set_option maxRecDepth 20000 in
theorem snMq234 : snMok 234 = true := snMok_of (show lw_tbl[1775]? = some (.code yX12_blind cX12_blind 12 (some .long)) from rfl) (by decide +kernel)
set_option maxRecDepth 20000 in
theorem snMq235 : snMok 235 = true := snMok_of (show lw_tbl[1794]? = some (.code yX12_cornerHere cX12_cornerHere 14 none) from rfl) (by decide +kernel)
set_option maxRecDepth 20000 in
theorem snMq236 : snMok 236 = true := snMok_of (show lw_tbl[1798]? = some (.code yX12_cornerGone cX12_cornerGone 7 none) from rfl) (by decide +kernel)
set_option maxRecDepth 20000 in
theorem snMq237 : snMok 237 = true := snMok_of (show lw_tbl[1790]? = some (.code yX12_cornerBy cX12_cornerBy 5 (some .long)) from rfl) (by decide +kernel)
set_option maxRecDepth 20000 in
theorem snMq238 : snMok 238 = true := snMok_of (show lw_tbl[1786]? = some (.code yX12_corner cX12_corner 12 (some .long)) from rfl) (by decide +kernel)
set_option maxRecDepth 20000 in
theorem snMq239 : snMok 239 = true := snMok_of (show lw_tbl[1806]? = some (.code yX12_leavesIn cX12_leavesIn 9 (some .long)) from rfl) (by decide +kernel)
set_option maxRecDepth 20000 in
theorem snMq240 : snMok 240 = true := snMok_of (show lw_tbl[1802]? = some (.code yX12_leaves cX12_leaves 9 (some .long)) from rfl) (by decide +kernel)
set_option maxRecDepth 20000 in
theorem snMq241 : snMok 241 = true := snMok_of (show lw_tbl[1810]? = some (.code yX12_over cX12_over 13 (some .long)) from rfl) (by decide +kernel)
set_option maxRecDepth 20000 in
theorem snMq242 : snMok 242 = true := snMok_of (show lw_tbl[1814]? = some (.code yX12_hadSeen cX12_hadSeen 13 (some .long)) from rfl) (by decide +kernel)
set_option maxRecDepth 20000 in
theorem snMq243 : snMok 243 = true := snMok_of (show lw_tbl[1819]? = some (.code yX12_line cX12_line 6 (some .boolean)) from rfl) (by decide +kernel)
set_option maxRecDepth 20000 in
theorem snMq244 : snMok 244 = true := snMok_of (show lw_tbl[1831]? = some (.code yX12_canBe cX12_canBe 5 (some .boolean)) from rfl) (by decide +kernel)
set_option maxRecDepth 20000 in
theorem snMq245 : snMok 245 = true := snMok_of (show lw_tbl[1824]? = some (.code yX12_which cX12_which 8 (some .int)) from rfl) (by decide +kernel)
set_option maxRecDepth 20000 in
theorem snMq246 : snMok 246 = true := snMok_of (show lw_tbl[1835]? = some (.code yX12_runner cX12_runner 5 (some .boolean)) from rfl) (by decide +kernel)
set_option maxRecDepth 20000 in
theorem snMq247 : snMok 247 = true := snMok_of (show lw_tbl[1844]? = some (.code yX12_waitsBy cX12_waitsBy 5 (some .int)) from rfl) (by decide +kernel)
set_option maxRecDepth 20000 in
theorem snMq248 : snMok 248 = true := snMok_of (show lw_tbl[1839]? = some (.code yX12_wait cX12_wait 5 (some .int)) from rfl) (by decide +kernel)
set_option maxRecDepth 20000 in
theorem snMq249 : snMok 249 = true := snMok_of (show lw_tbl[1851]? = some (.code yX12_gainOf cX12_gainOf 7 (some .int)) from rfl) (by decide +kernel)
set_option maxRecDepth 20000 in
theorem snMq250 : snMok 250 = true := snMok_of (show lw_tbl[1848]? = some (.code yX12_three cX12_three 10 (some .int)) from rfl) (by decide +kernel)
set_option maxRecDepth 20000 in
theorem snMq251 : snMok 251 = true := snMok_of (show lw_tbl[1863]? = some (.code yX12_draws cX12_draws 1 (some .int)) from rfl) (by decide +kernel)
set_option maxRecDepth 20000 in
theorem snMq252 : snMok 252 = true := snMok_of (show lw_tbl[1859]? = some (.code yX12_tries0 cX12_tries0 6 (some .int)) from rfl) (by decide +kernel)
set_option maxRecDepth 20000 in
theorem snMq253 : snMok 253 = true := snMok_of (show lw_tbl[1855]? = some (.code yX12_drawn cX12_drawn 8 (some .int)) from rfl) (by decide +kernel)
set_option maxRecDepth 20000 in
theorem snMq254 : snMok 254 = true := snMok_of (show lw_tbl[1868]? = some (.code yX12_log cX12_log 2 (some .int)) from rfl) (by decide +kernel)
set_option maxRecDepth 20000 in
theorem snMq255 : snMok 255 = true := snMok_of (show lw_tbl[1876]? = some (.code yX12_wrongIn cX12_wrongIn 4 (some .long)) from rfl) (by decide +kernel)
set_option maxRecDepth 20000 in
theorem snMq256 : snMok 256 = true := snMok_of (show lw_tbl[1872]? = some (.code yX12_wrong cX12_wrong 9 (some .long)) from rfl) (by decide +kernel)
set_option maxRecDepth 20000 in
theorem snMq257 : snMok 257 = true := snMok_of (show lw_tbl[1880]? = some (.code yX12_tries cX12_tries 4 (some .int)) from rfl) (by decide +kernel)
set_option maxRecDepth 20000 in
theorem snMq258 : snMok 258 = true := snMok_of (show lw_tbl[1884]? = some (.code yX12_book cX12_book 2 (some .int)) from rfl) (by decide +kernel)
set_option maxRecDepth 20000 in
theorem snMq259 : snMok 259 = true := snMok_of (show lw_tbl[1895]? = some (.code yX12_multiplies cX12_multiplies 7 none) from rfl) (by decide +kernel)
set_option maxRecDepth 20000 in
theorem snMq260 : snMok 260 = true := snMok_of (show lw_tbl[1892]? = some (.code yX12_products cX12_products 5 none) from rfl) (by decide +kernel)
set_option maxRecDepth 20000 in
theorem snMq261 : snMok 261 = true := snMok_of (show lw_tbl[1888]? = some (.code yX12_fits cX12_fits 6 (some .int)) from rfl) (by decide +kernel)
set_option maxRecDepth 20000 in
theorem snMq262 : snMok 262 = true := snMok_of (show lw_tbl[1899]? = some (.code yX12_seed cX12_seed 2 (some .boolean)) from rfl) (by decide +kernel)
set_option maxRecDepth 20000 in
theorem snMq263 : snMok 263 = true := snMok_of (show lw_tbl[1907]? = some (.code yX12_copies cX12_copies 4 none) from rfl) (by decide +kernel)
set_option maxRecDepth 20000 in
theorem snMq264 : snMok 264 = true := snMok_of (show lw_tbl[1904]? = some (.code yX12_keep cX12_keep 1 (some .int)) from rfl) (by decide +kernel)
set_option maxRecDepth 20000 in
theorem snMq265 : snMok 265 = true := snMok_of (show lw_tbl[1911]? = some (.code yX12_undo cX12_undo 1 (some .boolean)) from rfl) (by decide +kernel)
set_option maxRecDepth 20000 in
theorem snMq266 : snMok 266 = true := snMok_of (show lw_tbl[1919]? = some (.code yX12_tapeNumber cX12_tapeNumber 4 (some .int)) from rfl) (by decide +kernel)
set_option maxRecDepth 20000 in
theorem snMq267 : snMok 267 = true := snMok_of (show lw_tbl[1915]? = some (.code yX12_check cX12_check 3 (some .int)) from rfl) (by decide +kernel)
set_option maxRecDepth 20000 in
theorem snMq268 : snMok 268 = true := snMok_of (show lw_tbl[1923]? = some (.code yX12_count cX12_count 2 (some .int)) from rfl) (by decide +kernel)
set_option maxRecDepth 20000 in
theorem snMq269 : snMok 269 = true := snMok_of (show lw_tbl[581]? = some (.code yJ11_isValidCodePoint_9a6ad cJ11_isValidCodePoint_9a6ad 2 (some .boolean)) from rfl) (by decide +kernel)
set_option maxRecDepth 20000 in
theorem snMq270 : snMok 270 = true := snMok_of (show lw_tbl[584]? = some (.code yJ11_highSurrogate_5068e cJ11_highSurrogate_5068e 1 (some .char)) from rfl) (by decide +kernel)
set_option maxRecDepth 20000 in
theorem snMq271 : snMok 271 = true := snMok_of (show lw_tbl[588]? = some (.code yJ11_lowSurrogate_5068e cJ11_lowSurrogate_5068e 1 (some .char)) from rfl) (by decide +kernel)
set_option maxRecDepth 20000 in
theorem snMq272 : snMok 272 = true := snMok_of (show lw_tbl[1140]? = some (.code yJ6_compare_7cf53 cJ6_compare_7cf53 2 (some .int)) from rfl) (by decide +kernel)
set_option maxRecDepth 20000 in
theorem snMq273 : snMok 273 = true := snMok_of (show lw_tbl[1045]? = some (.code yJ6_bitCount_0f7a4 cJ6_bitCount_0f7a4 1 (some .int)) from rfl) (by decide +kernel)
set_option maxRecDepth 20000 in
theorem snMq274 : snMokF 274 = true := snMokG_of (show lw_tbl[534]? = some (.code yJ9_max_7cf53 cJ9_max_7cf53 2 (some .int)) from rfl) (by decide +kernel)
set_option maxRecDepth 20000 in
theorem snMq275 : snMokF 275 = true := snMokG_of (show lw_tbl[537]? = some (.code yJ9_min_7cf53 cJ9_min_7cf53 2 (some .int)) from rfl) (by decide +kernel)
set_option maxRecDepth 20000 in
theorem snMq276 : snMok 276 = true := snMok_of (show lw_tbl[521]? = some (.code yJ0_length_8abf5 cJ0_length_8abf5 1 (some .int)) from rfl) (by decide +kernel)
set_option maxRecDepth 20000 in
theorem snMq277 : snMok 277 = true := snMok_of (show lw_tbl[507]? = some (.code yJ0_indexOf_0f7a4 cJ0_indexOf_0f7a4 2 (some .int)) from rfl) (by decide +kernel)
set_option maxRecDepth 20000 in
theorem snMq278 : snMok 278 = true := snMok_of (show lw_tbl[511]? = some (.code yJ0_indexOf_7cf53 cJ0_indexOf_7cf53 3 (some .int)) from rfl) (by decide +kernel)
set_option maxRecDepth 20000 in
theorem snMq279 : snMok 279 = true := snMok_of (show lw_tbl[525]? = some (.code yJ0_coder_7d493 cJ0_coder_7d493 1 (some .byte)) from rfl) (by decide +kernel)
set_option maxRecDepth 20000 in
theorem snMq280 : snMok 280 = true := snMok_of (show lw_tbl[515]? = some (.code yJ0_isLatin1_aae02 cJ0_isLatin1_aae02 1 (some .boolean)) from rfl) (by decide +kernel)
set_option maxRecDepth 20000 in
theorem snMq281 : snMok 281 = true := snMok_of (show lw_tbl[558]? = some (.code yJ0_checkBoundsBeginEnd_23922 cJ0_checkBoundsBeginEnd_23922 3 none) from rfl) (by decide +kernel)
set_option maxRecDepth 20000 in
theorem snMq282 : snMok 282 = true := snMok_of (show lw_tbl[531]? = some (.code yJ1_canEncode_9a6ad cJ1_canEncode_9a6ad 1 (some .boolean)) from rfl) (by decide +kernel)
set_option maxRecDepth 20000 in
theorem snMq283 : snMok 283 = true := snMok_of (show lw_tbl[528]? = some (.code yJ1_indexOf_4cfef cJ1_indexOf_4cfef 4 (some .int)) from rfl) (by decide +kernel)
set_option maxRecDepth 20000 in
theorem snMq284 : snMok 284 = true := snMok_of (show lw_tbl[540]? = some (.code yJ1_indexOfChar_4cfef cJ1_indexOfChar_4cfef 6 (some .int)) from rfl) (by decide +kernel)
set_option maxRecDepth 20000 in
theorem snMq285 : snMok 285 = true := snMok_of (show lw_tbl[569]? = some (.code yJ2_getChar_3b067 cJ2_getChar_3b067 2 (some .char)) from rfl) (by decide +kernel)
set_option maxRecDepth 20000 in
theorem snMq286 : snMok 286 = true := snMok_of (show lw_tbl[555]? = some (.code yJ2_length_9d52b cJ2_length_9d52b 1 (some .int)) from rfl) (by decide +kernel)
set_option maxRecDepth 20000 in
theorem snMq287 : snMok 287 = true := snMok_of (show lw_tbl[543]? = some (.code yJ2_indexOf_4cfef cJ2_indexOf_4cfef 4 (some .int)) from rfl) (by decide +kernel)
set_option maxRecDepth 20000 in
theorem snMq288 : snMok 288 = true := snMok_of (show lw_tbl[549]? = some (.code yJ2_indexOfChar_4cfef cJ2_indexOfChar_4cfef 4 (some .int)) from rfl) (by decide +kernel)
set_option maxRecDepth 20000 in
theorem snMq289 : snMok 289 = true := snMok_of (show lw_tbl[566]? = some (.code yJ2_indexOfCharUnsafe_4cfef cJ2_indexOfCharUnsafe_4cfef 5 (some .int)) from rfl) (by decide +kernel)
set_option maxRecDepth 20000 in
theorem snMq290 : snMok 290 = true := snMok_of (show lw_tbl[578]? = some (.code yJ2_indexOfSupplementary_4cfef cJ2_indexOfSupplementary_4cfef 7 (some .int)) from rfl) (by decide +kernel)
set_option maxRecDepth 20000 in
theorem snMq291 : snMok 291 = true := snMok_of (show lw_tbl[552]? = some (.code yJ2_checkBoundsBeginEnd_d044e cJ2_checkBoundsBeginEnd_d044e 3 none) from rfl) (by decide +kernel)
set_option maxRecDepth 20000 in
theorem snMq292 : snMok 292 = true := snMok_of (show lw_tbl[563]? = some (.code yJ3_checkFromToIndex_8c36e cJ3_checkFromToIndex_8c36e 4 (some .int)) from rfl) (by decide +kernel)
theorem snMok_ok (μ : Nat) (h0 : 0 < μ) (h : μ < 293) : snMokF μ = true := by
  rcases Nat.lt_or_ge μ 17 with q1 | q1
  · have hc : μ = 1 ∨ μ = 2 ∨ μ = 3 ∨ μ = 4 ∨ μ = 5 ∨ μ = 6 ∨ μ = 7 ∨ μ = 8 ∨ μ = 9 ∨ μ = 10 ∨ μ = 11 ∨ μ = 12 ∨ μ = 13 ∨ μ = 14 ∨ μ = 15 ∨ μ = 16 := by omega
    rcases hc with rfl | rfl | rfl | rfl | rfl | rfl | rfl | rfl | rfl | rfl | rfl | rfl | rfl | rfl | rfl | rfl
    · exact snMokF_of snMq1
    · exact snMokF_of snMq2
    · exact snMokF_of snMq3
    · exact snMokF_of snMq4
    · exact snMokF_of snMq5
    · exact snMokF_of snMq6
    · exact snMokF_of snMq7
    · exact snMokF_of snMq8
    · exact snMokF_of snMq9
    · exact snMokF_of snMq10
    · exact snMokF_of snMq11
    · exact snMokF_of snMq12
    · exact snMokF_of snMq13
    · exact snMokF_of snMq14
    · exact snMokF_of snMq15
    · exact snMokF_of snMq16
  rcases Nat.lt_or_ge μ 33 with q17 | q17
  · have hc : μ = 17 ∨ μ = 18 ∨ μ = 19 ∨ μ = 20 ∨ μ = 21 ∨ μ = 22 ∨ μ = 23 ∨ μ = 24 ∨ μ = 25 ∨ μ = 26 ∨ μ = 27 ∨ μ = 28 ∨ μ = 29 ∨ μ = 30 ∨ μ = 31 ∨ μ = 32 := by omega
    rcases hc with rfl | rfl | rfl | rfl | rfl | rfl | rfl | rfl | rfl | rfl | rfl | rfl | rfl | rfl | rfl | rfl
    · exact snMokF_of snMq17
    · exact snMokF_of snMq18
    · exact snMokF_of snMq19
    · exact snMokF_of snMq20
    · exact snMokF_of snMq21
    · exact snMokF_of snMq22
    · exact snMokF_of snMq23
    · exact snMokF_of snMq24
    · exact snMokF_of snMq25
    · exact snMokF_of snMq26
    · exact snMokF_of snMq27
    · exact snMokF_of snMq28
    · exact snMokF_of snMq29
    · exact snMokF_of snMq30
    · exact snMokF_of snMq31
    · exact snMokF_of snMq32
  rcases Nat.lt_or_ge μ 49 with q33 | q33
  · have hc : μ = 33 ∨ μ = 34 ∨ μ = 35 ∨ μ = 36 ∨ μ = 37 ∨ μ = 38 ∨ μ = 39 ∨ μ = 40 ∨ μ = 41 ∨ μ = 42 ∨ μ = 43 ∨ μ = 44 ∨ μ = 45 ∨ μ = 46 ∨ μ = 47 ∨ μ = 48 := by omega
    rcases hc with rfl | rfl | rfl | rfl | rfl | rfl | rfl | rfl | rfl | rfl | rfl | rfl | rfl | rfl | rfl | rfl
    · exact snMokF_of snMq33
    · exact snMokF_of snMq34
    · exact snMokF_of snMq35
    · exact snMokF_of snMq36
    · exact snMokF_of snMq37
    · exact snMokF_of snMq38
    · exact snMokF_of snMq39
    · exact snMokF_of snMq40
    · exact snMokF_of snMq41
    · exact snMokF_of snMq42
    · exact snMokF_of snMq43
    · exact snMokF_of snMq44
    · exact snMokF_of snMq45
    · exact snMokF_of snMq46
    · exact snMokF_of snMq47
    · exact snMokF_of snMq48
  rcases Nat.lt_or_ge μ 65 with q49 | q49
  · have hc : μ = 49 ∨ μ = 50 ∨ μ = 51 ∨ μ = 52 ∨ μ = 53 ∨ μ = 54 ∨ μ = 55 ∨ μ = 56 ∨ μ = 57 ∨ μ = 58 ∨ μ = 59 ∨ μ = 60 ∨ μ = 61 ∨ μ = 62 ∨ μ = 63 ∨ μ = 64 := by omega
    rcases hc with rfl | rfl | rfl | rfl | rfl | rfl | rfl | rfl | rfl | rfl | rfl | rfl | rfl | rfl | rfl | rfl
    · exact snMokF_of snMq49
    · exact snMokF_of snMq50
    · exact snMokF_of snMq51
    · exact snMokF_of snMq52
    · exact snMokF_of snMq53
    · exact snMokF_of snMq54
    · exact snMokF_of snMq55
    · exact snMokF_of snMq56
    · exact snMokF_of snMq57
    · exact snMokF_of snMq58
    · exact snMokF_of snMq59
    · exact snMokF_of snMq60
    · exact snMokF_of snMq61
    · exact snMokF_of snMq62
    · exact snMokF_of snMq63
    · exact snMokF_of snMq64
  rcases Nat.lt_or_ge μ 81 with q65 | q65
  · have hc : μ = 65 ∨ μ = 66 ∨ μ = 67 ∨ μ = 68 ∨ μ = 69 ∨ μ = 70 ∨ μ = 71 ∨ μ = 72 ∨ μ = 73 ∨ μ = 74 ∨ μ = 75 ∨ μ = 76 ∨ μ = 77 ∨ μ = 78 ∨ μ = 79 ∨ μ = 80 := by omega
    rcases hc with rfl | rfl | rfl | rfl | rfl | rfl | rfl | rfl | rfl | rfl | rfl | rfl | rfl | rfl | rfl | rfl
    · exact snMokF_of snMq65
    · exact snMokF_of snMq66
    · exact snMokF_of snMq67
    · exact snMokF_of snMq68
    · exact snMokF_of snMq69
    · exact snMokF_of snMq70
    · exact snMokF_of snMq71
    · exact snMokF_of snMq72
    · exact snMokF_of snMq73
    · exact snMokF_of snMq74
    · exact snMokF_of snMq75
    · exact snMokF_of snMq76
    · exact snMokF_of snMq77
    · exact snMokF_of snMq78
    · exact snMokF_of snMq79
    · exact snMokF_of snMq80
  rcases Nat.lt_or_ge μ 97 with q81 | q81
  · have hc : μ = 81 ∨ μ = 82 ∨ μ = 83 ∨ μ = 84 ∨ μ = 85 ∨ μ = 86 ∨ μ = 87 ∨ μ = 88 ∨ μ = 89 ∨ μ = 90 ∨ μ = 91 ∨ μ = 92 ∨ μ = 93 ∨ μ = 94 ∨ μ = 95 ∨ μ = 96 := by omega
    rcases hc with rfl | rfl | rfl | rfl | rfl | rfl | rfl | rfl | rfl | rfl | rfl | rfl | rfl | rfl | rfl | rfl
    · exact snMokF_of snMq81
    · exact snMokF_of snMq82
    · exact snMokF_of snMq83
    · exact snMokF_of snMq84
    · exact snMokF_of snMq85
    · exact snMokF_of snMq86
    · exact snMokF_of snMq87
    · exact snMokF_of snMq88
    · exact snMokF_of snMq89
    · exact snMokF_of snMq90
    · exact snMokF_of snMq91
    · exact snMokF_of snMq92
    · exact snMokF_of snMq93
    · exact snMokF_of snMq94
    · exact snMokF_of snMq95
    · exact snMokF_of snMq96
  rcases Nat.lt_or_ge μ 113 with q97 | q97
  · have hc : μ = 97 ∨ μ = 98 ∨ μ = 99 ∨ μ = 100 ∨ μ = 101 ∨ μ = 102 ∨ μ = 103 ∨ μ = 104 ∨ μ = 105 ∨ μ = 106 ∨ μ = 107 ∨ μ = 108 ∨ μ = 109 ∨ μ = 110 ∨ μ = 111 ∨ μ = 112 := by omega
    rcases hc with rfl | rfl | rfl | rfl | rfl | rfl | rfl | rfl | rfl | rfl | rfl | rfl | rfl | rfl | rfl | rfl
    · exact snMokF_of snMq97
    · exact snMokF_of snMq98
    · exact snMokF_of snMq99
    · exact snMokF_of snMq100
    · exact snMokF_of snMq101
    · exact snMokF_of snMq102
    · exact snMokF_of snMq103
    · exact snMokF_of snMq104
    · exact snMokF_of snMq105
    · exact snMokF_of snMq106
    · exact snMokF_of snMq107
    · exact snMokF_of snMq108
    · exact snMokF_of snMq109
    · exact snMokF_of snMq110
    · exact snMokF_of snMq111
    · exact snMokF_of snMq112
  rcases Nat.lt_or_ge μ 129 with q113 | q113
  · have hc : μ = 113 ∨ μ = 114 ∨ μ = 115 ∨ μ = 116 ∨ μ = 117 ∨ μ = 118 ∨ μ = 119 ∨ μ = 120 ∨ μ = 121 ∨ μ = 122 ∨ μ = 123 ∨ μ = 124 ∨ μ = 125 ∨ μ = 126 ∨ μ = 127 ∨ μ = 128 := by omega
    rcases hc with rfl | rfl | rfl | rfl | rfl | rfl | rfl | rfl | rfl | rfl | rfl | rfl | rfl | rfl | rfl | rfl
    · exact snMokF_of snMq113
    · exact snMokF_of snMq114
    · exact snMokF_of snMq115
    · exact snMokF_of snMq116
    · exact snMokF_of snMq117
    · exact snMokF_of snMq118
    · exact snMokF_of snMq119
    · exact snMokF_of snMq120
    · exact snMokF_of snMq121
    · exact snMokF_of snMq122
    · exact snMokF_of snMq123
    · exact snMokF_of snMq124
    · exact snMokF_of snMq125
    · exact snMokF_of snMq126
    · exact snMokF_of snMq127
    · exact snMokF_of snMq128
  rcases Nat.lt_or_ge μ 145 with q129 | q129
  · have hc : μ = 129 ∨ μ = 130 ∨ μ = 131 ∨ μ = 132 ∨ μ = 133 ∨ μ = 134 ∨ μ = 135 ∨ μ = 136 ∨ μ = 137 ∨ μ = 138 ∨ μ = 139 ∨ μ = 140 ∨ μ = 141 ∨ μ = 142 ∨ μ = 143 ∨ μ = 144 := by omega
    rcases hc with rfl | rfl | rfl | rfl | rfl | rfl | rfl | rfl | rfl | rfl | rfl | rfl | rfl | rfl | rfl | rfl
    · exact snMokF_of snMq129
    · exact snMokF_of snMq130
    · exact snMokF_of snMq131
    · exact snMokF_of snMq132
    · exact snMokF_of snMq133
    · exact snMokF_of snMq134
    · exact snMokF_of snMq135
    · exact snMokF_of snMq136
    · exact snMokF_of snMq137
    · exact snMokF_of snMq138
    · exact snMokF_of snMq139
    · exact snMokF_of snMq140
    · exact snMokF_of snMq141
    · exact snMokF_of snMq142
    · exact snMokF_of snMq143
    · exact snMokF_of snMq144
  rcases Nat.lt_or_ge μ 161 with q145 | q145
  · have hc : μ = 145 ∨ μ = 146 ∨ μ = 147 ∨ μ = 148 ∨ μ = 149 ∨ μ = 150 ∨ μ = 151 ∨ μ = 152 ∨ μ = 153 ∨ μ = 154 ∨ μ = 155 ∨ μ = 156 ∨ μ = 157 ∨ μ = 158 ∨ μ = 159 ∨ μ = 160 := by omega
    rcases hc with rfl | rfl | rfl | rfl | rfl | rfl | rfl | rfl | rfl | rfl | rfl | rfl | rfl | rfl | rfl | rfl
    · exact snMokF_of snMq145
    · exact snMokF_of snMq146
    · exact snMokF_of snMq147
    · exact snMokF_of snMq148
    · exact snMokF_of snMq149
    · exact snMokF_of snMq150
    · exact snMokF_of snMq151
    · exact snMokF_of snMq152
    · exact snMokF_of snMq153
    · exact snMokF_of snMq154
    · exact snMokF_of snMq155
    · exact snMokF_of snMq156
    · exact snMokF_of snMq157
    · exact snMokF_of snMq158
    · exact snMokF_of snMq159
    · exact snMokF_of snMq160
  rcases Nat.lt_or_ge μ 177 with q161 | q161
  · have hc : μ = 161 ∨ μ = 162 ∨ μ = 163 ∨ μ = 164 ∨ μ = 165 ∨ μ = 166 ∨ μ = 167 ∨ μ = 168 ∨ μ = 169 ∨ μ = 170 ∨ μ = 171 ∨ μ = 172 ∨ μ = 173 ∨ μ = 174 ∨ μ = 175 ∨ μ = 176 := by omega
    rcases hc with rfl | rfl | rfl | rfl | rfl | rfl | rfl | rfl | rfl | rfl | rfl | rfl | rfl | rfl | rfl | rfl
    · exact snMokF_of snMq161
    · exact snMokF_of snMq162
    · exact snMokF_of snMq163
    · exact snMokF_of snMq164
    · exact snMokF_of snMq165
    · exact snMokF_of snMq166
    · exact snMokF_of snMq167
    · exact snMokF_of snMq168
    · exact snMokF_of snMq169
    · exact snMokF_of snMq170
    · exact snMokF_of snMq171
    · exact snMokF_of snMq172
    · exact snMokF_of snMq173
    · exact snMokF_of snMq174
    · exact snMokF_of snMq175
    · exact snMokF_of snMq176
  rcases Nat.lt_or_ge μ 193 with q177 | q177
  · have hc : μ = 177 ∨ μ = 178 ∨ μ = 179 ∨ μ = 180 ∨ μ = 181 ∨ μ = 182 ∨ μ = 183 ∨ μ = 184 ∨ μ = 185 ∨ μ = 186 ∨ μ = 187 ∨ μ = 188 ∨ μ = 189 ∨ μ = 190 ∨ μ = 191 ∨ μ = 192 := by omega
    rcases hc with rfl | rfl | rfl | rfl | rfl | rfl | rfl | rfl | rfl | rfl | rfl | rfl | rfl | rfl | rfl | rfl
    · exact snMokF_of snMq177
    · exact snMokF_of snMq178
    · exact snMokF_of snMq179
    · exact snMokF_of snMq180
    · exact snMokF_of snMq181
    · exact snMokF_of snMq182
    · exact snMokF_of snMq183
    · exact snMokF_of snMq184
    · exact snMokF_of snMq185
    · exact snMokF_of snMq186
    · exact snMokF_of snMq187
    · exact snMokF_of snMq188
    · exact snMokF_of snMq189
    · exact snMokF_of snMq190
    · exact snMokF_of snMq191
    · exact snMokF_of snMq192
  rcases Nat.lt_or_ge μ 209 with q193 | q193
  · have hc : μ = 193 ∨ μ = 194 ∨ μ = 195 ∨ μ = 196 ∨ μ = 197 ∨ μ = 198 ∨ μ = 199 ∨ μ = 200 ∨ μ = 201 ∨ μ = 202 ∨ μ = 203 ∨ μ = 204 ∨ μ = 205 ∨ μ = 206 ∨ μ = 207 ∨ μ = 208 := by omega
    rcases hc with rfl | rfl | rfl | rfl | rfl | rfl | rfl | rfl | rfl | rfl | rfl | rfl | rfl | rfl | rfl | rfl
    · exact snMokF_of snMq193
    · exact snMokF_of snMq194
    · exact snMokF_of snMq195
    · exact snMokF_of snMq196
    · exact snMokF_of snMq197
    · exact snMokF_of snMq198
    · exact snMokF_of snMq199
    · exact snMokF_of snMq200
    · exact snMokF_of snMq201
    · exact snMokF_of snMq202
    · exact snMokF_of snMq203
    · exact snMokF_of snMq204
    · exact snMokF_of snMq205
    · exact snMokF_of snMq206
    · exact snMokF_of snMq207
    · exact snMokF_of snMq208
  rcases Nat.lt_or_ge μ 225 with q209 | q209
  · have hc : μ = 209 ∨ μ = 210 ∨ μ = 211 ∨ μ = 212 ∨ μ = 213 ∨ μ = 214 ∨ μ = 215 ∨ μ = 216 ∨ μ = 217 ∨ μ = 218 ∨ μ = 219 ∨ μ = 220 ∨ μ = 221 ∨ μ = 222 ∨ μ = 223 ∨ μ = 224 := by omega
    rcases hc with rfl | rfl | rfl | rfl | rfl | rfl | rfl | rfl | rfl | rfl | rfl | rfl | rfl | rfl | rfl | rfl
    · exact snMokF_of snMq209
    · exact snMokF_of snMq210
    · exact snMokF_of snMq211
    · exact snMokF_of snMq212
    · exact snMokF_of snMq213
    · exact snMokF_of snMq214
    · exact snMokF_of snMq215
    · exact snMokF_of snMq216
    · exact snMokF_of snMq217
    · exact snMokF_of snMq218
    · exact snMokF_of snMq219
    · exact snMokF_of snMq220
    · exact snMokF_of snMq221
    · exact snMokF_of snMq222
    · exact snMokF_of snMq223
    · exact snMokF_of snMq224
  rcases Nat.lt_or_ge μ 241 with q225 | q225
  · have hc : μ = 225 ∨ μ = 226 ∨ μ = 227 ∨ μ = 228 ∨ μ = 229 ∨ μ = 230 ∨ μ = 231 ∨ μ = 232 ∨ μ = 233 ∨ μ = 234 ∨ μ = 235 ∨ μ = 236 ∨ μ = 237 ∨ μ = 238 ∨ μ = 239 ∨ μ = 240 := by omega
    rcases hc with rfl | rfl | rfl | rfl | rfl | rfl | rfl | rfl | rfl | rfl | rfl | rfl | rfl | rfl | rfl | rfl
    · exact snMokF_of snMq225
    · exact snMokF_of snMq226
    · exact snMokF_of snMq227
    · exact snMokF_of snMq228
    · exact snMokF_of snMq229
    · exact snMokF_of snMq230
    · exact snMokF_of snMq231
    · exact snMokF_of snMq232
    · exact snMokF_of snMq233
    · exact snMokF_of snMq234
    · exact snMokF_of snMq235
    · exact snMokF_of snMq236
    · exact snMokF_of snMq237
    · exact snMokF_of snMq238
    · exact snMokF_of snMq239
    · exact snMokF_of snMq240
  rcases Nat.lt_or_ge μ 257 with q241 | q241
  · have hc : μ = 241 ∨ μ = 242 ∨ μ = 243 ∨ μ = 244 ∨ μ = 245 ∨ μ = 246 ∨ μ = 247 ∨ μ = 248 ∨ μ = 249 ∨ μ = 250 ∨ μ = 251 ∨ μ = 252 ∨ μ = 253 ∨ μ = 254 ∨ μ = 255 ∨ μ = 256 := by omega
    rcases hc with rfl | rfl | rfl | rfl | rfl | rfl | rfl | rfl | rfl | rfl | rfl | rfl | rfl | rfl | rfl | rfl
    · exact snMokF_of snMq241
    · exact snMokF_of snMq242
    · exact snMokF_of snMq243
    · exact snMokF_of snMq244
    · exact snMokF_of snMq245
    · exact snMokF_of snMq246
    · exact snMokF_of snMq247
    · exact snMokF_of snMq248
    · exact snMokF_of snMq249
    · exact snMokF_of snMq250
    · exact snMokF_of snMq251
    · exact snMokF_of snMq252
    · exact snMokF_of snMq253
    · exact snMokF_of snMq254
    · exact snMokF_of snMq255
    · exact snMokF_of snMq256
  rcases Nat.lt_or_ge μ 273 with q257 | q257
  · have hc : μ = 257 ∨ μ = 258 ∨ μ = 259 ∨ μ = 260 ∨ μ = 261 ∨ μ = 262 ∨ μ = 263 ∨ μ = 264 ∨ μ = 265 ∨ μ = 266 ∨ μ = 267 ∨ μ = 268 ∨ μ = 269 ∨ μ = 270 ∨ μ = 271 ∨ μ = 272 := by omega
    rcases hc with rfl | rfl | rfl | rfl | rfl | rfl | rfl | rfl | rfl | rfl | rfl | rfl | rfl | rfl | rfl | rfl
    · exact snMokF_of snMq257
    · exact snMokF_of snMq258
    · exact snMokF_of snMq259
    · exact snMokF_of snMq260
    · exact snMokF_of snMq261
    · exact snMokF_of snMq262
    · exact snMokF_of snMq263
    · exact snMokF_of snMq264
    · exact snMokF_of snMq265
    · exact snMokF_of snMq266
    · exact snMokF_of snMq267
    · exact snMokF_of snMq268
    · exact snMokF_of snMq269
    · exact snMokF_of snMq270
    · exact snMokF_of snMq271
    · exact snMokF_of snMq272
  rcases Nat.lt_or_ge μ 289 with q273 | q273
  · have hc : μ = 273 ∨ μ = 274 ∨ μ = 275 ∨ μ = 276 ∨ μ = 277 ∨ μ = 278 ∨ μ = 279 ∨ μ = 280 ∨ μ = 281 ∨ μ = 282 ∨ μ = 283 ∨ μ = 284 ∨ μ = 285 ∨ μ = 286 ∨ μ = 287 ∨ μ = 288 := by omega
    rcases hc with rfl | rfl | rfl | rfl | rfl | rfl | rfl | rfl | rfl | rfl | rfl | rfl | rfl | rfl | rfl | rfl
    · exact snMokF_of snMq273
    · exact snMq274
    · exact snMq275
    · exact snMokF_of snMq276
    · exact snMokF_of snMq277
    · exact snMokF_of snMq278
    · exact snMokF_of snMq279
    · exact snMokF_of snMq280
    · exact snMokF_of snMq281
    · exact snMokF_of snMq282
    · exact snMokF_of snMq283
    · exact snMokF_of snMq284
    · exact snMokF_of snMq285
    · exact snMokF_of snMq286
    · exact snMokF_of snMq287
    · exact snMokF_of snMq288
  have hc : μ = 289 ∨ μ = 290 ∨ μ = 291 ∨ μ = 292 := by omega
  rcases hc with rfl | rfl | rfl | rfl
  · exact snMokF_of snMq289
  · exact snMokF_of snMq290
  · exact snMokF_of snMq291
  · exact snMokF_of snMq292
theorem snOwn_all : ((List.range 293).all snOwnOk) = true := by decide +kernel
theorem snOwn_ok (μ : Nat) (h : μ < 293) : snOwnOk μ = true := List.all_eq_true.mp snOwn_all μ (List.mem_range.mpr h)
