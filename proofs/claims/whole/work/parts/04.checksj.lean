set_option maxRecDepth 1000000 in
theorem pz_cw0 : lw_tbl[752]? = some (.code yX0_clear cX0_clear 1 none) := by rfl
set_option maxRecDepth 1000000 in
theorem pz_cw1 : lw_tbl[846]? = some (.code yX0_copyFrom cX0_copyFrom 2 none) := by rfl
set_option maxRecDepth 1000000 in
theorem pz_cw2 : lw_tbl[854]? = some (.code yX0_tell cX0_tell 2 (some .int)) := by rfl
set_option maxRecDepth 1000000 in
theorem pz_cw3 : lw_tbl[649]? = some (.code yX1_mayOf cX1_mayOf 3 (some .int)) := by rfl
set_option maxRecDepth 1000000 in
theorem pz_cw4 : lw_tbl[624]? = some (.code yX1_with cX1_with 5 (some .long)) := by rfl
set_option maxRecDepth 1000000 in
theorem pz_cw5 : lw_tbl[693]? = some (.code yX1_isPure cX1_isPure 2 (some .boolean)) := by rfl
set_option maxRecDepth 1000000 in
theorem pz_cw6 : lw_tbl[730]? = some (.code yX1_isOrderFree cX1_isOrderFree 6 (some .boolean)) := by rfl
set_option maxRecDepth 1000000 in
theorem pz_cw7 : lw_tbl[708]? = some (.code yX1_tell cX1_tell 3 (some .int)) := by rfl
set_option maxRecDepth 1000000 in
theorem pz_cw8 : lw_tbl[713]? = some (.code yX1_isRepeatable cX1_isRepeatable 2 (some .boolean)) := by rfl
set_option maxRecDepth 1000000 in
theorem pz_cw9 : lw_tbl[696]? = some (.code yX1_allWays cX1_allWays 3 (some .int)) := by rfl
set_option maxRecDepth 1000000 in
theorem pz_cw10 : lw_tbl[612]? = some (.code yX1_foresee cX1_foresee 4 none) := by rfl
set_option maxRecDepth 1000000 in
theorem pz_cw11 : lw_tbl[616]? = some (.code yX1_forget cX1_forget 2 none) := by rfl
set_option maxRecDepth 1000000 in
theorem pz_cw12 : lw_tbl[621]? = some (.code yX1_beginning cX1_beginning 6 (some .long)) := by rfl
set_option maxRecDepth 1000000 in
theorem pz_cw13 : lw_tbl[630]? = some (.code yX1_reach cX1_reach 8 none) := by rfl
set_option maxRecDepth 1000000 in
theorem pz_cw14 : lw_tbl[634]? = some (.code yX1_end cX1_end 3 none) := by rfl
set_option maxRecDepth 1000000 in
theorem pz_cw15 : lw_tbl[638]? = some (.code yX1_add cX1_add 5 none) := by rfl
set_option maxRecDepth 1000000 in
theorem pz_cw16 : lw_tbl[665]? = some (.code yX1_mayPrint cX1_mayPrint 2 none) := by rfl
set_option maxRecDepth 1000000 in
theorem pz_cw17 : lw_tbl[685]? = some (.code yX1_mayThrow cX1_mayThrow 6 none) := by rfl
set_option maxRecDepth 1000000 in
theorem pz_cw18 : lw_tbl[653]? = some (.code yX1_mayTouch cX1_mayTouch 6 none) := by rfl
set_option maxRecDepth 1000000 in
theorem pz_cw19 : lw_tbl[642]? = some (.code yX1_weigh cX1_weigh 8 none) := by rfl
set_option maxRecDepth 1000000 in
theorem pz_cw20 : lw_tbl[681]? = some (.code yX1_weighPlain cX1_weighPlain 10 (some .int)) := by rfl
set_option maxRecDepth 1000000 in
theorem pz_cw21 : lw_tbl[646]? = some (.code yX1_weighPart cX1_weighPart 15 (some .int)) := by rfl
set_option maxRecDepth 1000000 in
theorem pz_cw22 : lw_tbl[657]? = some (.code yX1_weighStatic cX1_weighStatic 9 none) := by rfl
set_option maxRecDepth 1000000 in
theorem pz_cw23 : lw_tbl[661]? = some (.code yX1_weighCall cX1_weighCall 10 (some .int)) := by rfl
set_option maxRecDepth 1000000 in
theorem pz_cw24 : lw_tbl[669]? = some (.code yX1_resultThere cX1_resultThere 8 (some .int)) := by rfl
set_option maxRecDepth 1000000 in
theorem pz_cw25 : lw_tbl[673]? = some (.code yX1_weighBranch cX1_weighBranch 14 none) := by rfl
set_option maxRecDepth 1000000 in
theorem pz_cw26 : lw_tbl[677]? = some (.code yX1_weighCheckOrEnd cX1_weighCheckOrEnd 7 (some .int)) := by rfl
set_option maxRecDepth 1000000 in
theorem pz_cw27 : lw_tbl[870]? = some (.code yX2_areAlike cX2_areAlike 5 (some .boolean)) := by rfl
set_option maxRecDepth 1000000 in
theorem pz_cw28 : lw_tbl[874]? = some (.code yX2_printedAlike cX2_printedAlike 2 (some .boolean)) := by rfl
set_option maxRecDepth 1000000 in
theorem pz_cw29 : lw_tbl[878]? = some (.code yX2_staticsAlike cX2_staticsAlike 2 (some .boolean)) := by rfl
set_option maxRecDepth 1000000 in
theorem pz_cw30 : lw_tbl[892]? = some (.code yX2_endedAlike cX2_endedAlike 5 (some .boolean)) := by rfl
set_option maxRecDepth 1000000 in
theorem pz_cw31 : lw_tbl[896]? = some (.code yX2_metAlike cX2_metAlike 2 (some .boolean)) := by rfl
set_option maxRecDepth 1000000 in
theorem pz_cw32 : lw_tbl[886]? = some (.code yX2_heldAlike cX2_heldAlike 5 (some .boolean)) := by rfl
set_option maxRecDepth 1000000 in
theorem pz_cw33 : lw_tbl[882]? = some (.code yX2_valuesAlike cX2_valuesAlike 4 (some .boolean)) := by rfl
set_option maxRecDepth 1000000 in
theorem pz_cw34 : lw_tbl[748]? = some (.code yX3_go cX3_go 8 (some .int)) := by rfl
set_option maxRecDepth 1000000 in
theorem pz_cw35 : lw_tbl[842]? = some (.code yX3_holdAgainst cX3_holdAgainst 4 none) := by rfl
set_option maxRecDepth 1000000 in
theorem pz_cw36 : lw_tbl[756]? = some (.code yX3_enter cX3_enter 3 none) := by rfl
set_option maxRecDepth 1000000 in
theorem pz_cw37 : lw_tbl[764]? = some (.code yX3_leave cX3_leave 4 none) := by rfl
set_option maxRecDepth 1000000 in
theorem pz_cw38 : lw_tbl[837]? = some (.code yX3_comeToCatch cX3_comeToCatch 4 (some .int)) := by rfl
set_option maxRecDepth 1000000 in
theorem pz_cw39 : lw_tbl[768]? = some (.code yX3_locals cX3_locals 1 (some .int)) := by rfl
set_option maxRecDepth 1000000 in
theorem pz_cw40 : lw_tbl[772]? = some (.code yX3_goOn cX3_goOn 1 (some .int)) := by rfl
set_option maxRecDepth 1000000 in
theorem pz_cw41 : lw_tbl[829]? = some (.code yX3_goOnAt cX3_goOnAt 2 (some .int)) := by rfl
set_option maxRecDepth 1000000 in
theorem pz_cw42 : lw_tbl[760]? = some (.code yX3_doNext cX3_doNext 5 (some .int)) := by rfl
set_option maxRecDepth 1000000 in
theorem pz_cw43 : lw_tbl[776]? = some (.code yX3_doNumbers cX3_doNumbers 6 (some .int)) := by rfl
set_option maxRecDepth 1000000 in
theorem pz_cw44 : lw_tbl[780]? = some (.code yX3_doReferences cX3_doReferences 6 (some .int)) := by rfl
set_option maxRecDepth 1000000 in
theorem pz_cw45 : lw_tbl[785]? = some (.code yX3_doField cX3_doField 9 (some .int)) := by rfl
set_option maxRecDepth 1000000 in
theorem pz_cw46 : lw_tbl[798]? = some (.code yX3_doItem cX3_doItem 9 (some .int)) := by rfl
set_option maxRecDepth 1000000 in
theorem pz_cw47 : lw_tbl[804]? = some (.code yX3_doStatic cX3_doStatic 6 (some .int)) := by rfl
set_option maxRecDepth 1000000 in
theorem pz_cw48 : lw_tbl[808]? = some (.code yX3_doSize cX3_doSize 3 (some .int)) := by rfl
set_option maxRecDepth 1000000 in
theorem pz_cw49 : lw_tbl[812]? = some (.code yX3_doCall cX3_doCall 6 (some .int)) := by rfl
set_option maxRecDepth 1000000 in
theorem pz_cw50 : lw_tbl[816]? = some (.code yX3_doPrint cX3_doPrint 2 (some .int)) := by rfl
set_option maxRecDepth 1000000 in
theorem pz_cw51 : lw_tbl[824]? = some (.code yX3_holds cX3_holds 5 (some .boolean)) := by rfl
set_option maxRecDepth 1000000 in
theorem pz_cw52 : lw_tbl[833]? = some (.code yX3_doCheckOrEnd cX3_doCheckOrEnd 6 (some .int)) := by rfl
set_option maxRecDepth 1000000 in
theorem pz_cw53 : lw_tbl[790]? = some (.code yX3_note cX3_note 5 none) := by rfl
set_option maxRecDepth 1000000 in
theorem pz_cw54 : lw_tbl[794]? = some (.code yX3_foreseenOf cX3_foreseenOf 7 (some .int)) := by rfl
set_option maxRecDepth 1000000 in
theorem pz_cw55 : lw_tbl[453]? = some (.code yX4_isClass cX4_isClass 2 (some .boolean)) := by rfl
set_option maxRecDepth 1000000 in
theorem pz_cw56 : lw_tbl[529]? = some (.code yX4_isStatic cX4_isStatic 2 (some .boolean)) := by rfl
set_option maxRecDepth 1000000 in
theorem pz_cw57 : lw_tbl[506]? = some (.code yX4_isMethod cX4_isMethod 2 (some .boolean)) := by rfl
set_option maxRecDepth 1000000 in
theorem pz_cw58 : lw_tbl[477]? = some (.code yX4_isBelow cX4_isBelow 3 (some .boolean)) := by rfl
set_option maxRecDepth 1000000 in
theorem pz_cw59 : lw_tbl[457]? = some (.code yX4_addClass cX4_addClass 3 (some .int)) := by rfl
set_option maxRecDepth 1000000 in
theorem pz_cw60 : lw_tbl[481]? = some (.code yX4_addField cX4_addField 4 (some .int)) := by rfl
set_option maxRecDepth 1000000 in
theorem pz_cw61 : lw_tbl[490]? = some (.code yX4_addStatic cX4_addStatic 2 (some .int)) := by rfl
set_option maxRecDepth 1000000 in
theorem pz_cw62 : lw_tbl[498]? = some (.code yX4_addMethod cX4_addMethod 4 (some .int)) := by rfl
set_option maxRecDepth 1000000 in
theorem pz_cw63 : lw_tbl[534]? = some (.code yX4_addLine cX4_addLine 7 (some .int)) := by rfl
set_option maxRecDepth 1000000 in
theorem pz_cw64 : lw_tbl[542]? = some (.code yX4_addCatch cX4_addCatch 7 (some .int)) := by rfl
set_option maxRecDepth 1000000 in
theorem pz_cw65 : lw_tbl[689]? = some (.code yX4_catchLine cX4_catchLine 7 (some .int)) := by rfl
set_option maxRecDepth 1000000 in
theorem pz_cw66 : lw_tbl[510]? = some (.code yX4_fits cX4_fits 7 (some .boolean)) := by rfl
set_option maxRecDepth 1000000 in
theorem pz_cw67 : lw_tbl[516]? = some (.code yX4_suits cX4_suits 4 (some .boolean)) := by rfl
set_option maxRecDepth 1000000 in
theorem pz_cw68 : lw_tbl[520]? = some (.code yX4_isLocal cX4_isLocal 2 (some .boolean)) := by rfl
set_option maxRecDepth 1000000 in
theorem pz_cw69 : lw_tbl[525]? = some (.code yX4_isFieldOf cX4_isFieldOf 3 (some .boolean)) := by rfl
set_option maxRecDepth 1000000 in
theorem pz_cw70 : lw_tbl[738]? = some (.code yX5_copyFrom cX5_copyFrom 2 none) := by rfl
set_option maxRecDepth 1000000 in
theorem pz_cw71 : lw_tbl[566]? = some (.code yX5_isThing cX5_isThing 2 (some .boolean)) := by rfl
set_option maxRecDepth 1000000 in
theorem pz_cw72 : lw_tbl[582]? = some (.code yX5_isThingOrNull cX5_isThingOrNull 2 (some .boolean)) := by rfl
set_option maxRecDepth 1000000 in
theorem pz_cw73 : lw_tbl[570]? = some (.code yX5_itemsOf cX5_itemsOf 2 (some .int)) := by rfl
set_option maxRecDepth 1000000 in
theorem pz_cw74 : lw_tbl[473]? = some (.code yX5_isArray cX5_isArray 2 (some .boolean)) := by rfl
set_option maxRecDepth 1000000 in
theorem pz_cw75 : lw_tbl[469]? = some (.code yX5_isObjectBelow cX5_isObjectBelow 4 (some .boolean)) := by rfl
set_option maxRecDepth 1000000 in
theorem pz_cw76 : lw_tbl[574]? = some (.code yX5_hasField cX5_hasField 4 (some .boolean)) := by rfl
set_option maxRecDepth 1000000 in
theorem pz_cw77 : lw_tbl[465]? = some (.code yX5_hasObjectBelow cX5_hasObjectBelow 4 (some .boolean)) := by rfl
set_option maxRecDepth 1000000 in
theorem pz_cw78 : lw_tbl[562]? = some (.code yX5_holds cX5_holds 4 (some .boolean)) := by rfl
set_option maxRecDepth 1000000 in
theorem pz_cw79 : lw_tbl[578]? = some (.code yX5_refersAt cX5_refersAt 4 (some .boolean)) := by rfl
set_option maxRecDepth 1000000 in
theorem pz_cw80 : lw_tbl[550]? = some (.code yX5_make cX5_make 5 (some .int)) := by rfl
set_option maxRecDepth 1000000 in
theorem pz_cw81 : lw_tbl[820]? = some (.code yX5_print cX5_print 2 none) := by rfl
set_option maxRecDepth 1000000 in
theorem pz_cw82 : lw_tbl[449]? = some (.code yX6_type cX6_type 2 (some .int)) := by rfl
set_option maxRecDepth 1000000 in
theorem pz_cw83 : lw_tbl[461]? = some (.code yX6_field cX6_field 3 (some .int)) := by rfl
set_option maxRecDepth 1000000 in
theorem pz_cw84 : lw_tbl[486]? = some (.code yX6_shared cX6_shared 2 (some .int)) := by rfl
set_option maxRecDepth 1000000 in
theorem pz_cw85 : lw_tbl[494]? = some (.code yX6_method cX6_method 4 (some .int)) := by rfl
set_option maxRecDepth 1000000 in
theorem pz_cw86 : lw_tbl[502]? = some (.code yX6_line cX6_line 6 (some .int)) := by rfl
set_option maxRecDepth 1000000 in
theorem pz_cw87 : lw_tbl[538]? = some (.code yX6_caught cX6_caught 6 (some .int)) := by rfl
set_option maxRecDepth 1000000 in
theorem pz_cw88 : lw_tbl[546]? = some (.code yX6_thing cX6_thing 2 (some .int)) := by rfl
set_option maxRecDepth 1000000 in
theorem pz_cw89 : lw_tbl[554]? = some (.code yX6_array cX6_array 2 (some .int)) := by rfl
set_option maxRecDepth 1000000 in
theorem pz_cw90 : lw_tbl[558]? = some (.code yX6_put cX6_put 4 (some .int)) := by rfl
set_option maxRecDepth 1000000 in
theorem pz_cw91 : lw_tbl[586]? = some (.code yX6_set cX6_set 3 (some .int)) := by rfl
set_option maxRecDepth 1000000 in
theorem pz_cw92 : lw_tbl[591]? = some (.code yX6_get cX6_get 3 (some .int)) := by rfl
set_option maxRecDepth 1000000 in
theorem pz_cw93 : lw_tbl[595]? = some (.code yX6_stat cX6_stat 2 (some .int)) := by rfl
set_option maxRecDepth 1000000 in
theorem pz_cw94 : lw_tbl[599]? = some (.code yX6_kind cX6_kind 2 (some .int)) := by rfl
set_option maxRecDepth 1000000 in
theorem pz_cw95 : lw_tbl[604]? = some (.code yX6_arg cX6_arg 7 (some .int)) := by rfl
set_option maxRecDepth 1000000 in
theorem pz_cw96 : lw_tbl[608]? = some (.code yX6_analyse cX6_analyse 3 (some .int)) := by rfl
set_option maxRecDepth 1000000 in
theorem pz_cw97 : lw_tbl[700]? = some (.code yX6_effects cX6_effects 3 (some .int)) := by rfl
set_option maxRecDepth 1000000 in
theorem pz_cw98 : lw_tbl[717]? = some (.code yX6_by cX6_by 4 (some .int)) := by rfl
set_option maxRecDepth 1000000 in
theorem pz_cw99 : lw_tbl[721]? = some (.code yX6_may cX6_may 4 (some .int)) := by rfl
set_option maxRecDepth 1000000 in
theorem pz_cw100 : lw_tbl[726]? = some (.code yX6_free cX6_free 3 (some .int)) := by rfl
set_option maxRecDepth 1000000 in
theorem pz_cw101 : lw_tbl[704]? = some (.code yX6_isAnalysed cX6_isAnalysed 2 (some .boolean)) := by rfl
set_option maxRecDepth 1000000 in
theorem pz_cw102 : lw_tbl[734]? = some (.code yX6_run cX6_run 3 (some .int)) := by rfl
set_option maxRecDepth 1000000 in
theorem pz_cw103 : lw_tbl[850]? = some (.code yX6_did cX6_did 2 (some .int)) := by rfl
set_option maxRecDepth 1000000 in
theorem pz_cw104 : lw_tbl[858]? = some (.code yX6_foreseen cX6_foreseen 1 (some .int)) := by rfl
set_option maxRecDepth 1000000 in
theorem pz_cw105 : lw_tbl[862]? = some (.code yX6_both cX6_both 5 (some .int)) := by rfl
set_option maxRecDepth 1000000 in
theorem pz_cw106 : lw_tbl[866]? = some (.code yX6_tryOne cX6_tryOne 5 (some .boolean)) := by rfl
set_option maxRecDepth 1000000 in
theorem pz_cw107 : lw_tbl[900]? = some (.code yX6_printed cX6_printed 2 (some .int)) := by rfl
set_option maxRecDepth 1000000 in
theorem pz_cw108 : lw_tbl[904]? = some (.code yX6_count cX6_count 2 (some .int)) := by rfl
set_option maxRecDepth 1000000 in
theorem pz_cw109 : lw_tbl[1131]? = some (.code yX7_beyond cX7_beyond 6 (some .boolean)) := by rfl
set_option maxRecDepth 1000000 in
theorem pz_cw110 : lw_tbl[1128]? = some (.code yX7_type cX7_type 2 (some .int)) := by rfl
set_option maxRecDepth 1000000 in
theorem pz_cw111 : lw_tbl[1139]? = some (.code yX7_isBelow cX7_isBelow 4 (some .boolean)) := by rfl
set_option maxRecDepth 1000000 in
theorem pz_cw112 : lw_tbl[1135]? = some (.code yX7_field cX7_field 4 (some .int)) := by rfl
set_option maxRecDepth 1000000 in
theorem pz_cw113 : lw_tbl[1143]? = some (.code yX7_shared cX7_shared 2 (some .int)) := by rfl
set_option maxRecDepth 1000000 in
theorem pz_cw114 : lw_tbl[1147]? = some (.code yX7_method cX7_method 4 (some .int)) := by rfl
set_option maxRecDepth 1000000 in
theorem pz_cw115 : lw_tbl[1161]? = some (.code yX7_local cX7_local 1 (some .boolean)) := by rfl
set_option maxRecDepth 1000000 in
theorem pz_cw116 : lw_tbl[1166]? = some (.code yX7_aField cX7_aField 3 (some .boolean)) := by rfl
set_option maxRecDepth 1000000 in
theorem pz_cw117 : lw_tbl[1170]? = some (.code yX7_aStatic cX7_aStatic 3 (some .boolean)) := by rfl
set_option maxRecDepth 1000000 in
theorem pz_cw118 : lw_tbl[1158]? = some (.code yX7_fits cX7_fits 6 (some .boolean)) := by rfl
set_option maxRecDepth 1000000 in
theorem pz_cw119 : lw_tbl[1153]? = some (.code yX7_line cX7_line 7 (some .int)) := by rfl
set_option maxRecDepth 1000000 in
theorem pz_cw120 : lw_tbl[1175]? = some (.code yX7_caught cX7_caught 7 (some .int)) := by rfl
set_option maxRecDepth 1000000 in
theorem pz_cw121 : lw_tbl[1241]? = some (.code yX7_catchOf cX7_catchOf 5 (some .int)) := by rfl
set_option maxRecDepth 1000000 in
theorem pz_cw122 : lw_tbl[1184]? = some (.code yX7_clearThing cX7_clearThing 3 none) := by rfl
set_option maxRecDepth 1000000 in
theorem pz_cw123 : lw_tbl[1180]? = some (.code yX7_thing cX7_thing 2 (some .int)) := by rfl
set_option maxRecDepth 1000000 in
theorem pz_cw124 : lw_tbl[1188]? = some (.code yX7_array cX7_array 2 (some .int)) := by rfl
set_option maxRecDepth 1000000 in
theorem pz_cw125 : lw_tbl[1197]? = some (.code yX7_noThing cX7_noThing 2 (some .boolean)) := by rfl
set_option maxRecDepth 1000000 in
theorem pz_cw126 : lw_tbl[1201]? = some (.code yX7_hasIt cX7_hasIt 3 (some .boolean)) := by rfl
set_option maxRecDepth 1000000 in
theorem pz_cw127 : lw_tbl[1193]? = some (.code yX7_put cX7_put 4 (some .int)) := by rfl
set_option maxRecDepth 1000000 in
theorem pz_cw128 : lw_tbl[1205]? = some (.code yX7_set cX7_set 3 (some .int)) := by rfl
set_option maxRecDepth 1000000 in
theorem pz_cw129 : lw_tbl[1209]? = some (.code yX7_get cX7_get 3 (some .int)) := by rfl
set_option maxRecDepth 1000000 in
theorem pz_cw130 : lw_tbl[1213]? = some (.code yX7_stat cX7_stat 2 (some .int)) := by rfl
set_option maxRecDepth 1000000 in
theorem pz_cw131 : lw_tbl[1217]? = some (.code yX7_kind cX7_kind 2 (some .int)) := by rfl
set_option maxRecDepth 1000000 in
theorem pz_cw132 : lw_tbl[1221]? = some (.code yX7_arg cX7_arg 7 (some .int)) := by rfl
set_option maxRecDepth 1000000 in
theorem pz_cw133 : lw_tbl[1229]? = some (.code yX7_comes cX7_comes 6 none) := by rfl
set_option maxRecDepth 1000000 in
theorem pz_cw134 : lw_tbl[1237]? = some (.code yX7_faults cX7_faults 5 none) := by rfl
set_option maxRecDepth 1000000 in
theorem pz_cw135 : lw_tbl[1246]? = some (.code yX7_touches cX7_touches 8 none) := by rfl
set_option maxRecDepth 1000000 in
theorem pz_cw136 : lw_tbl[1254]? = some (.code yX7_printsMay cX7_printsMay 2 none) := by rfl
set_option maxRecDepth 1000000 in
theorem pz_cw137 : lw_tbl[1266]? = some (.code yX7_endsWith cX7_endsWith 3 none) := by rfl
set_option maxRecDepth 1000000 in
theorem pz_cw138 : lw_tbl[1258]? = some (.code yX7_seen cX7_seen 6 (some .int)) := by rfl
set_option maxRecDepth 1000000 in
theorem pz_cw139 : lw_tbl[1250]? = some (.code yX7_calls cX7_calls 8 none) := by rfl
set_option maxRecDepth 1000000 in
theorem pz_cw140 : lw_tbl[1233]? = some (.code yX7_goThrough cX7_goThrough 12 none) := by rfl
set_option maxRecDepth 1000000 in
theorem pz_cw141 : lw_tbl[1262]? = some (.code yX7_splits cX7_splits 6 (some .boolean)) := by rfl
set_option maxRecDepth 1000000 in
theorem pz_cw142 : lw_tbl[1225]? = some (.code yX7_analyse cX7_analyse 3 (some .int)) := by rfl
set_option maxRecDepth 1000000 in
theorem pz_cw143 : lw_tbl[1274]? = some (.code yX7_all cX7_all 5 (some .int)) := by rfl
set_option maxRecDepth 1000000 in
theorem pz_cw144 : lw_tbl[1270]? = some (.code yX7_isPure cX7_isPure 2 (some .boolean)) := by rfl
set_option maxRecDepth 1000000 in
theorem pz_cw145 : lw_tbl[1282]? = some (.code yX7_noMethod cX7_noMethod 2 (some .boolean)) := by rfl
set_option maxRecDepth 1000000 in
theorem pz_cw146 : lw_tbl[1278]? = some (.code yX7_effects cX7_effects 3 (some .int)) := by rfl
set_option maxRecDepth 1000000 in
theorem pz_cw147 : lw_tbl[1286]? = some (.code yX7_by cX7_by 4 (some .int)) := by rfl
set_option maxRecDepth 1000000 in
theorem pz_cw148 : lw_tbl[1290]? = some (.code yX7_may cX7_may 4 (some .int)) := by rfl
set_option maxRecDepth 1000000 in
theorem pz_cw149 : lw_tbl[1294]? = some (.code yX7_free cX7_free 4 (some .int)) := by rfl
set_option maxRecDepth 1000000 in
theorem pz_cw150 : lw_tbl[1310]? = some (.code yX7_open cX7_open 3 (some .boolean)) := by rfl
set_option maxRecDepth 1000000 in
theorem pz_cw151 : lw_tbl[1318]? = some (.code yX7_close cX7_close 5 none) := by rfl
set_option maxRecDepth 1000000 in
theorem pz_cw152 : lw_tbl[1330]? = some (.code yX7_thrown cX7_thrown 4 none) := by rfl
set_option maxRecDepth 1000000 in
theorem pz_cw153 : lw_tbl[1349]? = some (.code yX7_made cX7_made 3 (some .int)) := by rfl
set_option maxRecDepth 1000000 in
theorem pz_cw154 : lw_tbl[1334]? = some (.code yX7_reads cX7_reads 3 none) := by rfl
set_option maxRecDepth 1000000 in
theorem pz_cw155 : lw_tbl[1338]? = some (.code yX7_wrote cX7_wrote 3 none) := by rfl
set_option maxRecDepth 1000000 in
theorem pz_cw156 : lw_tbl[1326]? = some (.code yX7_meets cX7_meets 6 (some .int)) := by rfl
set_option maxRecDepth 1000000 in
theorem pz_cw157 : lw_tbl[1314]? = some (.code yX7_step cX7_step 4 none) := by rfl
set_option maxRecDepth 1000000 in
theorem pz_cw158 : lw_tbl[1322]? = some (.code yX7_access cX7_access 11 none) := by rfl
set_option maxRecDepth 1000000 in
theorem pz_cw159 : lw_tbl[1345]? = some (.code yX7_wholes cX7_wholes 3 (some .int)) := by rfl
set_option maxRecDepth 1000000 in
theorem pz_cw160 : lw_tbl[1342]? = some (.code yX7_work cX7_work 7 none) := by rfl
set_option maxRecDepth 1000000 in
theorem pz_cw161 : lw_tbl[1353]? = some (.code yX7_row cX7_row 4 none) := by rfl
set_option maxRecDepth 1000000 in
theorem pz_cw162 : lw_tbl[1361]? = some (.code yX7_print cX7_print 2 none) := by rfl
set_option maxRecDepth 1000000 in
theorem pz_cw163 : lw_tbl[1357]? = some (.code yX7_call cX7_call 5 none) := by rfl
set_option maxRecDepth 1000000 in
theorem pz_cw164 : lw_tbl[1369]? = some (.code yX7_isObject cX7_isObject 3 (some .boolean)) := by rfl
set_option maxRecDepth 1000000 in
theorem pz_cw165 : lw_tbl[1365]? = some (.code yX7_jump cX7_jump 7 none) := by rfl
set_option maxRecDepth 1000000 in
theorem pz_cw166 : lw_tbl[1306]? = some (.code yX7_goes cX7_goes 5 (some .boolean)) := by rfl
set_option maxRecDepth 1000000 in
theorem pz_cw167 : lw_tbl[1302]? = some (.code yX7_save cX7_save 4 none) := by rfl
set_option maxRecDepth 1000000 in
theorem pz_cw168 : lw_tbl[1373]? = some (.code yX7_restore cX7_restore 4 none) := by rfl
set_option maxRecDepth 1000000 in
theorem pz_cw169 : lw_tbl[1377]? = some (.code yX7_isForeseen cX7_isForeseen 8 (some .boolean)) := by rfl
set_option maxRecDepth 1000000 in
theorem pz_cw170 : lw_tbl[1298]? = some (.code yX7_run cX7_run 2 (some .int)) := by rfl
set_option maxRecDepth 1000000 in
theorem pz_cw171 : lw_tbl[1381]? = some (.code yX7_did cX7_did 2 (some .int)) := by rfl
set_option maxRecDepth 1000000 in
theorem pz_cw172 : lw_tbl[1386]? = some (.code yX7_foreseen cX7_foreseen 1 (some .int)) := by rfl
set_option maxRecDepth 1000000 in
theorem pz_cw173 : lw_tbl[1402]? = some (.code yX7_likeRefs cX7_likeRefs 4 (some .boolean)) := by rfl
set_option maxRecDepth 1000000 in
theorem pz_cw174 : lw_tbl[1406]? = some (.code yX7_likeThings cX7_likeThings 8 (some .boolean)) := by rfl
set_option maxRecDepth 1000000 in
theorem pz_cw175 : lw_tbl[1398]? = some (.code yX7_likeEnds cX7_likeEnds 7 (some .boolean)) := by rfl
set_option maxRecDepth 1000000 in
theorem pz_cw176 : lw_tbl[1394]? = some (.code yX7_runsTwo cX7_runsTwo 7 (some .boolean)) := by rfl
set_option maxRecDepth 1000000 in
theorem pz_cw177 : lw_tbl[1390]? = some (.code yX7_both cX7_both 6 (some .int)) := by rfl
set_option maxRecDepth 1000000 in
theorem pz_cw178 : lw_tbl[1410]? = some (.code yX7_printed cX7_printed 2 (some .int)) := by rfl
set_option maxRecDepth 1000000 in
theorem pz_cw179 : lw_tbl[1414]? = some (.code yX7_count cX7_count 2 (some .int)) := by rfl
theorem pz_cw (k : Nat) (h : k < 180) : lw_tbl[(pz_Mt k).2.2.2.1.1]? = some (.code (pz_Mt k).1.1 (pz_Mt k).1.2.1 (pz_Mt k).1.2.2.1 (pz_Mt k).1.2.2.2) := by
  match k, h with
  | 0, _ => exact pz_cw0
  | 1, _ => exact pz_cw1
  | 2, _ => exact pz_cw2
  | 3, _ => exact pz_cw3
  | 4, _ => exact pz_cw4
  | 5, _ => exact pz_cw5
  | 6, _ => exact pz_cw6
  | 7, _ => exact pz_cw7
  | 8, _ => exact pz_cw8
  | 9, _ => exact pz_cw9
  | 10, _ => exact pz_cw10
  | 11, _ => exact pz_cw11
  | 12, _ => exact pz_cw12
  | 13, _ => exact pz_cw13
  | 14, _ => exact pz_cw14
  | 15, _ => exact pz_cw15
  | 16, _ => exact pz_cw16
  | 17, _ => exact pz_cw17
  | 18, _ => exact pz_cw18
  | 19, _ => exact pz_cw19
  | 20, _ => exact pz_cw20
  | 21, _ => exact pz_cw21
  | 22, _ => exact pz_cw22
  | 23, _ => exact pz_cw23
  | 24, _ => exact pz_cw24
  | 25, _ => exact pz_cw25
  | 26, _ => exact pz_cw26
  | 27, _ => exact pz_cw27
  | 28, _ => exact pz_cw28
  | 29, _ => exact pz_cw29
  | 30, _ => exact pz_cw30
  | 31, _ => exact pz_cw31
  | 32, _ => exact pz_cw32
  | 33, _ => exact pz_cw33
  | 34, _ => exact pz_cw34
  | 35, _ => exact pz_cw35
  | 36, _ => exact pz_cw36
  | 37, _ => exact pz_cw37
  | 38, _ => exact pz_cw38
  | 39, _ => exact pz_cw39
  | 40, _ => exact pz_cw40
  | 41, _ => exact pz_cw41
  | 42, _ => exact pz_cw42
  | 43, _ => exact pz_cw43
  | 44, _ => exact pz_cw44
  | 45, _ => exact pz_cw45
  | 46, _ => exact pz_cw46
  | 47, _ => exact pz_cw47
  | 48, _ => exact pz_cw48
  | 49, _ => exact pz_cw49
  | 50, _ => exact pz_cw50
  | 51, _ => exact pz_cw51
  | 52, _ => exact pz_cw52
  | 53, _ => exact pz_cw53
  | 54, _ => exact pz_cw54
  | 55, _ => exact pz_cw55
  | 56, _ => exact pz_cw56
  | 57, _ => exact pz_cw57
  | 58, _ => exact pz_cw58
  | 59, _ => exact pz_cw59
  | 60, _ => exact pz_cw60
  | 61, _ => exact pz_cw61
  | 62, _ => exact pz_cw62
  | 63, _ => exact pz_cw63
  | 64, _ => exact pz_cw64
  | 65, _ => exact pz_cw65
  | 66, _ => exact pz_cw66
  | 67, _ => exact pz_cw67
  | 68, _ => exact pz_cw68
  | 69, _ => exact pz_cw69
  | 70, _ => exact pz_cw70
  | 71, _ => exact pz_cw71
  | 72, _ => exact pz_cw72
  | 73, _ => exact pz_cw73
  | 74, _ => exact pz_cw74
  | 75, _ => exact pz_cw75
  | 76, _ => exact pz_cw76
  | 77, _ => exact pz_cw77
  | 78, _ => exact pz_cw78
  | 79, _ => exact pz_cw79
  | 80, _ => exact pz_cw80
  | 81, _ => exact pz_cw81
  | 82, _ => exact pz_cw82
  | 83, _ => exact pz_cw83
  | 84, _ => exact pz_cw84
  | 85, _ => exact pz_cw85
  | 86, _ => exact pz_cw86
  | 87, _ => exact pz_cw87
  | 88, _ => exact pz_cw88
  | 89, _ => exact pz_cw89
  | 90, _ => exact pz_cw90
  | 91, _ => exact pz_cw91
  | 92, _ => exact pz_cw92
  | 93, _ => exact pz_cw93
  | 94, _ => exact pz_cw94
  | 95, _ => exact pz_cw95
  | 96, _ => exact pz_cw96
  | 97, _ => exact pz_cw97
  | 98, _ => exact pz_cw98
  | 99, _ => exact pz_cw99
  | 100, _ => exact pz_cw100
  | 101, _ => exact pz_cw101
  | 102, _ => exact pz_cw102
  | 103, _ => exact pz_cw103
  | 104, _ => exact pz_cw104
  | 105, _ => exact pz_cw105
  | 106, _ => exact pz_cw106
  | 107, _ => exact pz_cw107
  | 108, _ => exact pz_cw108
  | 109, _ => exact pz_cw109
  | 110, _ => exact pz_cw110
  | 111, _ => exact pz_cw111
  | 112, _ => exact pz_cw112
  | 113, _ => exact pz_cw113
  | 114, _ => exact pz_cw114
  | 115, _ => exact pz_cw115
  | 116, _ => exact pz_cw116
  | 117, _ => exact pz_cw117
  | 118, _ => exact pz_cw118
  | 119, _ => exact pz_cw119
  | 120, _ => exact pz_cw120
  | 121, _ => exact pz_cw121
  | 122, _ => exact pz_cw122
  | 123, _ => exact pz_cw123
  | 124, _ => exact pz_cw124
  | 125, _ => exact pz_cw125
  | 126, _ => exact pz_cw126
  | 127, _ => exact pz_cw127
  | 128, _ => exact pz_cw128
  | 129, _ => exact pz_cw129
  | 130, _ => exact pz_cw130
  | 131, _ => exact pz_cw131
  | 132, _ => exact pz_cw132
  | 133, _ => exact pz_cw133
  | 134, _ => exact pz_cw134
  | 135, _ => exact pz_cw135
  | 136, _ => exact pz_cw136
  | 137, _ => exact pz_cw137
  | 138, _ => exact pz_cw138
  | 139, _ => exact pz_cw139
  | 140, _ => exact pz_cw140
  | 141, _ => exact pz_cw141
  | 142, _ => exact pz_cw142
  | 143, _ => exact pz_cw143
  | 144, _ => exact pz_cw144
  | 145, _ => exact pz_cw145
  | 146, _ => exact pz_cw146
  | 147, _ => exact pz_cw147
  | 148, _ => exact pz_cw148
  | 149, _ => exact pz_cw149
  | 150, _ => exact pz_cw150
  | 151, _ => exact pz_cw151
  | 152, _ => exact pz_cw152
  | 153, _ => exact pz_cw153
  | 154, _ => exact pz_cw154
  | 155, _ => exact pz_cw155
  | 156, _ => exact pz_cw156
  | 157, _ => exact pz_cw157
  | 158, _ => exact pz_cw158
  | 159, _ => exact pz_cw159
  | 160, _ => exact pz_cw160
  | 161, _ => exact pz_cw161
  | 162, _ => exact pz_cw162
  | 163, _ => exact pz_cw163
  | 164, _ => exact pz_cw164
  | 165, _ => exact pz_cw165
  | 166, _ => exact pz_cw166
  | 167, _ => exact pz_cw167
  | 168, _ => exact pz_cw168
  | 169, _ => exact pz_cw169
  | 170, _ => exact pz_cw170
  | 171, _ => exact pz_cw171
  | 172, _ => exact pz_cw172
  | 173, _ => exact pz_cw173
  | 174, _ => exact pz_cw174
  | 175, _ => exact pz_cw175
  | 176, _ => exact pz_cw176
  | 177, _ => exact pz_cw177
  | 178, _ => exact pz_cw178
  | 179, _ => exact pz_cw179
  | n + 180, h => omega
theorem pz_inq : (List.range 8).all (fun a => (List.range (pz_N a)).all (fun k => decide (lw_tbl[(pz_fp.getD a []).getD k 0]? = some (u_lay (pz_nm a) (pz_T a) k)))) = true := by decide +kernel
theorem pz_jw : lw_tbl[100]? = some (.initialized "java/lang/System") ∧ lw_tbl[740]? = some (.static arraycopyName) ∧ lw_tbl[741]? = some (.native arraycopyName) ∧ lw_tbl[101]? = some (.initialized "java/lang/Math") ∧ lw_tbl[743]? = some (.static Lib.Math.min.name) ∧ lw_tbl[744]? = some (.code Lib.Math.min.name Lib.Math.min.code 2 (some .int)) := by decide +kernel
