/-! links of the classes, by their entries (written by wip/whole/gen_links.py) -/
theorem gmp {i : Nat} {w : Cond} (h0 : (k2_sels lw_privs)[i]? = some w) (hg : goodWord w = true) : w ∈ gw := List.mem_filter.mpr ⟨List.mem_append_left _ (List.mem_of_getElem? h0), hg⟩
theorem gmn {w : Cond} (h : w ∈ lw_tbl) (hg : isNest w = true) : w ∈ nws := List.mem_filter.mpr ⟨h, hg⟩
theorem gmn1 {i : Nat} {w : Cond} (h0 : tables_1_1[i]? = some w) (hg : isNest w = true) : w ∈ nws := by
  have h : w ∈ tables_1_1 := List.mem_of_getElem? h0
  exact gmn (in_tb (by unfold tables_1; exact List.mem_append_left _ h)) hg
theorem gmn2 {i : Nat} {w : Cond} (h0 : tables_1_2[i]? = some w) (hg : isNest w = true) : w ∈ nws := by
  have h : w ∈ tables_1_2 := List.mem_of_getElem? h0
  exact gmn (in_tb (by unfold tables_1; exact List.mem_append_right _ (List.mem_append_left _ h))) hg
theorem gmn3 {i : Nat} {w : Cond} (h0 : tables_1_3[i]? = some w) (hg : isNest w = true) : w ∈ nws := by
  have h : w ∈ tables_1_3 := List.mem_of_getElem? h0
  exact gmn (in_tb (by unfold tables_1; exact List.mem_append_right _ (List.mem_append_right _ (List.mem_append_left _ h)))) hg
theorem gmn4 {i : Nat} {w : Cond} (h0 : tables_1_4[i]? = some w) (hg : isNest w = true) : w ∈ nws := by
  have h : w ∈ tables_1_4 := List.mem_of_getElem? h0
  exact gmn (in_tb (by unfold tables_1; exact List.mem_append_right _ (List.mem_append_right _ (List.mem_append_right _ (List.mem_append_left _ h))))) hg
theorem gmn5 {i : Nat} {w : Cond} (h0 : tables_1_5[i]? = some w) (hg : isNest w = true) : w ∈ nws := by
  have h : w ∈ tables_1_5 := List.mem_of_getElem? h0
  exact gmn (in_tb (by unfold tables_1; exact List.mem_append_right _ (List.mem_append_right _ (List.mem_append_right _ (List.mem_append_right _ (List.mem_append_left _ h)))))) hg
theorem gmn6 {i : Nat} {w : Cond} (h0 : tables_1_6[i]? = some w) (hg : isNest w = true) : w ∈ nws := by
  have h : w ∈ tables_1_6 := List.mem_of_getElem? h0
  exact gmn (in_tb (by unfold tables_1; exact List.mem_append_right _ (List.mem_append_right _ (List.mem_append_right _ (List.mem_append_right _ (List.mem_append_right _ (List.mem_append_left _ h))))))) hg
theorem gmn7 {i : Nat} {w : Cond} (h0 : tables_1_7[i]? = some w) (hg : isNest w = true) : w ∈ nws := by
  have h : w ∈ tables_1_7 := List.mem_of_getElem? h0
  exact gmn (in_tb (by unfold tables_1; exact List.mem_append_right _ (List.mem_append_right _ (List.mem_append_right _ (List.mem_append_right _ (List.mem_append_right _ (List.mem_append_right _ (List.mem_append_left _ h)))))))) hg
theorem gmn8 {i : Nat} {w : Cond} (h0 : tables_1_8[i]? = some w) (hg : isNest w = true) : w ∈ nws := by
  have h : w ∈ tables_1_8 := List.mem_of_getElem? h0
  exact gmn (in_tb (by unfold tables_1; exact List.mem_append_right _ (List.mem_append_right _ (List.mem_append_right _ (List.mem_append_right _ (List.mem_append_right _ (List.mem_append_right _ (List.mem_append_right _ (h))))))))) hg
theorem ini_Cycle : Cond.initialized "CascadeBus$Cycle" ∈ gw := gm1 (i := 23) (by decide +kernel) rfl
theorem ini_History : Cond.initialized "CascadeBus$History" ∈ gw := gm1 (i := 9) (by decide +kernel) rfl
theorem ini_Layout : Cond.initialized "CascadeBus$Layout" ∈ gw := gm1 (i := 5) (by decide +kernel) rfl
theorem ini_Links : Cond.initialized "CascadeBus$Links" ∈ gw := gm1 (i := 3) (by decide +kernel) rfl
theorem ini_Memory : Cond.initialized "CascadeBus$Memory" ∈ gw := gm1 (i := 7) (by decide +kernel) rfl
theorem ini_Noted : Cond.initialized "CascadeBus$Noted" ∈ gw := gm1 (i := 10) (by decide +kernel) rfl
theorem ini_Plan : Cond.initialized "CascadeBus$Plan" ∈ gw := gm1 (i := 2) (by decide +kernel) rfl
theorem ini_Plants : Cond.initialized "CascadeBus$Plants" ∈ gw := gm1 (i := 4) (by decide +kernel) rfl
theorem ini_Reader : Cond.initialized "CascadeBus$Reader" ∈ gw := gm1 (i := 6) (by decide +kernel) rfl
theorem ini_State : Cond.initialized "CascadeBus$State" ∈ gw := gm1 (i := 8) (by decide +kernel) rfl
theorem ini_Years : Cond.initialized "CascadeBus$Years" ∈ gw := gm1 (i := 11) (by decide +kernel) rfl
theorem ini_Bus : Cond.initialized "CascadeBus" ∈ gw := gm1 (i := 1) (by decide +kernel) rfl
theorem ini_Mod : Cond.initialized "CascadeBusModel" ∈ gw := gm1 (i := 12) (by decide +kernel) rfl
theorem ini_Law : Cond.initialized "CascadeBusLaw" ∈ gw := gm1 (i := 0) (by decide +kernel) rfl
theorem ini_JInteger : Cond.initialized "java/lang/Integer" ∈ gw := gm1 (i := 25) (by decide +kernel) rfl
theorem ini_JMath : Cond.initialized "java/lang/Math" ∈ gw := gm1 (i := 17) (by decide +kernel) rfl
theorem ini_JString : Cond.initialized "java/lang/String" ∈ gw := gm1 (i := 18) (by decide +kernel) rfl
theorem ini_JLatin : Cond.initialized "java/lang/StringLatin1" ∈ gw := gm1 (i := 19) (by decide +kernel) rfl
theorem ini_JUtf : Cond.initialized "java/lang/StringUTF16" ∈ gw := gm1 (i := 21) (by decide +kernel) rfl
theorem ini_JSystem : Cond.initialized "java/lang/System" ∈ gw := gm1 (i := 24) (by decide +kernel) rfl
theorem ini_JPre : Cond.initialized "jdk/internal/util/Preconditions" ∈ gw := gm1 (i := 20) (by decide +kernel) rfl
theorem ini_JThrowable : Cond.initialized "java/lang/Throwable" ∈ gw := gm1 (i := 13) (by decide +kernel) rfl
theorem ini_JException : Cond.initialized "java/lang/Exception" ∈ gw := gm1 (i := 14) (by decide +kernel) rfl
theorem ini_JRuntime : Cond.initialized "java/lang/RuntimeException" ∈ gw := gm1 (i := 15) (by decide +kernel) rfl
theorem ini_JIae : Cond.initialized "java/lang/IllegalArgumentException" ∈ gw := gm1 (i := 16) (by decide +kernel) rfl
theorem ini_JNse : Cond.initialized "java/util/NoSuchElementException" ∈ gw := gm1 (i := 22) (by decide +kernel) rfl
theorem mh_Bus_init : mhOK M_Bus_init 0 := ⟨⟨by decide, by decide, by decide +kernel⟩, by decide, ini_Bus, cw_Bus_init⟩
theorem mh_Plan_init : mhOK M_Plan_init 0 := ⟨⟨by decide, by decide, by decide +kernel⟩, by decide, ini_Plan, cw_Plan_init⟩
theorem mh_Links_init : mhOK M_Links_init 0 := ⟨⟨by decide, by decide, by decide +kernel⟩, by decide, ini_Links, cw_Links_init⟩
theorem mh_Plants_init : mhOK M_Plants_init 0 := ⟨⟨by decide, by decide, by decide +kernel⟩, by decide, ini_Plants, cw_Plants_init⟩
theorem mh_Layout_init : mhOK M_Layout_init 0 := ⟨⟨by decide, by decide, by decide +kernel⟩, by decide, ini_Layout, cw_Layout_init⟩
theorem mh_Reader_init : mhOK M_Reader_init 0 := ⟨⟨by decide, by decide, by decide +kernel⟩, by decide, ini_Reader, cw_Reader_init⟩
theorem mh_Memory_init : mhOK M_Memory_init 0 := ⟨⟨by decide, by decide, by decide +kernel⟩, by decide, ini_Memory, cw_Memory_init⟩
theorem mh_State_init : mhOK M_State_init 0 := ⟨⟨by decide, by decide, by decide +kernel⟩, by decide, ini_State, cw_State_init⟩
theorem mh_History_init : mhOK M_History_init 0 := ⟨⟨by decide, by decide, by decide +kernel⟩, by decide, ini_History, cw_History_init⟩
theorem mh_Noted_init : mhOK M_Noted_init 0 := ⟨⟨by decide, by decide, by decide +kernel⟩, by decide, ini_Noted, cw_Noted_init⟩
theorem mh_Years_init : mhOK M_Years_init 0 := ⟨⟨by decide, by decide, by decide +kernel⟩, by decide, ini_Years, cw_Years_init⟩
theorem mh_State_startAnew : mhOK M_State_startAnew 1 := ⟨⟨by decide, by decide, by decide +kernel⟩, by decide, ini_State, cw_State_startAnew⟩
theorem mh_Bus_feed : mhOK M_Bus_feed 5 := ⟨⟨by decide, by decide, by decide +kernel⟩, by decide, ini_Bus, cw_Bus_feed⟩
theorem mh_Bus_putBytes : mhOK M_Bus_putBytes 1 := ⟨⟨by decide, by decide, by decide +kernel⟩, by decide, ini_Bus, cw_Bus_putBytes⟩
theorem mh_Bus_fault : mhOK M_Bus_fault 0 := ⟨⟨by decide, by decide, by decide +kernel⟩, by decide, ini_Bus, cw_Bus_fault⟩
theorem mh_Bus_target : mhOK M_Bus_target 2 := ⟨⟨by decide, by decide, by decide +kernel⟩, by decide, ini_Bus, cw_Bus_target⟩
theorem mh_Bus_isBlock : mhOK M_Bus_isBlock 1 := ⟨⟨by decide, by decide, by decide +kernel⟩, by decide, ini_Bus, cw_Bus_isBlock⟩
theorem mh_State_canTell : mhOK M_State_canTell 3 := ⟨⟨by decide, by decide, by decide +kernel⟩, by decide, ini_State, cw_State_canTell⟩
theorem mh_Bus_refuseAct : mhOK M_Bus_refuseAct 0 := ⟨⟨by decide, by decide, by decide +kernel⟩, by decide, ini_Bus, cw_Bus_refuseAct⟩
theorem mh_Bus_putCell : mhOK M_Bus_putCell 2 := ⟨⟨by decide, by decide, by decide +kernel⟩, by decide, ini_Bus, cw_Bus_putCell⟩
theorem mh_Memory_keepAct : mhOK M_Memory_keepAct 0 := ⟨⟨by decide, by decide, by decide +kernel⟩, by decide, ini_Memory, cw_Memory_keepAct⟩
theorem mh_History_keep : mhOK M_History_keep 1 := ⟨⟨by decide, by decide, by decide +kernel⟩, by decide, ini_History, cw_History_keep⟩
theorem mh_History_put : mhOK M_History_put 2 := ⟨⟨by decide, by decide, by decide +kernel⟩, by decide, ini_History, cw_History_put⟩
theorem mh_State_copyFrom : mhOK M_State_copyFrom 1 := ⟨⟨by decide, by decide, by decide +kernel⟩, by decide, ini_State, cw_State_copyFrom⟩
theorem mh_Bus_hand : mhOK M_Bus_hand 2 := ⟨⟨by decide, by decide, by decide +kernel⟩, by decide, ini_Bus, cw_Bus_hand⟩
theorem mh_State_handCell : mhOK M_State_handCell 2 := ⟨⟨by decide, by decide, by decide +kernel⟩, by decide, ini_State, cw_State_handCell⟩
theorem mh_Bus_power : mhOK M_Bus_power 2 := ⟨⟨by decide, by decide, by decide +kernel⟩, by decide, ini_Bus, cw_Bus_power⟩
theorem mh_Bus_isDevice : mhOK M_Bus_isDevice 1 := ⟨⟨by decide, by decide, by decide +kernel⟩, by decide, ini_Bus, cw_Bus_isDevice⟩
theorem mh_State_isOn : mhOK M_State_isOn 1 := ⟨⟨by decide, by decide, by decide +kernel⟩, by decide, ini_State, cw_State_isOn⟩
theorem mh_Bus_hasBit : mhOK M_Bus_hasBit 2 := ⟨⟨by decide, by decide, by decide +kernel⟩, by decide, ini_Bus, cw_Bus_hasBit⟩
theorem mh_State_switchDevice : mhOK M_State_switchDevice 3 := ⟨⟨by decide, by decide, by decide +kernel⟩, by decide, ini_State, cw_State_switchDevice⟩
theorem mh_Bus_broken : mhOK M_Bus_broken 2 := ⟨⟨by decide, by decide, by decide +kernel⟩, by decide, ini_Bus, cw_Bus_broken⟩
theorem mh_State_isBroken : mhOK M_State_isBroken 1 := ⟨⟨by decide, by decide, by decide +kernel⟩, by decide, ini_State, cw_State_isBroken⟩
theorem mh_State_turnSensor : mhOK M_State_turnSensor 1 := ⟨⟨by decide, by decide, by decide +kernel⟩, by decide, ini_State, cw_State_turnSensor⟩
theorem mh_Bus_cycles : mhOK M_Bus_cycles 1 := ⟨⟨by decide, by decide, by decide +kernel⟩, by decide, ini_Bus, cw_Bus_cycles⟩
theorem mh_Bus_passCycles : mhOK M_Bus_passCycles 2 := ⟨⟨by decide, by decide, by decide +kernel⟩, by decide, ini_Bus, cw_Bus_passCycles⟩
theorem mh_Cycle_goBy : mhOK M_Cycle_goBy 2 := ⟨⟨by decide, by decide, by decide +kernel⟩, by decide, ini_Cycle, cw_Cycle_goBy⟩
theorem mh_Cycle_moveSensors : mhOK M_Cycle_moveSensors 2 := ⟨⟨by decide, by decide, by decide +kernel⟩, by decide, ini_Cycle, cw_Cycle_moveSensors⟩
theorem mh_Cycle_outOf : mhOK M_Cycle_outOf 3 := ⟨⟨by decide, by decide, by decide +kernel⟩, by decide, ini_Cycle, cw_Cycle_outOf⟩
theorem mh_Cycle_within : mhOK M_Cycle_within 1 := ⟨⟨by decide, by decide, by decide +kernel⟩, by decide, ini_Cycle, cw_Cycle_within⟩
theorem mh_JMath_min : mhOK M_JMath_min 2 := ⟨⟨by decide, by decide, by decide +kernel⟩, by decide, ini_JMath, cw_JMath_min⟩
theorem mh_JMath_max : mhOK M_JMath_max 2 := ⟨⟨by decide, by decide, by decide +kernel⟩, by decide, ini_JMath, cw_JMath_max⟩
theorem mh_Cycle_seekScheduler : mhOK M_Cycle_seekScheduler 2 := ⟨⟨by decide, by decide, by decide +kernel⟩, by decide, ini_Cycle, cw_Cycle_seekScheduler⟩
theorem mh_Cycle_bringLink : mhOK M_Cycle_bringLink 3 := ⟨⟨by decide, by decide, by decide +kernel⟩, by decide, ini_Cycle, cw_Cycle_bringLink⟩
theorem mh_Cycle_carries : mhOK M_Cycle_carries 3 := ⟨⟨by decide, by decide, by decide +kernel⟩, by decide, ini_Cycle, cw_Cycle_carries⟩
theorem mh_Cycle_growOlder : mhOK M_Cycle_growOlder 2 := ⟨⟨by decide, by decide, by decide +kernel⟩, by decide, ini_Cycle, cw_Cycle_growOlder⟩
theorem mh_Cycle_runBlock : mhOK M_Cycle_runBlock 3 := ⟨⟨by decide, by decide, by decide +kernel⟩, by decide, ini_Cycle, cw_Cycle_runBlock⟩
theorem mh_Cycle_actualOf : mhOK M_Cycle_actualOf 3 := ⟨⟨by decide, by decide, by decide +kernel⟩, by decide, ini_Cycle, cw_Cycle_actualOf⟩
theorem mh_Plan_cameAt : mhOK M_Plan_cameAt 2 := ⟨⟨by decide, by decide, by decide +kernel⟩, by decide, ini_Plan, cw_Plan_cameAt⟩
theorem mh_Cycle_fall : mhOK M_Cycle_fall 4 := ⟨⟨by decide, by decide, by decide +kernel⟩, by decide, ini_Cycle, cw_Cycle_fall⟩
theorem mh_Cycle_runInput : mhOK M_Cycle_runInput 3 := ⟨⟨by decide, by decide, by decide +kernel⟩, by decide, ini_Cycle, cw_Cycle_runInput⟩
theorem mh_Cycle_runPid : mhOK M_Cycle_runPid 3 := ⟨⟨by decide, by decide, by decide +kernel⟩, by decide, ini_Cycle, cw_Cycle_runPid⟩
theorem mh_Cycle_runOutput : mhOK M_Cycle_runOutput 4 := ⟨⟨by decide, by decide, by decide +kernel⟩, by decide, ini_Cycle, cw_Cycle_runOutput⟩
theorem mh_Cycle_runPick : mhOK M_Cycle_runPick 3 := ⟨⟨by decide, by decide, by decide +kernel⟩, by decide, ini_Cycle, cw_Cycle_runPick⟩
theorem mh_Cycle_bringBack : mhOK M_Cycle_bringBack 3 := ⟨⟨by decide, by decide, by decide +kernel⟩, by decide, ini_Cycle, cw_Cycle_bringBack⟩
theorem mh_Bus_undo : mhOK M_Bus_undo 0 := ⟨⟨by decide, by decide, by decide +kernel⟩, by decide, ini_Bus, cw_Bus_undo⟩
theorem mh_History_takeBack : mhOK M_History_takeBack 1 := ⟨⟨by decide, by decide, by decide +kernel⟩, by decide, ini_History, cw_History_takeBack⟩
theorem mh_Bus_toRide : mhOK M_Bus_toRide 0 := ⟨⟨by decide, by decide, by decide +kernel⟩, by decide, ini_Bus, cw_Bus_toRide⟩
theorem mh_Bus_unlikeWithout : mhOK M_Bus_unlikeWithout 3 := ⟨⟨by decide, by decide, by decide +kernel⟩, by decide, ini_Bus, cw_Bus_unlikeWithout⟩
theorem mh_Bus_note : mhOK M_Bus_note 3 := ⟨⟨by decide, by decide, by decide +kernel⟩, by decide, ini_Bus, cw_Bus_note⟩
theorem mh_Noted_add : mhOK M_Noted_add 3 := ⟨⟨by decide, by decide, by decide +kernel⟩, by decide, ini_Noted, cw_Noted_add⟩
theorem mh_Bus_fits : mhOK M_Bus_fits 0 := ⟨⟨by decide, by decide, by decide +kernel⟩, by decide, ini_Bus, cw_Bus_fits⟩
theorem mh_Bus_startTrialBy : mhOK M_Bus_startTrialBy 1 := ⟨⟨by decide, by decide, by decide +kernel⟩, by decide, ini_Bus, cw_Bus_startTrialBy⟩
theorem mh_Plan_hasInputOf : mhOK M_Plan_hasInputOf 1 := ⟨⟨by decide, by decide, by decide +kernel⟩, by decide, ini_Plan, cw_Plan_hasInputOf⟩
theorem mh_Bus_trialIsAsNoted : mhOK M_Bus_trialIsAsNoted 0 := ⟨⟨by decide, by decide, by decide +kernel⟩, by decide, ini_Bus, cw_Bus_trialIsAsNoted⟩
theorem mh_Noted_furthest : mhOK M_Noted_furthest 0 := ⟨⟨by decide, by decide, by decide +kernel⟩, by decide, ini_Noted, cw_Noted_furthest⟩
theorem mh_Noted_isSo : mhOK M_Noted_isSo 2 := ⟨⟨by decide, by decide, by decide +kernel⟩, by decide, ini_Noted, cw_Noted_isSo⟩
theorem mh_Bus_forget : mhOK M_Bus_forget 0 := ⟨⟨by decide, by decide, by decide +kernel⟩, by decide, ini_Bus, cw_Bus_forget⟩
theorem mh_Noted_clear : mhOK M_Noted_clear 0 := ⟨⟨by decide, by decide, by decide +kernel⟩, by decide, ini_Noted, cw_Noted_clear⟩
theorem mh_Bus_image : mhOK M_Bus_image 0 := ⟨⟨by decide, by decide, by decide +kernel⟩, by decide, ini_Bus, cw_Bus_image⟩
theorem mh_Memory_copyFrom : mhOK M_Memory_copyFrom 1 := ⟨⟨by decide, by decide, by decide +kernel⟩, by decide, ini_Memory, cw_Memory_copyFrom⟩
theorem mh_History_copyFrom : mhOK M_History_copyFrom 1 := ⟨⟨by decide, by decide, by decide +kernel⟩, by decide, ini_History, cw_History_copyFrom⟩
theorem mh_Noted_copyFrom : mhOK M_Noted_copyFrom 1 := ⟨⟨by decide, by decide, by decide +kernel⟩, by decide, ini_Noted, cw_Noted_copyFrom⟩
theorem mh_Bus_restore : mhOK M_Bus_restore 0 := ⟨⟨by decide, by decide, by decide +kernel⟩, by decide, ini_Bus, cw_Bus_restore⟩
theorem mh_Bus_bus : mhOK M_Bus_bus 1 := ⟨⟨by decide, by decide, by decide +kernel⟩, by decide, ini_Bus, cw_Bus_bus⟩
theorem mh_Reader_readText : mhOK M_Reader_readText 2 := ⟨⟨by decide, by decide, by decide +kernel⟩, by decide, ini_Reader, cw_Reader_readText⟩
theorem mh_Plan_clear : mhOK M_Plan_clear 0 := ⟨⟨by decide, by decide, by decide +kernel⟩, by decide, ini_Plan, cw_Plan_clear⟩
theorem mh_Plants_clear : mhOK M_Plants_clear 0 := ⟨⟨by decide, by decide, by decide +kernel⟩, by decide, ini_Plants, cw_Plants_clear⟩
theorem mh_Reader_nextToken : mhOK M_Reader_nextToken 0 := ⟨⟨by decide, by decide, by decide +kernel⟩, by decide, ini_Reader, cw_Reader_nextToken⟩
theorem mh_Reader_takeRow : mhOK M_Reader_takeRow 2 := ⟨⟨by decide, by decide, by decide +kernel⟩, by decide, ini_Reader, cw_Reader_takeRow⟩
theorem mh_Reader_readClause : mhOK M_Reader_readClause 0 := ⟨⟨by decide, by decide, by decide +kernel⟩, by decide, ini_Reader, cw_Reader_readClause⟩
theorem mh_Reader_isWord : mhOK M_Reader_isWord 1 := ⟨⟨by decide, by decide, by decide +kernel⟩, by decide, ini_Reader, cw_Reader_isWord⟩
theorem mh_JString_length : mhOK M_JString_length 0 := ⟨⟨by decide, by decide, by decide +kernel⟩, by decide, ini_JString, cw_JString_length⟩
theorem mh_JString_coder : mhOK M_JString_coder 0 := ⟨⟨by decide, by decide, by decide +kernel⟩, by decide, ini_JString, cw_JString_coder⟩
theorem mh_JString_charAt : mhOK M_JString_charAt 1 := ⟨⟨by decide, by decide, by decide +kernel⟩, by decide, ini_JString, cw_JString_charAt⟩
theorem mh_JString_isLatin1 : mhOK M_JString_isLatin1 0 := ⟨⟨by decide, by decide, by decide +kernel⟩, by decide, ini_JString, cw_JString_isLatin1⟩
theorem mh_JLatin_charAt : mhOK M_JLatin_charAt 2 := ⟨⟨by decide, by decide, by decide +kernel⟩, by decide, ini_JLatin, cw_JLatin_charAt⟩
theorem mh_JString_checkIndex : mhOK M_JString_checkIndex 2 := ⟨⟨by decide, by decide, by decide +kernel⟩, by decide, ini_JString, cw_JString_checkIndex⟩
theorem mh_JPre_checkIndex : mhOK M_JPre_checkIndex 3 := ⟨⟨by decide, by decide, by decide +kernel⟩, by decide, ini_JPre, cw_JPre_checkIndex⟩
theorem mh_JUtf_charAt : mhOK M_JUtf_charAt 2 := ⟨⟨by decide, by decide, by decide +kernel⟩, by decide, ini_JUtf, cw_JUtf_charAt⟩
theorem mh_JUtf_checkIndex : mhOK M_JUtf_checkIndex 2 := ⟨⟨by decide, by decide, by decide +kernel⟩, by decide, ini_JUtf, cw_JUtf_checkIndex⟩
theorem mh_JUtf_length : mhOK M_JUtf_length 1 := ⟨⟨by decide, by decide, by decide +kernel⟩, by decide, ini_JUtf, cw_JUtf_length⟩
theorem mh_JUtf_getChar : mhOK M_JUtf_getChar 2 := ⟨⟨by decide, by decide, by decide +kernel⟩, by decide, ini_JUtf, cw_JUtf_getChar⟩
theorem mh_Reader_readDevices : mhOK M_Reader_readDevices 0 := ⟨⟨by decide, by decide, by decide +kernel⟩, by decide, ini_Reader, cw_Reader_readDevices⟩
theorem mh_Reader_fail : mhOK M_Reader_fail 1 := ⟨⟨by decide, by decide, by decide +kernel⟩, by decide, ini_Reader, cw_Reader_fail⟩
theorem mh_Reader_readNumber : mhOK M_Reader_readNumber 2 := ⟨⟨by decide, by decide, by decide +kernel⟩, by decide, ini_Reader, cw_Reader_readNumber⟩
theorem mh_Reader_numberOfToken : mhOK M_Reader_numberOfToken 0 := ⟨⟨by decide, by decide, by decide +kernel⟩, by decide, ini_Reader, cw_Reader_numberOfToken⟩
theorem mh_Reader_readBlock : mhOK M_Reader_readBlock 0 := ⟨⟨by decide, by decide, by decide +kernel⟩, by decide, ini_Reader, cw_Reader_readBlock⟩
theorem mh_Plan_addBlock : mhOK M_Plan_addBlock 2 := ⟨⟨by decide, by decide, by decide +kernel⟩, by decide, ini_Plan, cw_Plan_addBlock⟩
theorem mh_Reader_readPid : mhOK M_Reader_readPid 1 := ⟨⟨by decide, by decide, by decide +kernel⟩, by decide, ini_Reader, cw_Reader_readPid⟩
theorem mh_Reader_readChoice : mhOK M_Reader_readChoice 2 := ⟨⟨by decide, by decide, by decide +kernel⟩, by decide, ini_Reader, cw_Reader_readChoice⟩
theorem mh_Reader_readLink : mhOK M_Reader_readLink 0 := ⟨⟨by decide, by decide, by decide +kernel⟩, by decide, ini_Reader, cw_Reader_readLink⟩
theorem mh_Reader_readBlockNumber : mhOK M_Reader_readBlockNumber 0 := ⟨⟨by decide, by decide, by decide +kernel⟩, by decide, ini_Reader, cw_Reader_readBlockNumber⟩
theorem mh_Plan_suits : mhOK M_Plan_suits 3 := ⟨⟨by decide, by decide, by decide +kernel⟩, by decide, ini_Plan, cw_Plan_suits⟩
theorem mh_Plan_hasLinked : mhOK M_Plan_hasLinked 3 := ⟨⟨by decide, by decide, by decide +kernel⟩, by decide, ini_Plan, cw_Plan_hasLinked⟩
theorem mh_Links_leads : mhOK M_Links_leads 2 := ⟨⟨by decide, by decide, by decide +kernel⟩, by decide, ini_Links, cw_Links_leads⟩
theorem mh_Plan_addLink : mhOK M_Plan_addLink 3 := ⟨⟨by decide, by decide, by decide +kernel⟩, by decide, ini_Plan, cw_Plan_addLink⟩
theorem mh_Links_add : mhOK M_Links_add 3 := ⟨⟨by decide, by decide, by decide +kernel⟩, by decide, ini_Links, cw_Links_add⟩
theorem mh_Reader_readPlant : mhOK M_Reader_readPlant 0 := ⟨⟨by decide, by decide, by decide +kernel⟩, by decide, ini_Reader, cw_Reader_readPlant⟩
theorem mh_Reader_readOld : mhOK M_Reader_readOld 0 := ⟨⟨by decide, by decide, by decide +kernel⟩, by decide, ini_Reader, cw_Reader_readOld⟩
theorem mh_Reader_readOver : mhOK M_Reader_readOver 0 := ⟨⟨by decide, by decide, by decide +kernel⟩, by decide, ini_Reader, cw_Reader_readOver⟩
theorem mh_Reader_changePlan : mhOK M_Reader_changePlan 1 := ⟨⟨by decide, by decide, by decide +kernel⟩, by decide, ini_Reader, cw_Reader_changePlan⟩
theorem mh_Layout_lay : mhOK M_Layout_lay 3 := ⟨⟨by decide, by decide, by decide +kernel⟩, by decide, ini_Layout, cw_Layout_lay⟩
theorem mh_Layout_startEmpty : mhOK M_Layout_startEmpty 0 := ⟨⟨by decide, by decide, by decide +kernel⟩, by decide, ini_Layout, cw_Layout_startEmpty⟩
theorem mh_Layout_leastReady : mhOK M_Layout_leastReady 1 := ⟨⟨by decide, by decide, by decide +kernel⟩, by decide, ini_Layout, cw_Layout_leastReady⟩
theorem mh_Layout_isReady : mhOK M_Layout_isReady 2 := ⟨⟨by decide, by decide, by decide +kernel⟩, by decide, ini_Layout, cw_Layout_isReady⟩
theorem mh_Layout_takeBlock : mhOK M_Layout_takeBlock 3 := ⟨⟨by decide, by decide, by decide +kernel⟩, by decide, ini_Layout, cw_Layout_takeBlock⟩
theorem mh_Layout_isAcross : mhOK M_Layout_isAcross 2 := ⟨⟨by decide, by decide, by decide +kernel⟩, by decide, ini_Layout, cw_Layout_isAcross⟩
theorem mh_Layout_claimSlot : mhOK M_Layout_claimSlot 1 := ⟨⟨by decide, by decide, by decide +kernel⟩, by decide, ini_Layout, cw_Layout_claimSlot⟩
theorem mh_Layout_isClaimed : mhOK M_Layout_isClaimed 1 := ⟨⟨by decide, by decide, by decide +kernel⟩, by decide, ini_Layout, cw_Layout_isClaimed⟩
theorem mh_History_clear : mhOK M_History_clear 0 := ⟨⟨by decide, by decide, by decide +kernel⟩, by decide, ini_History, cw_History_clear⟩
theorem mh_Bus_count : mhOK M_Bus_count 1 := ⟨⟨by decide, by decide, by decide +kernel⟩, by decide, ini_Bus, cw_Bus_count⟩
theorem mh_Bus_block : mhOK M_Bus_block 2 := ⟨⟨by decide, by decide, by decide +kernel⟩, by decide, ini_Bus, cw_Bus_block⟩
theorem mh_Bus_needBlock : mhOK M_Bus_needBlock 1 := ⟨⟨by decide, by decide, by decide +kernel⟩, by decide, ini_Bus, cw_Bus_needBlock⟩
theorem mh_Bus_link : mhOK M_Bus_link 2 := ⟨⟨by decide, by decide, by decide +kernel⟩, by decide, ini_Bus, cw_Bus_link⟩
theorem mh_Bus_plant : mhOK M_Bus_plant 2 := ⟨⟨by decide, by decide, by decide +kernel⟩, by decide, ini_Bus, cw_Bus_plant⟩
theorem mh_Bus_then : mhOK M_Bus_then 3 := ⟨⟨by decide, by decide, by decide +kernel⟩, by decide, ini_Bus, cw_Bus_then⟩
theorem mh_Bus_thenCell : mhOK M_Bus_thenCell 1 := ⟨⟨by decide, by decide, by decide +kernel⟩, by decide, ini_Bus, cw_Bus_thenCell⟩
theorem mh_Bus_needWithin : mhOK M_Bus_needWithin 3 := ⟨⟨by decide, by decide, by decide +kernel⟩, by decide, ini_Bus, cw_Bus_needWithin⟩
theorem mh_Bus_first : mhOK M_Bus_first 1 := ⟨⟨by decide, by decide, by decide +kernel⟩, by decide, ini_Bus, cw_Bus_first⟩
theorem mh_Bus_jump : mhOK M_Bus_jump 2 := ⟨⟨by decide, by decide, by decide +kernel⟩, by decide, ini_Bus, cw_Bus_jump⟩
theorem mh_JMath_abs : mhOK M_JMath_abs 1 := ⟨⟨by decide, by decide, by decide +kernel⟩, by decide, ini_JMath, cw_JMath_abs⟩
theorem mh_Bus_lost : mhOK M_Bus_lost 2 := ⟨⟨by decide, by decide, by decide +kernel⟩, by decide, ini_Bus, cw_Bus_lost⟩
theorem mh_Bus_toTune : mhOK M_Bus_toTune 3 := ⟨⟨by decide, by decide, by decide +kernel⟩, by decide, ini_Bus, cw_Bus_toTune⟩
theorem mh_Bus_staysBelow : mhOK M_Bus_staysBelow 4 := ⟨⟨by decide, by decide, by decide +kernel⟩, by decide, ini_Bus, cw_Bus_staysBelow⟩
theorem mh_Bus_slack : mhOK M_Bus_slack 1 := ⟨⟨by decide, by decide, by decide +kernel⟩, by decide, ini_Bus, cw_Bus_slack⟩
theorem mh_Bus_look : mhOK M_Bus_look 1 := ⟨⟨by decide, by decide, by decide +kernel⟩, by decide, ini_Bus, cw_Bus_look⟩
theorem mh_Bus_gatherModes : mhOK M_Bus_gatherModes 1 := ⟨⟨by decide, by decide, by decide +kernel⟩, by decide, ini_Bus, cw_Bus_gatherModes⟩
theorem mh_JInteger_bitCount : mhOK M_JInteger_bitCount 1 := ⟨⟨by decide, by decide, by decide +kernel⟩, by decide, ini_JInteger, cw_JInteger_bitCount⟩
theorem mh_Bus_years : mhOK M_Bus_years 3 := ⟨⟨by decide, by decide, by decide +kernel⟩, by decide, ini_Bus, cw_Bus_years⟩
theorem mh_Years_play : mhOK M_Years_play 4 := ⟨⟨by decide, by decide, by decide +kernel⟩, by decide, ini_Years, cw_Years_play⟩
theorem mh_Years_draw : mhOK M_Years_draw 1 := ⟨⟨by decide, by decide, by decide +kernel⟩, by decide, ini_Years, cw_Years_draw⟩
theorem mh_Years_passSome : mhOK M_Years_passSome 3 := ⟨⟨by decide, by decide, by decide +kernel⟩, by decide, ini_Years, cw_Years_passSome⟩
theorem mh_Years_tellBlock : mhOK M_Years_tellBlock 3 := ⟨⟨by decide, by decide, by decide +kernel⟩, by decide, ini_Years, cw_Years_tellBlock⟩
theorem mh_State_sumOfOuts : mhOK M_State_sumOfOuts 1 := ⟨⟨by decide, by decide, by decide +kernel⟩, by decide, ini_State, cw_State_sumOfOuts⟩
theorem mh_Mod_init : mhOK M_Mod_init 0 := ⟨⟨by decide, by decide, by decide +kernel⟩, by decide, ini_Mod, cw_Mod_init⟩
theorem mh_Mod_laysCycle : mhOK M_Mod_laysCycle 0 := ⟨⟨by decide, by decide, by decide +kernel⟩, by decide, ini_Mod, cw_Mod_laysCycle⟩
theorem mh_Mod_canBeTaken : mhOK M_Mod_canBeTaken 1 := ⟨⟨by decide, by decide, by decide +kernel⟩, by decide, ini_Mod, cw_Mod_canBeTaken⟩
theorem mh_Mod_takes : mhOK M_Mod_takes 1 := ⟨⟨by decide, by decide, by decide +kernel⟩, by decide, ini_Mod, cw_Mod_takes⟩
theorem mh_Mod_isWithin : mhOK M_Mod_isWithin 1 := ⟨⟨by decide, by decide, by decide +kernel⟩, by decide, ini_Mod, cw_Mod_isWithin⟩
theorem mh_Mod_slotFrom : mhOK M_Mod_slotFrom 1 := ⟨⟨by decide, by decide, by decide +kernel⟩, by decide, ini_Mod, cw_Mod_slotFrom⟩
theorem mh_Mod_greater : mhOK M_Mod_greater 2 := ⟨⟨by decide, by decide, by decide +kernel⟩, by decide, ini_Mod, cw_Mod_greater⟩
theorem mh_Mod_begins : mhOK M_Mod_begins 0 := ⟨⟨by decide, by decide, by decide +kernel⟩, by decide, ini_Mod, cw_Mod_begins⟩
theorem mh_Mod_at : mhOK M_Mod_at 2 := ⟨⟨by decide, by decide, by decide +kernel⟩, by decide, ini_Mod, cw_Mod_at⟩
theorem mh_Mod_linkTo : mhOK M_Mod_linkTo 2 := ⟨⟨by decide, by decide, by decide +kernel⟩, by decide, ini_Mod, cw_Mod_linkTo⟩
theorem mh_Mod_linkAt : mhOK M_Mod_linkAt 2 := ⟨⟨by decide, by decide, by decide +kernel⟩, by decide, ini_Mod, cw_Mod_linkAt⟩
theorem mh_Mod_thrown : mhOK M_Mod_thrown 0 := ⟨⟨by decide, by decide, by decide +kernel⟩, by decide, ini_Mod, cw_Mod_thrown⟩
theorem mh_Mod_feed : mhOK M_Mod_feed 5 := ⟨⟨by decide, by decide, by decide +kernel⟩, by decide, ini_Mod, cw_Mod_feed⟩
theorem mh_Mod_bus : mhOK M_Mod_bus 1 := ⟨⟨by decide, by decide, by decide +kernel⟩, by decide, ini_Mod, cw_Mod_bus⟩
theorem mh_Mod_right : mhOK M_Mod_right 2 := ⟨⟨by decide, by decide, by decide +kernel⟩, by decide, ini_Mod, cw_Mod_right⟩
theorem mh_Mod_go : mhOK M_Mod_go 0 := ⟨⟨by decide, by decide, by decide +kernel⟩, by decide, ini_Mod, cw_Mod_go⟩
theorem mh_Mod_byteAt : mhOK M_Mod_byteAt 1 := ⟨⟨by decide, by decide, by decide +kernel⟩, by decide, ini_Mod, cw_Mod_byteAt⟩
theorem mh_Mod_isLetter : mhOK M_Mod_isLetter 1 := ⟨⟨by decide, by decide, by decide +kernel⟩, by decide, ini_Mod, cw_Mod_isLetter⟩
theorem mh_Mod_wordFrom : mhOK M_Mod_wordFrom 2 := ⟨⟨by decide, by decide, by decide +kernel⟩, by decide, ini_Mod, cw_Mod_wordFrom⟩
theorem mh_Mod_clause1 : mhOK M_Mod_clause1 0 := ⟨⟨by decide, by decide, by decide +kernel⟩, by decide, ini_Mod, cw_Mod_clause1⟩
theorem mh_Mod_block1 : mhOK M_Mod_block1 0 := ⟨⟨by decide, by decide, by decide +kernel⟩, by decide, ini_Mod, cw_Mod_block1⟩
theorem mh_Mod_wants : mhOK M_Mod_wants 2 := ⟨⟨by decide, by decide, by decide +kernel⟩, by decide, ini_Mod, cw_Mod_wants⟩
theorem mh_Mod_named : mhOK M_Mod_named 2 := ⟨⟨by decide, by decide, by decide +kernel⟩, by decide, ini_Mod, cw_Mod_named⟩
theorem mh_Mod_number : mhOK M_Mod_number 2 := ⟨⟨by decide, by decide, by decide +kernel⟩, by decide, ini_Mod, cw_Mod_number⟩
theorem mh_Mod_within : mhOK M_Mod_within 3 := ⟨⟨by decide, by decide, by decide +kernel⟩, by decide, ini_Mod, cw_Mod_within⟩
theorem mh_Mod_oneOf : mhOK M_Mod_oneOf 2 := ⟨⟨by decide, by decide, by decide +kernel⟩, by decide, ini_Mod, cw_Mod_oneOf⟩
theorem mh_Mod_link1 : mhOK M_Mod_link1 0 := ⟨⟨by decide, by decide, by decide +kernel⟩, by decide, ini_Mod, cw_Mod_link1⟩
theorem mh_Mod_isPlace : mhOK M_Mod_isPlace 3 := ⟨⟨by decide, by decide, by decide +kernel⟩, by decide, ini_Mod, cw_Mod_isPlace⟩
theorem mh_Mod_isFree : mhOK M_Mod_isFree 3 := ⟨⟨by decide, by decide, by decide +kernel⟩, by decide, ini_Mod, cw_Mod_isFree⟩
theorem mh_Mod_aheadOf : mhOK M_Mod_aheadOf 1 := ⟨⟨by decide, by decide, by decide +kernel⟩, by decide, ini_Mod, cw_Mod_aheadOf⟩
theorem mh_Mod_plant1 : mhOK M_Mod_plant1 0 := ⟨⟨by decide, by decide, by decide +kernel⟩, by decide, ini_Mod, cw_Mod_plant1⟩
theorem mh_Mod_once1 : mhOK M_Mod_once1 1 := ⟨⟨by decide, by decide, by decide +kernel⟩, by decide, ini_Mod, cw_Mod_once1⟩
theorem mh_Mod_becomes : mhOK M_Mod_becomes 0 := ⟨⟨by decide, by decide, by decide +kernel⟩, by decide, ini_Mod, cw_Mod_becomes⟩
theorem mh_Mod_moves : mhOK M_Mod_moves 2 := ⟨⟨by decide, by decide, by decide +kernel⟩, by decide, ini_Mod, cw_Mod_moves⟩
theorem mh_Mod_fault : mhOK M_Mod_fault 0 := ⟨⟨by decide, by decide, by decide +kernel⟩, by decide, ini_Mod, cw_Mod_fault⟩
theorem mh_Mod_count : mhOK M_Mod_count 1 := ⟨⟨by decide, by decide, by decide +kernel⟩, by decide, ini_Mod, cw_Mod_count⟩
theorem mh_Mod_block : mhOK M_Mod_block 2 := ⟨⟨by decide, by decide, by decide +kernel⟩, by decide, ini_Mod, cw_Mod_block⟩
theorem mh_Mod_isBlock : mhOK M_Mod_isBlock 1 := ⟨⟨by decide, by decide, by decide +kernel⟩, by decide, ini_Mod, cw_Mod_isBlock⟩
theorem mh_Mod_takenAt : mhOK M_Mod_takenAt 1 := ⟨⟨by decide, by decide, by decide +kernel⟩, by decide, ini_Mod, cw_Mod_takenAt⟩
theorem mh_Mod_link : mhOK M_Mod_link 2 := ⟨⟨by decide, by decide, by decide +kernel⟩, by decide, ini_Mod, cw_Mod_link⟩
theorem mh_Mod_plant : mhOK M_Mod_plant 2 := ⟨⟨by decide, by decide, by decide +kernel⟩, by decide, ini_Mod, cw_Mod_plant⟩
theorem mh_Mod_actuated : mhOK M_Mod_actuated 2 := ⟨⟨by decide, by decide, by decide +kernel⟩, by decide, ini_Mod, cw_Mod_actuated⟩
theorem mh_Mod_target : mhOK M_Mod_target 2 := ⟨⟨by decide, by decide, by decide +kernel⟩, by decide, ini_Mod, cw_Mod_target⟩
theorem mh_Mod_canTarget : mhOK M_Mod_canTarget 3 := ⟨⟨by decide, by decide, by decide +kernel⟩, by decide, ini_Mod, cw_Mod_canTarget⟩
theorem mh_Mod_refuses : mhOK M_Mod_refuses 1 := ⟨⟨by decide, by decide, by decide +kernel⟩, by decide, ini_Mod, cw_Mod_refuses⟩
theorem mh_Mod_keeps : mhOK M_Mod_keeps 0 := ⟨⟨by decide, by decide, by decide +kernel⟩, by decide, ini_Mod, cw_Mod_keeps⟩
theorem mh_Mod_keptAt : mhOK M_Mod_keptAt 2 := ⟨⟨by decide, by decide, by decide +kernel⟩, by decide, ini_Mod, cw_Mod_keptAt⟩
theorem mh_Mod_copies : mhOK M_Mod_copies 3 := ⟨⟨by decide, by decide, by decide +kernel⟩, by decide, ini_Mod, cw_Mod_copies⟩
theorem mh_Mod_hand : mhOK M_Mod_hand 2 := ⟨⟨by decide, by decide, by decide +kernel⟩, by decide, ini_Mod, cw_Mod_hand⟩
theorem mh_Mod_byHand : mhOK M_Mod_byHand 2 := ⟨⟨by decide, by decide, by decide +kernel⟩, by decide, ini_Mod, cw_Mod_byHand⟩
theorem mh_Mod_power : mhOK M_Mod_power 2 := ⟨⟨by decide, by decide, by decide +kernel⟩, by decide, ini_Mod, cw_Mod_power⟩
theorem mh_Mod_isOn : mhOK M_Mod_isOn 2 := ⟨⟨by decide, by decide, by decide +kernel⟩, by decide, ini_Mod, cw_Mod_isOn⟩
theorem mh_Mod_powers : mhOK M_Mod_powers 3 := ⟨⟨by decide, by decide, by decide +kernel⟩, by decide, ini_Mod, cw_Mod_powers⟩
theorem mh_Mod_broken : mhOK M_Mod_broken 2 := ⟨⟨by decide, by decide, by decide +kernel⟩, by decide, ini_Mod, cw_Mod_broken⟩
theorem mh_Mod_cycles : mhOK M_Mod_cycles 1 := ⟨⟨by decide, by decide, by decide +kernel⟩, by decide, ini_Mod, cw_Mod_cycles⟩
theorem mh_Mod_goes : mhOK M_Mod_goes 2 := ⟨⟨by decide, by decide, by decide +kernel⟩, by decide, ini_Mod, cw_Mod_goes⟩
theorem mh_Mod_cycle : mhOK M_Mod_cycle 1 := ⟨⟨by decide, by decide, by decide +kernel⟩, by decide, ini_Mod, cw_Mod_cycle⟩
theorem mh_Mod_put : mhOK M_Mod_put 1 := ⟨⟨by decide, by decide, by decide +kernel⟩, by decide, ini_Mod, cw_Mod_put⟩
theorem mh_Mod_schedules : mhOK M_Mod_schedules 1 := ⟨⟨by decide, by decide, by decide +kernel⟩, by decide, ini_Mod, cw_Mod_schedules⟩
theorem mh_Mod_lowest : mhOK M_Mod_lowest 1 := ⟨⟨by decide, by decide, by decide +kernel⟩, by decide, ini_Mod, cw_Mod_lowest⟩
theorem mh_Mod_comes : mhOK M_Mod_comes 2 := ⟨⟨by decide, by decide, by decide +kernel⟩, by decide, ini_Mod, cw_Mod_comes⟩
theorem mh_Mod_doesCome : mhOK M_Mod_doesCome 3 := ⟨⟨by decide, by decide, by decide +kernel⟩, by decide, ini_Mod, cw_Mod_doesCome⟩
theorem mh_Mod_ages : mhOK M_Mod_ages 2 := ⟨⟨by decide, by decide, by decide +kernel⟩, by decide, ini_Mod, cw_Mod_ages⟩
theorem mh_Mod_runs : mhOK M_Mod_runs 2 := ⟨⟨by decide, by decide, by decide +kernel⟩, by decide, ini_Mod, cw_Mod_runs⟩
theorem mh_Mod_actualOf : mhOK M_Mod_actualOf 2 := ⟨⟨by decide, by decide, by decide +kernel⟩, by decide, ini_Mod, cw_Mod_actualOf⟩
theorem mh_Mod_isGood : mhOK M_Mod_isGood 2 := ⟨⟨by decide, by decide, by decide +kernel⟩, by decide, ini_Mod, cw_Mod_isGood⟩
theorem mh_Mod_fallsTo : mhOK M_Mod_fallsTo 3 := ⟨⟨by decide, by decide, by decide +kernel⟩, by decide, ini_Mod, cw_Mod_fallsTo⟩
theorem mh_Mod_runsInput : mhOK M_Mod_runsInput 2 := ⟨⟨by decide, by decide, by decide +kernel⟩, by decide, ini_Mod, cw_Mod_runsInput⟩
theorem mh_Mod_runsPick : mhOK M_Mod_runsPick 2 := ⟨⟨by decide, by decide, by decide +kernel⟩, by decide, ini_Mod, cw_Mod_runsPick⟩
theorem mh_Mod_runsOutput : mhOK M_Mod_runsOutput 2 := ⟨⟨by decide, by decide, by decide +kernel⟩, by decide, ini_Mod, cw_Mod_runsOutput⟩
theorem mh_Mod_runsPid : mhOK M_Mod_runsPid 2 := ⟨⟨by decide, by decide, by decide +kernel⟩, by decide, ini_Mod, cw_Mod_runsPid⟩
theorem mh_Mod_setFrom : mhOK M_Mod_setFrom 1 := ⟨⟨by decide, by decide, by decide +kernel⟩, by decide, ini_Mod, cw_Mod_setFrom⟩
theorem mh_Mod_moved : mhOK M_Mod_moved 4 := ⟨⟨by decide, by decide, by decide +kernel⟩, by decide, ini_Mod, cw_Mod_moved⟩
theorem mh_Mod_gainOf : mhOK M_Mod_gainOf 1 := ⟨⟨by decide, by decide, by decide +kernel⟩, by decide, ini_Mod, cw_Mod_gainOf⟩
theorem mh_Mod_comesBack : mhOK M_Mod_comesBack 2 := ⟨⟨by decide, by decide, by decide +kernel⟩, by decide, ini_Mod, cw_Mod_comesBack⟩
theorem mh_Mod_undo : mhOK M_Mod_undo 0 := ⟨⟨by decide, by decide, by decide +kernel⟩, by decide, ini_Mod, cw_Mod_undo⟩
theorem mh_Mod_then : mhOK M_Mod_then 3 := ⟨⟨by decide, by decide, by decide +kernel⟩, by decide, ini_Mod, cw_Mod_then⟩
theorem mh_Mod_tries : mhOK M_Mod_tries 0 := ⟨⟨by decide, by decide, by decide +kernel⟩, by decide, ini_Mod, cw_Mod_tries⟩
theorem mh_Mod_first : mhOK M_Mod_first 1 := ⟨⟨by decide, by decide, by decide +kernel⟩, by decide, ini_Mod, cw_Mod_first⟩
theorem mh_Mod_jump : mhOK M_Mod_jump 2 := ⟨⟨by decide, by decide, by decide +kernel⟩, by decide, ini_Mod, cw_Mod_jump⟩
theorem mh_Mod_span : mhOK M_Mod_span 1 := ⟨⟨by decide, by decide, by decide +kernel⟩, by decide, ini_Mod, cw_Mod_span⟩
theorem mh_Mod_lost : mhOK M_Mod_lost 2 := ⟨⟨by decide, by decide, by decide +kernel⟩, by decide, ini_Mod, cw_Mod_lost⟩
theorem mh_Mod_lostBy : mhOK M_Mod_lostBy 2 := ⟨⟨by decide, by decide, by decide +kernel⟩, by decide, ini_Mod, cw_Mod_lostBy⟩
theorem mh_Mod_toRide : mhOK M_Mod_toRide 0 := ⟨⟨by decide, by decide, by decide +kernel⟩, by decide, ini_Mod, cw_Mod_toRide⟩
theorem mh_Mod_ownOf : mhOK M_Mod_ownOf 1 := ⟨⟨by decide, by decide, by decide +kernel⟩, by decide, ini_Mod, cw_Mod_ownOf⟩
theorem mh_Mod_toTune : mhOK M_Mod_toTune 3 := ⟨⟨by decide, by decide, by decide +kernel⟩, by decide, ini_Mod, cw_Mod_toTune⟩
theorem mh_Mod_isTame : mhOK M_Mod_isTame 3 := ⟨⟨by decide, by decide, by decide +kernel⟩, by decide, ini_Mod, cw_Mod_isTame⟩
theorem mh_Mod_slack : mhOK M_Mod_slack 1 := ⟨⟨by decide, by decide, by decide +kernel⟩, by decide, ini_Mod, cw_Mod_slack⟩
theorem mh_Mod_note : mhOK M_Mod_note 3 := ⟨⟨by decide, by decide, by decide +kernel⟩, by decide, ini_Mod, cw_Mod_note⟩
theorem mh_Mod_fits : mhOK M_Mod_fits 0 := ⟨⟨by decide, by decide, by decide +kernel⟩, by decide, ini_Mod, cw_Mod_fits⟩
theorem mh_Mod_isCause : mhOK M_Mod_isCause 1 := ⟨⟨by decide, by decide, by decide +kernel⟩, by decide, ini_Mod, cw_Mod_isCause⟩
theorem mh_Mod_hasInput : mhOK M_Mod_hasInput 1 := ⟨⟨by decide, by decide, by decide +kernel⟩, by decide, ini_Mod, cw_Mod_hasInput⟩
theorem mh_Mod_isNoted : mhOK M_Mod_isNoted 1 := ⟨⟨by decide, by decide, by decide +kernel⟩, by decide, ini_Mod, cw_Mod_isNoted⟩
theorem mh_Mod_look : mhOK M_Mod_look 1 := ⟨⟨by decide, by decide, by decide +kernel⟩, by decide, ini_Mod, cw_Mod_look⟩
theorem mh_Mod_forget : mhOK M_Mod_forget 0 := ⟨⟨by decide, by decide, by decide +kernel⟩, by decide, ini_Mod, cw_Mod_forget⟩
theorem mh_Mod_years : mhOK M_Mod_years 3 := ⟨⟨by decide, by decide, by decide +kernel⟩, by decide, ini_Mod, cw_Mod_years⟩
theorem mh_Mod_year : mhOK M_Mod_year 0 := ⟨⟨by decide, by decide, by decide +kernel⟩, by decide, ini_Mod, cw_Mod_year⟩
theorem mh_Mod_draw : mhOK M_Mod_draw 1 := ⟨⟨by decide, by decide, by decide +kernel⟩, by decide, ini_Mod, cw_Mod_draw⟩
theorem mh_Mod_image : mhOK M_Mod_image 0 := ⟨⟨by decide, by decide, by decide +kernel⟩, by decide, ini_Mod, cw_Mod_image⟩
theorem mh_Mod_restore : mhOK M_Mod_restore 0 := ⟨⟨by decide, by decide, by decide +kernel⟩, by decide, ini_Mod, cw_Mod_restore⟩
theorem fw_Links_9 : Cond.fieldLink "CascadeBus$Links" 9 (F_Links 0).1 (F_Links 0).2.1 (F_Links 0).2.2.1 ∈ gw := gm1 (i := 46) (by decide +kernel) rfl
theorem fl_Links_9 : FL "CascadeBus$Links" 9 2 0 := ⟨_, _, _, rfl, i_Links, by decide, fw_Links_9⟩
theorem fp_Links_9 : FP "CascadeBus$Links" 9 2 0 .int false := ⟨_, _, _, _, rfl, i_Links, by decide, fw_Links_9, t_Links_ok, n_Links, by decide +kernel, rfl, fun _ => rfl⟩
theorem fw_Plan_83 : Cond.fieldLink "CascadeBus$Plan" 83 (F_Links 0).1 (F_Links 0).2.1 (F_Links 0).2.2.1 ∈ gw := gm1 (i := 47) (by decide +kernel) rfl
theorem fl_Plan_83 : FL "CascadeBus$Plan" 83 2 0 := ⟨_, _, _, rfl, i_Links, by decide, fw_Plan_83⟩
theorem fp_Plan_83 : FP "CascadeBus$Plan" 83 2 0 .int false := ⟨_, _, _, _, rfl, i_Links, by decide, fw_Plan_83, t_Links_ok, n_Links, by decide +kernel, rfl, fun _ => (by simp at *)⟩
theorem fw_Layout_66 : Cond.fieldLink "CascadeBus$Layout" 66 (F_Links 0).1 (F_Links 0).2.1 (F_Links 0).2.2.1 ∈ gw := gm1 (i := 48) (by decide +kernel) rfl
theorem fl_Layout_66 : FL "CascadeBus$Layout" 66 2 0 := ⟨_, _, _, rfl, i_Links, by decide, fw_Layout_66⟩
theorem fp_Layout_66 : FP "CascadeBus$Layout" 66 2 0 .int false := ⟨_, _, _, _, rfl, i_Links, by decide, fw_Layout_66, t_Links_ok, n_Links, by decide +kernel, rfl, fun _ => (by simp at *)⟩
theorem fw_Cycle_55 : Cond.fieldLink "CascadeBus$Cycle" 55 (F_Links 0).1 (F_Links 0).2.1 (F_Links 0).2.2.1 ∈ gw := gm1 (i := 49) (by decide +kernel) rfl
theorem fl_Cycle_55 : FL "CascadeBus$Cycle" 55 2 0 := ⟨_, _, _, rfl, i_Links, by decide, fw_Cycle_55⟩
theorem fp_Cycle_55 : FP "CascadeBus$Cycle" 55 2 0 .int false := ⟨_, _, _, _, rfl, i_Links, by decide, fw_Cycle_55, t_Links_ok, n_Links, by decide +kernel, rfl, fun _ => (by simp at *)⟩
theorem fw_Bus_140 : Cond.fieldLink "CascadeBus" 140 (F_Links 0).1 (F_Links 0).2.1 (F_Links 0).2.2.1 ∈ gw := gm1 (i := 50) (by decide +kernel) rfl
theorem fl_Bus_140 : FL "CascadeBus" 140 2 0 := ⟨_, _, _, rfl, i_Links, by decide, fw_Bus_140⟩
theorem fp_Bus_140 : FP "CascadeBus" 140 2 0 .int false := ⟨_, _, _, _, rfl, i_Links, by decide, fw_Bus_140, t_Links_ok, n_Links, by decide +kernel, rfl, fun _ => (by simp at *)⟩
theorem fw_Reader_187 : Cond.fieldLink "CascadeBus$Reader" 187 (F_Links 0).1 (F_Links 0).2.1 (F_Links 0).2.2.1 ∈ gw := gm1 (i := 51) (by decide +kernel) rfl
theorem fl_Reader_187 : FL "CascadeBus$Reader" 187 2 0 := ⟨_, _, _, rfl, i_Links, by decide, fw_Reader_187⟩
theorem fp_Reader_187 : FP "CascadeBus$Reader" 187 2 0 .int false := ⟨_, _, _, _, rfl, i_Links, by decide, fw_Reader_187, t_Links_ok, n_Links, by decide +kernel, rfl, fun _ => (by simp at *)⟩
theorem fw_Links_15 : Cond.fieldLink "CascadeBus$Links" 15 (F_Links 1).1 (F_Links 1).2.1 (F_Links 1).2.2.1 ∈ gw := gm1 (i := 52) (by decide +kernel) rfl
theorem fl_Links_15 : FL "CascadeBus$Links" 15 2 1 := ⟨_, _, _, rfl, i_Links, by decide, fw_Links_15⟩
theorem fp_Links_15 : FP "CascadeBus$Links" 15 2 1 (.array .int) true := ⟨_, _, _, _, rfl, i_Links, by decide, fw_Links_15, t_Links_ok, n_Links, by decide +kernel, rfl, fun _ => rfl⟩
theorem fw_Layout_88 : Cond.fieldLink "CascadeBus$Layout" 88 (F_Links 1).1 (F_Links 1).2.1 (F_Links 1).2.2.1 ∈ gw := gm1 (i := 53) (by decide +kernel) rfl
theorem fl_Layout_88 : FL "CascadeBus$Layout" 88 2 1 := ⟨_, _, _, rfl, i_Links, by decide, fw_Layout_88⟩
theorem fw_Cycle_98 : Cond.fieldLink "CascadeBus$Cycle" 98 (F_Links 1).1 (F_Links 1).2.1 (F_Links 1).2.2.1 ∈ gw := gm1 (i := 54) (by decide +kernel) rfl
theorem fl_Cycle_98 : FL "CascadeBus$Cycle" 98 2 1 := ⟨_, _, _, rfl, i_Links, by decide, fw_Cycle_98⟩
theorem fw_Bus_177 : Cond.fieldLink "CascadeBus" 177 (F_Links 1).1 (F_Links 1).2.1 (F_Links 1).2.2.1 ∈ gw := gm1 (i := 55) (by decide +kernel) rfl
theorem fl_Bus_177 : FL "CascadeBus" 177 2 1 := ⟨_, _, _, rfl, i_Links, by decide, fw_Bus_177⟩
theorem fw_Links_19 : Cond.fieldLink "CascadeBus$Links" 19 (F_Links 2).1 (F_Links 2).2.1 (F_Links 2).2.2.1 ∈ gw := gm1 (i := 56) (by decide +kernel) rfl
theorem fl_Links_19 : FL "CascadeBus$Links" 19 2 2 := ⟨_, _, _, rfl, i_Links, by decide, fw_Links_19⟩
theorem fp_Links_19 : FP "CascadeBus$Links" 19 2 2 (.array .int) true := ⟨_, _, _, _, rfl, i_Links, by decide, fw_Links_19, t_Links_ok, n_Links, by decide +kernel, rfl, fun _ => rfl⟩
theorem fw_Layout_78 : Cond.fieldLink "CascadeBus$Layout" 78 (F_Links 2).1 (F_Links 2).2.1 (F_Links 2).2.2.1 ∈ gw := gm1 (i := 57) (by decide +kernel) rfl
theorem fl_Layout_78 : FL "CascadeBus$Layout" 78 2 2 := ⟨_, _, _, rfl, i_Links, by decide, fw_Layout_78⟩
theorem fw_Cycle_101 : Cond.fieldLink "CascadeBus$Cycle" 101 (F_Links 2).1 (F_Links 2).2.1 (F_Links 2).2.2.1 ∈ gw := gm1 (i := 58) (by decide +kernel) rfl
theorem fl_Cycle_101 : FL "CascadeBus$Cycle" 101 2 2 := ⟨_, _, _, rfl, i_Links, by decide, fw_Cycle_101⟩
theorem fw_Bus_180 : Cond.fieldLink "CascadeBus" 180 (F_Links 2).1 (F_Links 2).2.1 (F_Links 2).2.2.1 ∈ gw := gm1 (i := 59) (by decide +kernel) rfl
theorem fl_Bus_180 : FL "CascadeBus" 180 2 2 := ⟨_, _, _, rfl, i_Links, by decide, fw_Bus_180⟩
theorem fw_Links_22 : Cond.fieldLink "CascadeBus$Links" 22 (F_Links 3).1 (F_Links 3).2.1 (F_Links 3).2.2.1 ∈ gw := gm1 (i := 60) (by decide +kernel) rfl
theorem fl_Links_22 : FL "CascadeBus$Links" 22 2 3 := ⟨_, _, _, rfl, i_Links, by decide, fw_Links_22⟩
theorem fp_Links_22 : FP "CascadeBus$Links" 22 2 3 (.array .int) true := ⟨_, _, _, _, rfl, i_Links, by decide, fw_Links_22, t_Links_ok, n_Links, by decide +kernel, rfl, fun _ => rfl⟩
theorem fw_Layout_71 : Cond.fieldLink "CascadeBus$Layout" 71 (F_Links 3).1 (F_Links 3).2.1 (F_Links 3).2.2.1 ∈ gw := gm1 (i := 61) (by decide +kernel) rfl
theorem fl_Layout_71 : FL "CascadeBus$Layout" 71 2 3 := ⟨_, _, _, rfl, i_Links, by decide, fw_Layout_71⟩
theorem fw_Cycle_60 : Cond.fieldLink "CascadeBus$Cycle" 60 (F_Links 3).1 (F_Links 3).2.1 (F_Links 3).2.2.1 ∈ gw := gm1 (i := 62) (by decide +kernel) rfl
theorem fl_Cycle_60 : FL "CascadeBus$Cycle" 60 2 3 := ⟨_, _, _, rfl, i_Links, by decide, fw_Cycle_60⟩
theorem fw_Bus_183 : Cond.fieldLink "CascadeBus" 183 (F_Links 3).1 (F_Links 3).2.1 (F_Links 3).2.2.1 ∈ gw := gm1 (i := 63) (by decide +kernel) rfl
theorem fl_Bus_183 : FL "CascadeBus" 183 2 3 := ⟨_, _, _, rfl, i_Links, by decide, fw_Bus_183⟩
theorem fw_Plants_9 : Cond.fieldLink "CascadeBus$Plants" 9 (F_Plants 0).1 (F_Plants 0).2.1 (F_Plants 0).2.2.1 ∈ gw := gm1 (i := 82) (by decide +kernel) rfl
theorem fl_Plants_9 : FL "CascadeBus$Plants" 9 6 0 := ⟨_, _, _, rfl, i_Plants, by decide, fw_Plants_9⟩
theorem fp_Plants_9 : FP "CascadeBus$Plants" 9 6 0 (.array .int) true := ⟨_, _, _, _, rfl, i_Plants, by decide, fw_Plants_9, t_Plants_ok, n_Plants, by decide +kernel, rfl, fun _ => rfl⟩
theorem fw_Cycle_70 : Cond.fieldLink "CascadeBus$Cycle" 70 (F_Plants 0).1 (F_Plants 0).2.1 (F_Plants 0).2.2.1 ∈ gw := gm1 (i := 83) (by decide +kernel) rfl
theorem fl_Cycle_70 : FL "CascadeBus$Cycle" 70 6 0 := ⟨_, _, _, rfl, i_Plants, by decide, fw_Cycle_70⟩
theorem fw_Reader_117 : Cond.fieldLink "CascadeBus$Reader" 117 (F_Plants 0).1 (F_Plants 0).2.1 (F_Plants 0).2.2.1 ∈ gw := gm1 (i := 84) (by decide +kernel) rfl
theorem fl_Reader_117 : FL "CascadeBus$Reader" 117 6 0 := ⟨_, _, _, rfl, i_Plants, by decide, fw_Reader_117⟩
theorem fw_Bus_196 : Cond.fieldLink "CascadeBus" 196 (F_Plants 0).1 (F_Plants 0).2.1 (F_Plants 0).2.2.1 ∈ gw := gm1 (i := 85) (by decide +kernel) rfl
theorem fl_Bus_196 : FL "CascadeBus" 196 6 0 := ⟨_, _, _, rfl, i_Plants, by decide, fw_Bus_196⟩
theorem fw_Plants_15 : Cond.fieldLink "CascadeBus$Plants" 15 (F_Plants 1).1 (F_Plants 1).2.1 (F_Plants 1).2.2.1 ∈ gw := gm1 (i := 86) (by decide +kernel) rfl
theorem fl_Plants_15 : FL "CascadeBus$Plants" 15 6 1 := ⟨_, _, _, rfl, i_Plants, by decide, fw_Plants_15⟩
theorem fp_Plants_15 : FP "CascadeBus$Plants" 15 6 1 (.array .int) true := ⟨_, _, _, _, rfl, i_Plants, by decide, fw_Plants_15, t_Plants_ok, n_Plants, by decide +kernel, rfl, fun _ => rfl⟩
theorem fw_Cycle_82 : Cond.fieldLink "CascadeBus$Cycle" 82 (F_Plants 1).1 (F_Plants 1).2.1 (F_Plants 1).2.2.1 ∈ gw := gm1 (i := 87) (by decide +kernel) rfl
theorem fl_Cycle_82 : FL "CascadeBus$Cycle" 82 6 1 := ⟨_, _, _, rfl, i_Plants, by decide, fw_Cycle_82⟩
theorem fw_Reader_123 : Cond.fieldLink "CascadeBus$Reader" 123 (F_Plants 1).1 (F_Plants 1).2.1 (F_Plants 1).2.2.1 ∈ gw := gm1 (i := 88) (by decide +kernel) rfl
theorem fl_Reader_123 : FL "CascadeBus$Reader" 123 6 1 := ⟨_, _, _, rfl, i_Plants, by decide, fw_Reader_123⟩
theorem fw_Plants_18 : Cond.fieldLink "CascadeBus$Plants" 18 (F_Plants 2).1 (F_Plants 2).2.1 (F_Plants 2).2.2.1 ∈ gw := gm1 (i := 89) (by decide +kernel) rfl
theorem fl_Plants_18 : FL "CascadeBus$Plants" 18 6 2 := ⟨_, _, _, rfl, i_Plants, by decide, fw_Plants_18⟩
theorem fp_Plants_18 : FP "CascadeBus$Plants" 18 6 2 (.array .int) true := ⟨_, _, _, _, rfl, i_Plants, by decide, fw_Plants_18, t_Plants_ok, n_Plants, by decide +kernel, rfl, fun _ => rfl⟩
theorem fw_Cycle_75 : Cond.fieldLink "CascadeBus$Cycle" 75 (F_Plants 2).1 (F_Plants 2).2.1 (F_Plants 2).2.2.1 ∈ gw := gm1 (i := 90) (by decide +kernel) rfl
theorem fl_Cycle_75 : FL "CascadeBus$Cycle" 75 6 2 := ⟨_, _, _, rfl, i_Plants, by decide, fw_Cycle_75⟩
theorem fw_Reader_126 : Cond.fieldLink "CascadeBus$Reader" 126 (F_Plants 2).1 (F_Plants 2).2.1 (F_Plants 2).2.2.1 ∈ gw := gm1 (i := 91) (by decide +kernel) rfl
theorem fl_Reader_126 : FL "CascadeBus$Reader" 126 6 2 := ⟨_, _, _, rfl, i_Plants, by decide, fw_Reader_126⟩
theorem fw_Layout_9 : Cond.fieldLink "CascadeBus$Layout" 9 (F_Layout 0).1 (F_Layout 0).2.1 (F_Layout 0).2.2.1 ∈ gw := gm1 (i := 105) (by decide +kernel) rfl
theorem fl_Layout_9 : FL "CascadeBus$Layout" 9 1 0 := ⟨_, _, _, rfl, i_Layout, by decide, fw_Layout_9⟩
theorem fp_Layout_9 : FP "CascadeBus$Layout" 9 1 0 .int false := ⟨_, _, _, _, rfl, i_Layout, by decide, fw_Layout_9, t_Layout_ok, n_Layout, by decide +kernel, rfl, fun _ => rfl⟩
theorem fw_Bus_145 : Cond.fieldLink "CascadeBus" 145 (F_Layout 0).1 (F_Layout 0).2.1 (F_Layout 0).2.2.1 ∈ gw := gm1 (i := 106) (by decide +kernel) rfl
theorem fl_Bus_145 : FL "CascadeBus" 145 1 0 := ⟨_, _, _, rfl, i_Layout, by decide, fw_Bus_145⟩
theorem fp_Bus_145 : FP "CascadeBus" 145 1 0 .int false := ⟨_, _, _, _, rfl, i_Layout, by decide, fw_Bus_145, t_Layout_ok, n_Layout, by decide +kernel, rfl, fun _ => (by simp at *)⟩
theorem fw_Layout_15 : Cond.fieldLink "CascadeBus$Layout" 15 (F_Layout 1).1 (F_Layout 1).2.1 (F_Layout 1).2.2.1 ∈ gw := gm1 (i := 107) (by decide +kernel) rfl
theorem fl_Layout_15 : FL "CascadeBus$Layout" 15 1 1 := ⟨_, _, _, rfl, i_Layout, by decide, fw_Layout_15⟩
theorem fp_Layout_15 : FP "CascadeBus$Layout" 15 1 1 .int false := ⟨_, _, _, _, rfl, i_Layout, by decide, fw_Layout_15, t_Layout_ok, n_Layout, by decide +kernel, rfl, fun _ => rfl⟩
theorem fw_Bus_148 : Cond.fieldLink "CascadeBus" 148 (F_Layout 1).1 (F_Layout 1).2.1 (F_Layout 1).2.2.1 ∈ gw := gm1 (i := 108) (by decide +kernel) rfl
theorem fl_Bus_148 : FL "CascadeBus" 148 1 1 := ⟨_, _, _, rfl, i_Layout, by decide, fw_Bus_148⟩
theorem fp_Bus_148 : FP "CascadeBus" 148 1 1 .int false := ⟨_, _, _, _, rfl, i_Layout, by decide, fw_Bus_148, t_Layout_ok, n_Layout, by decide +kernel, rfl, fun _ => (by simp at *)⟩
theorem fw_Layout_18 : Cond.fieldLink "CascadeBus$Layout" 18 (F_Layout 2).1 (F_Layout 2).2.1 (F_Layout 2).2.2.1 ∈ gw := gm1 (i := 109) (by decide +kernel) rfl
theorem fl_Layout_18 : FL "CascadeBus$Layout" 18 1 2 := ⟨_, _, _, rfl, i_Layout, by decide, fw_Layout_18⟩
theorem fp_Layout_18 : FP "CascadeBus$Layout" 18 1 2 .int false := ⟨_, _, _, _, rfl, i_Layout, by decide, fw_Layout_18, t_Layout_ok, n_Layout, by decide +kernel, rfl, fun _ => rfl⟩
theorem fw_Layout_21 : Cond.fieldLink "CascadeBus$Layout" 21 (F_Layout 3).1 (F_Layout 3).2.1 (F_Layout 3).2.2.1 ∈ gw := gm1 (i := 110) (by decide +kernel) rfl
theorem fl_Layout_21 : FL "CascadeBus$Layout" 21 1 3 := ⟨_, _, _, rfl, i_Layout, by decide, fw_Layout_21⟩
theorem fp_Layout_21 : FP "CascadeBus$Layout" 21 1 3 (.array .int) true := ⟨_, _, _, _, rfl, i_Layout, by decide, fw_Layout_21, t_Layout_ok, n_Layout, by decide +kernel, rfl, fun _ => rfl⟩
theorem fw_Cycle_28 : Cond.fieldLink "CascadeBus$Cycle" 28 (F_Layout 3).1 (F_Layout 3).2.1 (F_Layout 3).2.2.1 ∈ gw := gm1 (i := 111) (by decide +kernel) rfl
theorem fl_Cycle_28 : FL "CascadeBus$Cycle" 28 1 3 := ⟨_, _, _, rfl, i_Layout, by decide, fw_Cycle_28⟩
theorem fw_Layout_25 : Cond.fieldLink "CascadeBus$Layout" 25 (F_Layout 4).1 (F_Layout 4).2.1 (F_Layout 4).2.2.1 ∈ gw := gm1 (i := 112) (by decide +kernel) rfl
theorem fl_Layout_25 : FL "CascadeBus$Layout" 25 1 4 := ⟨_, _, _, rfl, i_Layout, by decide, fw_Layout_25⟩
theorem fp_Layout_25 : FP "CascadeBus$Layout" 25 1 4 (.array .int) true := ⟨_, _, _, _, rfl, i_Layout, by decide, fw_Layout_25, t_Layout_ok, n_Layout, by decide +kernel, rfl, fun _ => rfl⟩
theorem fw_Bus_174 : Cond.fieldLink "CascadeBus" 174 (F_Layout 4).1 (F_Layout 4).2.1 (F_Layout 4).2.2.1 ∈ gw := gm1 (i := 113) (by decide +kernel) rfl
theorem fl_Bus_174 : FL "CascadeBus" 174 1 4 := ⟨_, _, _, rfl, i_Layout, by decide, fw_Bus_174⟩
theorem fw_Layout_28 : Cond.fieldLink "CascadeBus$Layout" 28 (F_Layout 5).1 (F_Layout 5).2.1 (F_Layout 5).2.2.1 ∈ gw := gm1 (i := 114) (by decide +kernel) rfl
theorem fl_Layout_28 : FL "CascadeBus$Layout" 28 1 5 := ⟨_, _, _, rfl, i_Layout, by decide, fw_Layout_28⟩
theorem fp_Layout_28 : FP "CascadeBus$Layout" 28 1 5 (.array .int) true := ⟨_, _, _, _, rfl, i_Layout, by decide, fw_Layout_28, t_Layout_ok, n_Layout, by decide +kernel, rfl, fun _ => rfl⟩
theorem fw_Bus_168 : Cond.fieldLink "CascadeBus" 168 (F_Layout 5).1 (F_Layout 5).2.1 (F_Layout 5).2.2.1 ∈ gw := gm1 (i := 115) (by decide +kernel) rfl
theorem fl_Bus_168 : FL "CascadeBus" 168 1 5 := ⟨_, _, _, rfl, i_Layout, by decide, fw_Bus_168⟩
theorem fw_Layout_31 : Cond.fieldLink "CascadeBus$Layout" 31 (F_Layout 6).1 (F_Layout 6).2.1 (F_Layout 6).2.2.1 ∈ gw := gm1 (i := 116) (by decide +kernel) rfl
theorem fl_Layout_31 : FL "CascadeBus$Layout" 31 1 6 := ⟨_, _, _, rfl, i_Layout, by decide, fw_Layout_31⟩
theorem fp_Layout_31 : FP "CascadeBus$Layout" 31 1 6 (.array .int) true := ⟨_, _, _, _, rfl, i_Layout, by decide, fw_Layout_31, t_Layout_ok, n_Layout, by decide +kernel, rfl, fun _ => rfl⟩
theorem fw_Bus_171 : Cond.fieldLink "CascadeBus" 171 (F_Layout 6).1 (F_Layout 6).2.1 (F_Layout 6).2.2.1 ∈ gw := gm1 (i := 117) (by decide +kernel) rfl
theorem fl_Bus_171 : FL "CascadeBus" 171 1 6 := ⟨_, _, _, rfl, i_Layout, by decide, fw_Bus_171⟩
theorem fw_Layout_34 : Cond.fieldLink "CascadeBus$Layout" 34 (F_Layout 7).1 (F_Layout 7).2.1 (F_Layout 7).2.2.1 ∈ gw := gm1 (i := 118) (by decide +kernel) rfl
theorem fl_Layout_34 : FL "CascadeBus$Layout" 34 1 7 := ⟨_, _, _, rfl, i_Layout, by decide, fw_Layout_34⟩
theorem fp_Layout_34 : FP "CascadeBus$Layout" 34 1 7 (.array .int) true := ⟨_, _, _, _, rfl, i_Layout, by decide, fw_Layout_34, t_Layout_ok, n_Layout, by decide +kernel, rfl, fun _ => rfl⟩
theorem fw_Bus_186 : Cond.fieldLink "CascadeBus" 186 (F_Layout 7).1 (F_Layout 7).2.1 (F_Layout 7).2.2.1 ∈ gw := gm1 (i := 119) (by decide +kernel) rfl
theorem fl_Bus_186 : FL "CascadeBus" 186 1 7 := ⟨_, _, _, rfl, i_Layout, by decide, fw_Bus_186⟩
theorem fw_Layout_37 : Cond.fieldLink "CascadeBus$Layout" 37 (F_Layout 8).1 (F_Layout 8).2.1 (F_Layout 8).2.2.1 ∈ gw := gm1 (i := 120) (by decide +kernel) rfl
theorem fl_Layout_37 : FL "CascadeBus$Layout" 37 1 8 := ⟨_, _, _, rfl, i_Layout, by decide, fw_Layout_37⟩
theorem fp_Layout_37 : FP "CascadeBus$Layout" 37 1 8 (.array .int) true := ⟨_, _, _, _, rfl, i_Layout, by decide, fw_Layout_37, t_Layout_ok, n_Layout, by decide +kernel, rfl, fun _ => rfl⟩
theorem fw_Bus_189 : Cond.fieldLink "CascadeBus" 189 (F_Layout 8).1 (F_Layout 8).2.1 (F_Layout 8).2.2.1 ∈ gw := gm1 (i := 121) (by decide +kernel) rfl
theorem fl_Bus_189 : FL "CascadeBus" 189 1 8 := ⟨_, _, _, rfl, i_Layout, by decide, fw_Bus_189⟩
theorem fw_Layout_40 : Cond.fieldLink "CascadeBus$Layout" 40 (F_Layout 9).1 (F_Layout 9).2.1 (F_Layout 9).2.2.1 ∈ gw := gm1 (i := 122) (by decide +kernel) rfl
theorem fl_Layout_40 : FL "CascadeBus$Layout" 40 1 9 := ⟨_, _, _, rfl, i_Layout, by decide, fw_Layout_40⟩
theorem fp_Layout_40 : FP "CascadeBus$Layout" 40 1 9 (.array .int) true := ⟨_, _, _, _, rfl, i_Layout, by decide, fw_Layout_40, t_Layout_ok, n_Layout, by decide +kernel, rfl, fun _ => rfl⟩
theorem fw_Plan_9 : Cond.fieldLink "CascadeBus$Plan" 9 (F_Plan 0).1 (F_Plan 0).2.1 (F_Plan 0).2.2.1 ∈ gw := gm1 (i := 144) (by decide +kernel) rfl
theorem fl_Plan_9 : FL "CascadeBus$Plan" 9 5 0 := ⟨_, _, _, rfl, i_Plan, by decide, fw_Plan_9⟩
theorem fp_Plan_9 : FP "CascadeBus$Plan" 9 5 0 .int false := ⟨_, _, _, _, rfl, i_Plan, by decide, fw_Plan_9, t_Plan_ok, n_Plan, by decide +kernel, rfl, fun _ => rfl⟩
theorem fw_Years_26 : Cond.fieldLink "CascadeBus$Years" 26 (F_Plan 0).1 (F_Plan 0).2.1 (F_Plan 0).2.2.1 ∈ gw := gm1 (i := 145) (by decide +kernel) rfl
theorem fl_Years_26 : FL "CascadeBus$Years" 26 5 0 := ⟨_, _, _, rfl, i_Plan, by decide, fw_Years_26⟩
theorem fp_Years_26 : FP "CascadeBus$Years" 26 5 0 .int false := ⟨_, _, _, _, rfl, i_Plan, by decide, fw_Years_26, t_Plan_ok, n_Plan, by decide +kernel, rfl, fun _ => (by simp at *)⟩
theorem fw_State_33 : Cond.fieldLink "CascadeBus$State" 33 (F_Plan 0).1 (F_Plan 0).2.1 (F_Plan 0).2.2.1 ∈ gw := gm1 (i := 146) (by decide +kernel) rfl
theorem fl_State_33 : FL "CascadeBus$State" 33 5 0 := ⟨_, _, _, rfl, i_Plan, by decide, fw_State_33⟩
theorem fp_State_33 : FP "CascadeBus$State" 33 5 0 .int false := ⟨_, _, _, _, rfl, i_Plan, by decide, fw_State_33, t_Plan_ok, n_Plan, by decide +kernel, rfl, fun _ => (by simp at *)⟩
theorem fw_Reader_107 : Cond.fieldLink "CascadeBus$Reader" 107 (F_Plan 0).1 (F_Plan 0).2.1 (F_Plan 0).2.2.1 ∈ gw := gm1 (i := 147) (by decide +kernel) rfl
theorem fl_Reader_107 : FL "CascadeBus$Reader" 107 5 0 := ⟨_, _, _, rfl, i_Plan, by decide, fw_Reader_107⟩
theorem fp_Reader_107 : FP "CascadeBus$Reader" 107 5 0 .int false := ⟨_, _, _, _, rfl, i_Plan, by decide, fw_Reader_107, t_Plan_ok, n_Plan, by decide +kernel, rfl, fun _ => (by simp at *)⟩
theorem fw_Cycle_95 : Cond.fieldLink "CascadeBus$Cycle" 95 (F_Plan 0).1 (F_Plan 0).2.1 (F_Plan 0).2.2.1 ∈ gw := gm1 (i := 148) (by decide +kernel) rfl
theorem fl_Cycle_95 : FL "CascadeBus$Cycle" 95 5 0 := ⟨_, _, _, rfl, i_Plan, by decide, fw_Cycle_95⟩
theorem fp_Cycle_95 : FP "CascadeBus$Cycle" 95 5 0 .int false := ⟨_, _, _, _, rfl, i_Plan, by decide, fw_Cycle_95, t_Plan_ok, n_Plan, by decide +kernel, rfl, fun _ => (by simp at *)⟩
theorem fw_Bus_130 : Cond.fieldLink "CascadeBus" 130 (F_Plan 0).1 (F_Plan 0).2.1 (F_Plan 0).2.2.1 ∈ gw := gm1 (i := 149) (by decide +kernel) rfl
theorem fl_Bus_130 : FL "CascadeBus" 130 5 0 := ⟨_, _, _, rfl, i_Plan, by decide, fw_Bus_130⟩
theorem fp_Bus_130 : FP "CascadeBus" 130 5 0 .int false := ⟨_, _, _, _, rfl, i_Plan, by decide, fw_Bus_130, t_Plan_ok, n_Plan, by decide +kernel, rfl, fun _ => (by simp at *)⟩
theorem fw_Plan_15 : Cond.fieldLink "CascadeBus$Plan" 15 (F_Plan 1).1 (F_Plan 1).2.1 (F_Plan 1).2.2.1 ∈ gw := gm1 (i := 150) (by decide +kernel) rfl
theorem fl_Plan_15 : FL "CascadeBus$Plan" 15 5 1 := ⟨_, _, _, rfl, i_Plan, by decide, fw_Plan_15⟩
theorem fp_Plan_15 : FP "CascadeBus$Plan" 15 5 1 .int false := ⟨_, _, _, _, rfl, i_Plan, by decide, fw_Plan_15, t_Plan_ok, n_Plan, by decide +kernel, rfl, fun _ => rfl⟩
theorem fw_State_36 : Cond.fieldLink "CascadeBus$State" 36 (F_Plan 1).1 (F_Plan 1).2.1 (F_Plan 1).2.2.1 ∈ gw := gm1 (i := 151) (by decide +kernel) rfl
theorem fl_State_36 : FL "CascadeBus$State" 36 5 1 := ⟨_, _, _, rfl, i_Plan, by decide, fw_State_36⟩
theorem fp_State_36 : FP "CascadeBus$State" 36 5 1 .int false := ⟨_, _, _, _, rfl, i_Plan, by decide, fw_State_36, t_Plan_ok, n_Plan, by decide +kernel, rfl, fun _ => (by simp at *)⟩
theorem fw_Reader_109 : Cond.fieldLink "CascadeBus$Reader" 109 (F_Plan 1).1 (F_Plan 1).2.1 (F_Plan 1).2.2.1 ∈ gw := gm1 (i := 152) (by decide +kernel) rfl
theorem fl_Reader_109 : FL "CascadeBus$Reader" 109 5 1 := ⟨_, _, _, rfl, i_Plan, by decide, fw_Reader_109⟩
theorem fp_Reader_109 : FP "CascadeBus$Reader" 109 5 1 .int false := ⟨_, _, _, _, rfl, i_Plan, by decide, fw_Reader_109, t_Plan_ok, n_Plan, by decide +kernel, rfl, fun _ => (by simp at *)⟩
theorem fw_Plan_18 : Cond.fieldLink "CascadeBus$Plan" 18 (F_Plan 2).1 (F_Plan 2).2.1 (F_Plan 2).2.2.1 ∈ gw := gm1 (i := 153) (by decide +kernel) rfl
theorem fl_Plan_18 : FL "CascadeBus$Plan" 18 5 2 := ⟨_, _, _, rfl, i_Plan, by decide, fw_Plan_18⟩
theorem fp_Plan_18 : FP "CascadeBus$Plan" 18 5 2 .int false := ⟨_, _, _, _, rfl, i_Plan, by decide, fw_Plan_18, t_Plan_ok, n_Plan, by decide +kernel, rfl, fun _ => rfl⟩
theorem fw_Years_37 : Cond.fieldLink "CascadeBus$Years" 37 (F_Plan 2).1 (F_Plan 2).2.1 (F_Plan 2).2.2.1 ∈ gw := gm1 (i := 154) (by decide +kernel) rfl
theorem fl_Years_37 : FL "CascadeBus$Years" 37 5 2 := ⟨_, _, _, rfl, i_Plan, by decide, fw_Years_37⟩
theorem fp_Years_37 : FP "CascadeBus$Years" 37 5 2 .int false := ⟨_, _, _, _, rfl, i_Plan, by decide, fw_Years_37, t_Plan_ok, n_Plan, by decide +kernel, rfl, fun _ => (by simp at *)⟩
theorem fw_Reader_111 : Cond.fieldLink "CascadeBus$Reader" 111 (F_Plan 2).1 (F_Plan 2).2.1 (F_Plan 2).2.2.1 ∈ gw := gm1 (i := 155) (by decide +kernel) rfl
theorem fl_Reader_111 : FL "CascadeBus$Reader" 111 5 2 := ⟨_, _, _, rfl, i_Plan, by decide, fw_Reader_111⟩
theorem fp_Reader_111 : FP "CascadeBus$Reader" 111 5 2 .int false := ⟨_, _, _, _, rfl, i_Plan, by decide, fw_Reader_111, t_Plan_ok, n_Plan, by decide +kernel, rfl, fun _ => (by simp at *)⟩
theorem fw_Bus_236 : Cond.fieldLink "CascadeBus" 236 (F_Plan 2).1 (F_Plan 2).2.1 (F_Plan 2).2.2.1 ∈ gw := gm1 (i := 156) (by decide +kernel) rfl
theorem fl_Bus_236 : FL "CascadeBus" 236 5 2 := ⟨_, _, _, rfl, i_Plan, by decide, fw_Bus_236⟩
theorem fp_Bus_236 : FP "CascadeBus" 236 5 2 .int false := ⟨_, _, _, _, rfl, i_Plan, by decide, fw_Bus_236, t_Plan_ok, n_Plan, by decide +kernel, rfl, fun _ => (by simp at *)⟩
theorem fw_Plan_21 : Cond.fieldLink "CascadeBus$Plan" 21 (F_Plan 3).1 (F_Plan 3).2.1 (F_Plan 3).2.2.1 ∈ gw := gm1 (i := 157) (by decide +kernel) rfl
theorem fl_Plan_21 : FL "CascadeBus$Plan" 21 5 3 := ⟨_, _, _, rfl, i_Plan, by decide, fw_Plan_21⟩
theorem fp_Plan_21 : FP "CascadeBus$Plan" 21 5 3 .int false := ⟨_, _, _, _, rfl, i_Plan, by decide, fw_Plan_21, t_Plan_ok, n_Plan, by decide +kernel, rfl, fun _ => rfl⟩
theorem fw_Layout_46 : Cond.fieldLink "CascadeBus$Layout" 46 (F_Plan 3).1 (F_Plan 3).2.1 (F_Plan 3).2.2.1 ∈ gw := gm1 (i := 158) (by decide +kernel) rfl
theorem fl_Layout_46 : FL "CascadeBus$Layout" 46 5 3 := ⟨_, _, _, rfl, i_Plan, by decide, fw_Layout_46⟩
theorem fp_Layout_46 : FP "CascadeBus$Layout" 46 5 3 .int false := ⟨_, _, _, _, rfl, i_Plan, by decide, fw_Layout_46, t_Plan_ok, n_Plan, by decide +kernel, rfl, fun _ => (by simp at *)⟩
theorem fw_Cycle_18 : Cond.fieldLink "CascadeBus$Cycle" 18 (F_Plan 3).1 (F_Plan 3).2.1 (F_Plan 3).2.2.1 ∈ gw := gm1 (i := 159) (by decide +kernel) rfl
theorem fl_Cycle_18 : FL "CascadeBus$Cycle" 18 5 3 := ⟨_, _, _, rfl, i_Plan, by decide, fw_Cycle_18⟩
theorem fp_Cycle_18 : FP "CascadeBus$Cycle" 18 5 3 .int false := ⟨_, _, _, _, rfl, i_Plan, by decide, fw_Cycle_18, t_Plan_ok, n_Plan, by decide +kernel, rfl, fun _ => (by simp at *)⟩
theorem fw_Years_48 : Cond.fieldLink "CascadeBus$Years" 48 (F_Plan 3).1 (F_Plan 3).2.1 (F_Plan 3).2.2.1 ∈ gw := gm1 (i := 160) (by decide +kernel) rfl
theorem fl_Years_48 : FL "CascadeBus$Years" 48 5 3 := ⟨_, _, _, rfl, i_Plan, by decide, fw_Years_48⟩
theorem fp_Years_48 : FP "CascadeBus$Years" 48 5 3 .int false := ⟨_, _, _, _, rfl, i_Plan, by decide, fw_Years_48, t_Plan_ok, n_Plan, by decide +kernel, rfl, fun _ => (by simp at *)⟩
theorem fw_State_21 : Cond.fieldLink "CascadeBus$State" 21 (F_Plan 3).1 (F_Plan 3).2.1 (F_Plan 3).2.2.1 ∈ gw := gm1 (i := 161) (by decide +kernel) rfl
theorem fl_State_21 : FL "CascadeBus$State" 21 5 3 := ⟨_, _, _, rfl, i_Plan, by decide, fw_State_21⟩
theorem fp_State_21 : FP "CascadeBus$State" 21 5 3 .int false := ⟨_, _, _, _, rfl, i_Plan, by decide, fw_State_21, t_Plan_ok, n_Plan, by decide +kernel, rfl, fun _ => (by simp at *)⟩
theorem fw_Bus_133 : Cond.fieldLink "CascadeBus" 133 (F_Plan 3).1 (F_Plan 3).2.1 (F_Plan 3).2.2.1 ∈ gw := gm1 (i := 162) (by decide +kernel) rfl
theorem fl_Bus_133 : FL "CascadeBus" 133 5 3 := ⟨_, _, _, rfl, i_Plan, by decide, fw_Bus_133⟩
theorem fp_Bus_133 : FP "CascadeBus" 133 5 3 .int false := ⟨_, _, _, _, rfl, i_Plan, by decide, fw_Bus_133, t_Plan_ok, n_Plan, by decide +kernel, rfl, fun _ => (by simp at *)⟩
theorem fw_Reader_129 : Cond.fieldLink "CascadeBus$Reader" 129 (F_Plan 3).1 (F_Plan 3).2.1 (F_Plan 3).2.2.1 ∈ gw := gm1 (i := 163) (by decide +kernel) rfl
theorem fl_Reader_129 : FL "CascadeBus$Reader" 129 5 3 := ⟨_, _, _, rfl, i_Plan, by decide, fw_Reader_129⟩
theorem fp_Reader_129 : FP "CascadeBus$Reader" 129 5 3 .int false := ⟨_, _, _, _, rfl, i_Plan, by decide, fw_Reader_129, t_Plan_ok, n_Plan, by decide +kernel, rfl, fun _ => (by simp at *)⟩
theorem fw_Plan_24 : Cond.fieldLink "CascadeBus$Plan" 24 (F_Plan 4).1 (F_Plan 4).2.1 (F_Plan 4).2.2.1 ∈ gw := gm1 (i := 164) (by decide +kernel) rfl
theorem fl_Plan_24 : FL "CascadeBus$Plan" 24 5 4 := ⟨_, _, _, rfl, i_Plan, by decide, fw_Plan_24⟩
theorem fp_Plan_24 : FP "CascadeBus$Plan" 24 5 4 (.array .int) true := ⟨_, _, _, _, rfl, i_Plan, by decide, fw_Plan_24, t_Plan_ok, n_Plan, by decide +kernel, rfl, fun _ => rfl⟩
theorem fw_Cycle_89 : Cond.fieldLink "CascadeBus$Cycle" 89 (F_Plan 4).1 (F_Plan 4).2.1 (F_Plan 4).2.2.1 ∈ gw := gm1 (i := 165) (by decide +kernel) rfl
theorem fl_Cycle_89 : FL "CascadeBus$Cycle" 89 5 4 := ⟨_, _, _, rfl, i_Plan, by decide, fw_Cycle_89⟩
theorem fw_Bus_159 : Cond.fieldLink "CascadeBus" 159 (F_Plan 4).1 (F_Plan 4).2.1 (F_Plan 4).2.2.1 ∈ gw := gm1 (i := 166) (by decide +kernel) rfl
theorem fl_Bus_159 : FL "CascadeBus" 159 5 4 := ⟨_, _, _, rfl, i_Plan, by decide, fw_Bus_159⟩
theorem fw_State_43 : Cond.fieldLink "CascadeBus$State" 43 (F_Plan 4).1 (F_Plan 4).2.1 (F_Plan 4).2.2.1 ∈ gw := gm1 (i := 167) (by decide +kernel) rfl
theorem fl_State_43 : FL "CascadeBus$State" 43 5 4 := ⟨_, _, _, rfl, i_Plan, by decide, fw_State_43⟩
theorem fw_Reader_137 : Cond.fieldLink "CascadeBus$Reader" 137 (F_Plan 4).1 (F_Plan 4).2.1 (F_Plan 4).2.2.1 ∈ gw := gm1 (i := 168) (by decide +kernel) rfl
theorem fl_Reader_137 : FL "CascadeBus$Reader" 137 5 4 := ⟨_, _, _, rfl, i_Plan, by decide, fw_Reader_137⟩
theorem fw_Plan_28 : Cond.fieldLink "CascadeBus$Plan" 28 (F_Plan 5).1 (F_Plan 5).2.1 (F_Plan 5).2.2.1 ∈ gw := gm1 (i := 169) (by decide +kernel) rfl
theorem fl_Plan_28 : FL "CascadeBus$Plan" 28 5 5 := ⟨_, _, _, rfl, i_Plan, by decide, fw_Plan_28⟩
theorem fp_Plan_28 : FP "CascadeBus$Plan" 28 5 5 (.array .int) true := ⟨_, _, _, _, rfl, i_Plan, by decide, fw_Plan_28, t_Plan_ok, n_Plan, by decide +kernel, rfl, fun _ => rfl⟩
theorem fw_Cycle_41 : Cond.fieldLink "CascadeBus$Cycle" 41 (F_Plan 5).1 (F_Plan 5).2.1 (F_Plan 5).2.2.1 ∈ gw := gm1 (i := 170) (by decide +kernel) rfl
theorem fl_Cycle_41 : FL "CascadeBus$Cycle" 41 5 5 := ⟨_, _, _, rfl, i_Plan, by decide, fw_Cycle_41⟩
theorem fw_Layout_91 : Cond.fieldLink "CascadeBus$Layout" 91 (F_Plan 5).1 (F_Plan 5).2.1 (F_Plan 5).2.2.1 ∈ gw := gm1 (i := 171) (by decide +kernel) rfl
theorem fl_Layout_91 : FL "CascadeBus$Layout" 91 5 5 := ⟨_, _, _, rfl, i_Plan, by decide, fw_Layout_91⟩
theorem fw_Bus_162 : Cond.fieldLink "CascadeBus" 162 (F_Plan 5).1 (F_Plan 5).2.1 (F_Plan 5).2.2.1 ∈ gw := gm1 (i := 172) (by decide +kernel) rfl
theorem fl_Bus_162 : FL "CascadeBus" 162 5 5 := ⟨_, _, _, rfl, i_Plan, by decide, fw_Bus_162⟩
theorem fw_Plan_31 : Cond.fieldLink "CascadeBus$Plan" 31 (F_Plan 6).1 (F_Plan 6).2.1 (F_Plan 6).2.2.1 ∈ gw := gm1 (i := 173) (by decide +kernel) rfl
theorem fl_Plan_31 : FL "CascadeBus$Plan" 31 5 6 := ⟨_, _, _, rfl, i_Plan, by decide, fw_Plan_31⟩
theorem fp_Plan_31 : FP "CascadeBus$Plan" 31 5 6 (.array .int) true := ⟨_, _, _, _, rfl, i_Plan, by decide, fw_Plan_31, t_Plan_ok, n_Plan, by decide +kernel, rfl, fun _ => rfl⟩
theorem fw_Layout_55 : Cond.fieldLink "CascadeBus$Layout" 55 (F_Plan 6).1 (F_Plan 6).2.1 (F_Plan 6).2.2.1 ∈ gw := gm1 (i := 174) (by decide +kernel) rfl
theorem fl_Layout_55 : FL "CascadeBus$Layout" 55 5 6 := ⟨_, _, _, rfl, i_Plan, by decide, fw_Layout_55⟩
theorem fw_Bus_165 : Cond.fieldLink "CascadeBus" 165 (F_Plan 6).1 (F_Plan 6).2.1 (F_Plan 6).2.2.1 ∈ gw := gm1 (i := 175) (by decide +kernel) rfl
theorem fl_Bus_165 : FL "CascadeBus" 165 5 6 := ⟨_, _, _, rfl, i_Plan, by decide, fw_Bus_165⟩
theorem fw_Plan_34 : Cond.fieldLink "CascadeBus$Plan" 34 (F_Plan 7).1 (F_Plan 7).2.1 (F_Plan 7).2.2.1 ∈ gw := gm1 (i := 176) (by decide +kernel) rfl
theorem fl_Plan_34 : FL "CascadeBus$Plan" 34 5 7 := ⟨_, _, _, rfl, i_Plan, by decide, fw_Plan_34⟩
theorem fp_Plan_34 : FP "CascadeBus$Plan" 34 5 7 (.array .int) true := ⟨_, _, _, _, rfl, i_Plan, by decide, fw_Plan_34, t_Plan_ok, n_Plan, by decide +kernel, rfl, fun _ => rfl⟩
theorem fw_Cycle_92 : Cond.fieldLink "CascadeBus$Cycle" 92 (F_Plan 7).1 (F_Plan 7).2.1 (F_Plan 7).2.2.1 ∈ gw := gm1 (i := 177) (by decide +kernel) rfl
theorem fl_Cycle_92 : FL "CascadeBus$Cycle" 92 5 7 := ⟨_, _, _, rfl, i_Plan, by decide, fw_Cycle_92⟩
theorem fw_Reader_140 : Cond.fieldLink "CascadeBus$Reader" 140 (F_Plan 7).1 (F_Plan 7).2.1 (F_Plan 7).2.2.1 ∈ gw := gm1 (i := 178) (by decide +kernel) rfl
theorem fl_Reader_140 : FL "CascadeBus$Reader" 140 5 7 := ⟨_, _, _, rfl, i_Plan, by decide, fw_Reader_140⟩
theorem fw_Plan_37 : Cond.fieldLink "CascadeBus$Plan" 37 (F_Plan 8).1 (F_Plan 8).2.1 (F_Plan 8).2.2.1 ∈ gw := gm1 (i := 179) (by decide +kernel) rfl
theorem fl_Plan_37 : FL "CascadeBus$Plan" 37 5 8 := ⟨_, _, _, rfl, i_Plan, by decide, fw_Plan_37⟩
theorem fp_Plan_37 : FP "CascadeBus$Plan" 37 5 8 (.array .int) true := ⟨_, _, _, _, rfl, i_Plan, by decide, fw_Plan_37, t_Plan_ok, n_Plan, by decide +kernel, rfl, fun _ => rfl⟩
theorem fw_State_30 : Cond.fieldLink "CascadeBus$State" 30 (F_Plan 8).1 (F_Plan 8).2.1 (F_Plan 8).2.2.1 ∈ gw := gm1 (i := 180) (by decide +kernel) rfl
theorem fl_State_30 : FL "CascadeBus$State" 30 5 8 := ⟨_, _, _, rfl, i_Plan, by decide, fw_State_30⟩
theorem fw_Reader_166 : Cond.fieldLink "CascadeBus$Reader" 166 (F_Plan 8).1 (F_Plan 8).2.1 (F_Plan 8).2.2.1 ∈ gw := gm1 (i := 181) (by decide +kernel) rfl
theorem fl_Reader_166 : FL "CascadeBus$Reader" 166 5 8 := ⟨_, _, _, rfl, i_Plan, by decide, fw_Reader_166⟩
theorem fw_Plan_40 : Cond.fieldLink "CascadeBus$Plan" 40 (F_Plan 9).1 (F_Plan 9).2.1 (F_Plan 9).2.2.1 ∈ gw := gm1 (i := 182) (by decide +kernel) rfl
theorem fl_Plan_40 : FL "CascadeBus$Plan" 40 5 9 := ⟨_, _, _, rfl, i_Plan, by decide, fw_Plan_40⟩
theorem fp_Plan_40 : FP "CascadeBus$Plan" 40 5 9 (.array .int) true := ⟨_, _, _, _, rfl, i_Plan, by decide, fw_Plan_40, t_Plan_ok, n_Plan, by decide +kernel, rfl, fun _ => rfl⟩
theorem fw_Reader_167 : Cond.fieldLink "CascadeBus$Reader" 167 (F_Plan 9).1 (F_Plan 9).2.1 (F_Plan 9).2.2.1 ∈ gw := gm1 (i := 183) (by decide +kernel) rfl
theorem fl_Reader_167 : FL "CascadeBus$Reader" 167 5 9 := ⟨_, _, _, rfl, i_Plan, by decide, fw_Reader_167⟩
theorem fw_Cycle_161 : Cond.fieldLink "CascadeBus$Cycle" 161 (F_Plan 9).1 (F_Plan 9).2.1 (F_Plan 9).2.2.1 ∈ gw := gm1 (i := 184) (by decide +kernel) rfl
theorem fl_Cycle_161 : FL "CascadeBus$Cycle" 161 5 9 := ⟨_, _, _, rfl, i_Plan, by decide, fw_Cycle_161⟩
theorem fw_Plan_43 : Cond.fieldLink "CascadeBus$Plan" 43 (F_Plan 10).1 (F_Plan 10).2.1 (F_Plan 10).2.2.1 ∈ gw := gm1 (i := 185) (by decide +kernel) rfl
theorem fl_Plan_43 : FL "CascadeBus$Plan" 43 5 10 := ⟨_, _, _, rfl, i_Plan, by decide, fw_Plan_43⟩
theorem fp_Plan_43 : FP "CascadeBus$Plan" 43 5 10 (.array .int) true := ⟨_, _, _, _, rfl, i_Plan, by decide, fw_Plan_43, t_Plan_ok, n_Plan, by decide +kernel, rfl, fun _ => rfl⟩
theorem fw_Reader_150 : Cond.fieldLink "CascadeBus$Reader" 150 (F_Plan 10).1 (F_Plan 10).2.1 (F_Plan 10).2.2.1 ∈ gw := gm1 (i := 186) (by decide +kernel) rfl
theorem fl_Reader_150 : FL "CascadeBus$Reader" 150 5 10 := ⟨_, _, _, rfl, i_Plan, by decide, fw_Reader_150⟩
theorem fw_Cycle_131 : Cond.fieldLink "CascadeBus$Cycle" 131 (F_Plan 10).1 (F_Plan 10).2.1 (F_Plan 10).2.2.1 ∈ gw := gm1 (i := 187) (by decide +kernel) rfl
theorem fl_Cycle_131 : FL "CascadeBus$Cycle" 131 5 10 := ⟨_, _, _, rfl, i_Plan, by decide, fw_Cycle_131⟩
theorem fw_Plan_46 : Cond.fieldLink "CascadeBus$Plan" 46 (F_Plan 11).1 (F_Plan 11).2.1 (F_Plan 11).2.2.1 ∈ gw := gm1 (i := 188) (by decide +kernel) rfl
theorem fl_Plan_46 : FL "CascadeBus$Plan" 46 5 11 := ⟨_, _, _, rfl, i_Plan, by decide, fw_Plan_46⟩
theorem fp_Plan_46 : FP "CascadeBus$Plan" 46 5 11 (.array .int) true := ⟨_, _, _, _, rfl, i_Plan, by decide, fw_Plan_46, t_Plan_ok, n_Plan, by decide +kernel, rfl, fun _ => rfl⟩
theorem fw_Reader_170 : Cond.fieldLink "CascadeBus$Reader" 170 (F_Plan 11).1 (F_Plan 11).2.1 (F_Plan 11).2.2.1 ∈ gw := gm1 (i := 189) (by decide +kernel) rfl
theorem fl_Reader_170 : FL "CascadeBus$Reader" 170 5 11 := ⟨_, _, _, rfl, i_Plan, by decide, fw_Reader_170⟩
theorem fw_Cycle_145 : Cond.fieldLink "CascadeBus$Cycle" 145 (F_Plan 11).1 (F_Plan 11).2.1 (F_Plan 11).2.2.1 ∈ gw := gm1 (i := 190) (by decide +kernel) rfl
theorem fl_Cycle_145 : FL "CascadeBus$Cycle" 145 5 11 := ⟨_, _, _, rfl, i_Plan, by decide, fw_Cycle_145⟩
theorem fw_Plan_49 : Cond.fieldLink "CascadeBus$Plan" 49 (F_Plan 12).1 (F_Plan 12).2.1 (F_Plan 12).2.2.1 ∈ gw := gm1 (i := 191) (by decide +kernel) rfl
theorem fl_Plan_49 : FL "CascadeBus$Plan" 49 5 12 := ⟨_, _, _, rfl, i_Plan, by decide, fw_Plan_49⟩
theorem fp_Plan_49 : FP "CascadeBus$Plan" 49 5 12 (.array .boolean) true := ⟨_, _, _, _, rfl, i_Plan, by decide, fw_Plan_49, t_Plan_ok, n_Plan, by decide +kernel, rfl, fun _ => rfl⟩
theorem fw_Reader_177 : Cond.fieldLink "CascadeBus$Reader" 177 (F_Plan 12).1 (F_Plan 12).2.1 (F_Plan 12).2.2.1 ∈ gw := gm1 (i := 192) (by decide +kernel) rfl
theorem fl_Reader_177 : FL "CascadeBus$Reader" 177 5 12 := ⟨_, _, _, rfl, i_Plan, by decide, fw_Reader_177⟩
theorem fw_Cycle_148 : Cond.fieldLink "CascadeBus$Cycle" 148 (F_Plan 12).1 (F_Plan 12).2.1 (F_Plan 12).2.2.1 ∈ gw := gm1 (i := 193) (by decide +kernel) rfl
theorem fl_Cycle_148 : FL "CascadeBus$Cycle" 148 5 12 := ⟨_, _, _, rfl, i_Plan, by decide, fw_Cycle_148⟩
theorem fw_Plan_53 : Cond.fieldLink "CascadeBus$Plan" 53 (F_Plan 13).1 (F_Plan 13).2.1 (F_Plan 13).2.2.1 ∈ gw := gm1 (i := 194) (by decide +kernel) rfl
theorem fl_Plan_53 : FL "CascadeBus$Plan" 53 5 13 := ⟨_, _, _, rfl, i_Plan, by decide, fw_Plan_53⟩
theorem fp_Plan_53 : FP "CascadeBus$Plan" 53 5 13 (.array .boolean) true := ⟨_, _, _, _, rfl, i_Plan, by decide, fw_Plan_53, t_Plan_ok, n_Plan, by decide +kernel, rfl, fun _ => rfl⟩
theorem fw_Reader_155 : Cond.fieldLink "CascadeBus$Reader" 155 (F_Plan 13).1 (F_Plan 13).2.1 (F_Plan 13).2.2.1 ∈ gw := gm1 (i := 195) (by decide +kernel) rfl
theorem fl_Reader_155 : FL "CascadeBus$Reader" 155 5 13 := ⟨_, _, _, rfl, i_Plan, by decide, fw_Reader_155⟩
theorem fw_Cycle_152 : Cond.fieldLink "CascadeBus$Cycle" 152 (F_Plan 13).1 (F_Plan 13).2.1 (F_Plan 13).2.2.1 ∈ gw := gm1 (i := 196) (by decide +kernel) rfl
theorem fl_Cycle_152 : FL "CascadeBus$Cycle" 152 5 13 := ⟨_, _, _, rfl, i_Plan, by decide, fw_Cycle_152⟩
theorem fw_Plan_56 : Cond.fieldLink "CascadeBus$Plan" 56 (F_Plan 14).1 (F_Plan 14).2.1 (F_Plan 14).2.2.1 ∈ gw := gm1 (i := 197) (by decide +kernel) rfl
theorem fl_Plan_56 : FL "CascadeBus$Plan" 56 5 14 := ⟨_, _, _, rfl, i_Plan, by decide, fw_Plan_56⟩
theorem fp_Plan_56 : FP "CascadeBus$Plan" 56 5 14 (.array .int) true := ⟨_, _, _, _, rfl, i_Plan, by decide, fw_Plan_56, t_Plan_ok, n_Plan, by decide +kernel, rfl, fun _ => rfl⟩
theorem fw_Cycle_34 : Cond.fieldLink "CascadeBus$Cycle" 34 (F_Plan 14).1 (F_Plan 14).2.1 (F_Plan 14).2.2.1 ∈ gw := gm1 (i := 198) (by decide +kernel) rfl
theorem fl_Cycle_34 : FL "CascadeBus$Cycle" 34 5 14 := ⟨_, _, _, rfl, i_Plan, by decide, fw_Cycle_34⟩
theorem fw_State_27 : Cond.fieldLink "CascadeBus$State" 27 (F_Plan 14).1 (F_Plan 14).2.1 (F_Plan 14).2.2.1 ∈ gw := gm1 (i := 199) (by decide +kernel) rfl
theorem fl_State_27 : FL "CascadeBus$State" 27 5 14 := ⟨_, _, _, rfl, i_Plan, by decide, fw_State_27⟩
theorem fw_Plan_59 : Cond.fieldLink "CascadeBus$Plan" 59 (F_Plan 15).1 (F_Plan 15).2.1 (F_Plan 15).2.2.1 ∈ gw := gm1 (i := 200) (by decide +kernel) rfl
theorem fl_Plan_59 : FL "CascadeBus$Plan" 59 5 15 := ⟨_, _, _, rfl, i_Plan, by decide, fw_Plan_59⟩
theorem fp_Plan_59 : FP "CascadeBus$Plan" 59 5 15 (.array .int) true := ⟨_, _, _, _, rfl, i_Plan, by decide, fw_Plan_59, t_Plan_ok, n_Plan, by decide +kernel, rfl, fun _ => rfl⟩
theorem fw_Cycle_158 : Cond.fieldLink "CascadeBus$Cycle" 158 (F_Plan 15).1 (F_Plan 15).2.1 (F_Plan 15).2.2.1 ∈ gw := gm1 (i := 201) (by decide +kernel) rfl
theorem fl_Cycle_158 : FL "CascadeBus$Cycle" 158 5 15 := ⟨_, _, _, rfl, i_Plan, by decide, fw_Cycle_158⟩
theorem fw_Plan_65 : Cond.fieldLink "CascadeBus$Plan" 65 (F_Plan 16).1 (F_Plan 16).2.1 (F_Plan 16).2.2.1 ∈ gw := gm1 (i := 202) (by decide +kernel) rfl
theorem fl_Plan_65 : FL "CascadeBus$Plan" 65 5 16 := ⟨_, _, _, rfl, i_Plan, by decide, fw_Plan_65⟩
theorem fp_Plan_65 : FP "CascadeBus$Plan" 65 5 16 (.object "CascadeBus$Links") true := ⟨_, _, _, _, rfl, i_Plan, by decide, fw_Plan_65, t_Plan_ok, n_Plan, by decide +kernel, rfl, fun _ => rfl⟩
theorem fw_Layout_62 : Cond.fieldLink "CascadeBus$Layout" 62 (F_Plan 16).1 (F_Plan 16).2.1 (F_Plan 16).2.2.1 ∈ gw := gm1 (i := 203) (by decide +kernel) rfl
theorem fl_Layout_62 : FL "CascadeBus$Layout" 62 5 16 := ⟨_, _, _, rfl, i_Plan, by decide, fw_Layout_62⟩
theorem fw_Cycle_51 : Cond.fieldLink "CascadeBus$Cycle" 51 (F_Plan 16).1 (F_Plan 16).2.1 (F_Plan 16).2.2.1 ∈ gw := gm1 (i := 204) (by decide +kernel) rfl
theorem fl_Cycle_51 : FL "CascadeBus$Cycle" 51 5 16 := ⟨_, _, _, rfl, i_Plan, by decide, fw_Cycle_51⟩
theorem fw_Bus_136 : Cond.fieldLink "CascadeBus" 136 (F_Plan 16).1 (F_Plan 16).2.1 (F_Plan 16).2.2.1 ∈ gw := gm1 (i := 205) (by decide +kernel) rfl
theorem fl_Bus_136 : FL "CascadeBus" 136 5 16 := ⟨_, _, _, rfl, i_Plan, by decide, fw_Bus_136⟩
theorem fw_Reader_183 : Cond.fieldLink "CascadeBus$Reader" 183 (F_Plan 16).1 (F_Plan 16).2.1 (F_Plan 16).2.2.1 ∈ gw := gm1 (i := 206) (by decide +kernel) rfl
theorem fl_Reader_183 : FL "CascadeBus$Reader" 183 5 16 := ⟨_, _, _, rfl, i_Plan, by decide, fw_Reader_183⟩
theorem fw_Plan_72 : Cond.fieldLink "CascadeBus$Plan" 72 (F_Plan 17).1 (F_Plan 17).2.1 (F_Plan 17).2.2.1 ∈ gw := gm1 (i := 207) (by decide +kernel) rfl
theorem fl_Plan_72 : FL "CascadeBus$Plan" 72 5 17 := ⟨_, _, _, rfl, i_Plan, by decide, fw_Plan_72⟩
theorem fp_Plan_72 : FP "CascadeBus$Plan" 72 5 17 (.object "CascadeBus$Plants") true := ⟨_, _, _, _, rfl, i_Plan, by decide, fw_Plan_72, t_Plan_ok, n_Plan, by decide +kernel, rfl, fun _ => rfl⟩
theorem fw_Cycle_66 : Cond.fieldLink "CascadeBus$Cycle" 66 (F_Plan 17).1 (F_Plan 17).2.1 (F_Plan 17).2.2.1 ∈ gw := gm1 (i := 208) (by decide +kernel) rfl
theorem fl_Cycle_66 : FL "CascadeBus$Cycle" 66 5 17 := ⟨_, _, _, rfl, i_Plan, by decide, fw_Cycle_66⟩
theorem fw_Reader_113 : Cond.fieldLink "CascadeBus$Reader" 113 (F_Plan 17).1 (F_Plan 17).2.1 (F_Plan 17).2.2.1 ∈ gw := gm1 (i := 209) (by decide +kernel) rfl
theorem fl_Reader_113 : FL "CascadeBus$Reader" 113 5 17 := ⟨_, _, _, rfl, i_Plan, by decide, fw_Reader_113⟩
theorem fw_Bus_192 : Cond.fieldLink "CascadeBus" 192 (F_Plan 17).1 (F_Plan 17).2.1 (F_Plan 17).2.2.1 ∈ gw := gm1 (i := 210) (by decide +kernel) rfl
theorem fl_Bus_192 : FL "CascadeBus" 192 5 17 := ⟨_, _, _, rfl, i_Plan, by decide, fw_Bus_192⟩
theorem fw_Plan_79 : Cond.fieldLink "CascadeBus$Plan" 79 (F_Plan 18).1 (F_Plan 18).2.1 (F_Plan 18).2.2.1 ∈ gw := gm1 (i := 211) (by decide +kernel) rfl
theorem fl_Plan_79 : FL "CascadeBus$Plan" 79 5 18 := ⟨_, _, _, rfl, i_Plan, by decide, fw_Plan_79⟩
theorem fp_Plan_79 : FP "CascadeBus$Plan" 79 5 18 (.object "CascadeBus$Layout") true := ⟨_, _, _, _, rfl, i_Plan, by decide, fw_Plan_79, t_Plan_ok, n_Plan, by decide +kernel, rfl, fun _ => rfl⟩
theorem fw_Cycle_24 : Cond.fieldLink "CascadeBus$Cycle" 24 (F_Plan 18).1 (F_Plan 18).2.1 (F_Plan 18).2.2.1 ∈ gw := gm1 (i := 212) (by decide +kernel) rfl
theorem fl_Cycle_24 : FL "CascadeBus$Cycle" 24 5 18 := ⟨_, _, _, rfl, i_Plan, by decide, fw_Cycle_24⟩
theorem fw_Bus_104 : Cond.fieldLink "CascadeBus" 104 (F_Plan 18).1 (F_Plan 18).2.1 (F_Plan 18).2.2.1 ∈ gw := gm1 (i := 213) (by decide +kernel) rfl
theorem fl_Bus_104 : FL "CascadeBus" 104 5 18 := ⟨_, _, _, rfl, i_Plan, by decide, fw_Bus_104⟩
theorem fw_Reader_9 : Cond.fieldLink "CascadeBus$Reader" 9 (F_Reader 0).1 (F_Reader 0).2.1 (F_Reader 0).2.2.1 ∈ gw := gm2 (i := 21) (by decide +kernel) rfl
theorem fl_Reader_9 : FL "CascadeBus$Reader" 9 7 0 := ⟨_, _, _, rfl, i_Reader, by decide, fw_Reader_9⟩
theorem fp_Reader_9 : FP "CascadeBus$Reader" 9 7 0 .int false := ⟨_, _, _, _, rfl, i_Reader, by decide, fw_Reader_9, t_Reader_ok, n_Reader, by decide +kernel, rfl, fun _ => rfl⟩
theorem fw_Bus_94 : Cond.fieldLink "CascadeBus" 94 (F_Reader 0).1 (F_Reader 0).2.1 (F_Reader 0).2.2.1 ∈ gw := gm2 (i := 22) (by decide +kernel) rfl
theorem fl_Bus_94 : FL "CascadeBus" 94 7 0 := ⟨_, _, _, rfl, i_Reader, by decide, fw_Bus_94⟩
theorem fp_Bus_94 : FP "CascadeBus" 94 7 0 .int false := ⟨_, _, _, _, rfl, i_Reader, by decide, fw_Bus_94, t_Reader_ok, n_Reader, by decide +kernel, rfl, fun _ => (by simp at *)⟩
theorem fw_Reader_15 : Cond.fieldLink "CascadeBus$Reader" 15 (F_Reader 1).1 (F_Reader 1).2.1 (F_Reader 1).2.2.1 ∈ gw := gm2 (i := 23) (by decide +kernel) rfl
theorem fl_Reader_15 : FL "CascadeBus$Reader" 15 7 1 := ⟨_, _, _, rfl, i_Reader, by decide, fw_Reader_15⟩
theorem fp_Reader_15 : FP "CascadeBus$Reader" 15 7 1 .int false := ⟨_, _, _, _, rfl, i_Reader, by decide, fw_Reader_15, t_Reader_ok, n_Reader, by decide +kernel, rfl, fun _ => rfl⟩
theorem fw_Reader_18 : Cond.fieldLink "CascadeBus$Reader" 18 (F_Reader 2).1 (F_Reader 2).2.1 (F_Reader 2).2.2.1 ∈ gw := gm2 (i := 24) (by decide +kernel) rfl
theorem fl_Reader_18 : FL "CascadeBus$Reader" 18 7 2 := ⟨_, _, _, rfl, i_Reader, by decide, fw_Reader_18⟩
theorem fp_Reader_18 : FP "CascadeBus$Reader" 18 7 2 (.array .byte) false := ⟨_, _, _, _, rfl, i_Reader, by decide, fw_Reader_18, t_Reader_ok, n_Reader, by decide +kernel, rfl, fun _ => rfl⟩
theorem fw_Reader_22 : Cond.fieldLink "CascadeBus$Reader" 22 (F_Reader 3).1 (F_Reader 3).2.1 (F_Reader 3).2.2.1 ∈ gw := gm2 (i := 25) (by decide +kernel) rfl
theorem fl_Reader_22 : FL "CascadeBus$Reader" 22 7 3 := ⟨_, _, _, rfl, i_Reader, by decide, fw_Reader_22⟩
theorem fp_Reader_22 : FP "CascadeBus$Reader" 22 7 3 .int false := ⟨_, _, _, _, rfl, i_Reader, by decide, fw_Reader_22, t_Reader_ok, n_Reader, by decide +kernel, rfl, fun _ => rfl⟩
theorem fw_Reader_25 : Cond.fieldLink "CascadeBus$Reader" 25 (F_Reader 4).1 (F_Reader 4).2.1 (F_Reader 4).2.2.1 ∈ gw := gm2 (i := 26) (by decide +kernel) rfl
theorem fl_Reader_25 : FL "CascadeBus$Reader" 25 7 4 := ⟨_, _, _, rfl, i_Reader, by decide, fw_Reader_25⟩
theorem fp_Reader_25 : FP "CascadeBus$Reader" 25 7 4 .int false := ⟨_, _, _, _, rfl, i_Reader, by decide, fw_Reader_25, t_Reader_ok, n_Reader, by decide +kernel, rfl, fun _ => rfl⟩
theorem fw_Reader_31 : Cond.fieldLink "CascadeBus$Reader" 31 (F_Reader 5).1 (F_Reader 5).2.1 (F_Reader 5).2.2.1 ∈ gw := gm2 (i := 27) (by decide +kernel) rfl
theorem fl_Reader_31 : FL "CascadeBus$Reader" 31 7 5 := ⟨_, _, _, rfl, i_Reader, by decide, fw_Reader_31⟩
theorem fp_Reader_31 : FP "CascadeBus$Reader" 31 7 5 (.object "CascadeBus$Plan") false := ⟨_, _, _, _, rfl, i_Reader, by decide, fw_Reader_31, t_Reader_ok, n_Reader, by decide +kernel, rfl, fun _ => rfl⟩
theorem fw_Reader_35 : Cond.fieldLink "CascadeBus$Reader" 35 (F_Reader 6).1 (F_Reader 6).2.1 (F_Reader 6).2.2.1 ∈ gw := gm2 (i := 28) (by decide +kernel) rfl
theorem fl_Reader_35 : FL "CascadeBus$Reader" 35 7 6 := ⟨_, _, _, rfl, i_Reader, by decide, fw_Reader_35⟩
theorem fp_Reader_35 : FP "CascadeBus$Reader" 35 7 6 .int false := ⟨_, _, _, _, rfl, i_Reader, by decide, fw_Reader_35, t_Reader_ok, n_Reader, by decide +kernel, rfl, fun _ => rfl⟩
theorem fw_Reader_38 : Cond.fieldLink "CascadeBus$Reader" 38 (F_Reader 7).1 (F_Reader 7).2.1 (F_Reader 7).2.2.1 ∈ gw := gm2 (i := 29) (by decide +kernel) rfl
theorem fl_Reader_38 : FL "CascadeBus$Reader" 38 7 7 := ⟨_, _, _, rfl, i_Reader, by decide, fw_Reader_38⟩
theorem fp_Reader_38 : FP "CascadeBus$Reader" 38 7 7 .boolean false := ⟨_, _, _, _, rfl, i_Reader, by decide, fw_Reader_38, t_Reader_ok, n_Reader, by decide +kernel, rfl, fun _ => rfl⟩
theorem fw_Reader_42 : Cond.fieldLink "CascadeBus$Reader" 42 (F_Reader 8).1 (F_Reader 8).2.1 (F_Reader 8).2.2.1 ∈ gw := gm2 (i := 30) (by decide +kernel) rfl
theorem fl_Reader_42 : FL "CascadeBus$Reader" 42 7 8 := ⟨_, _, _, rfl, i_Reader, by decide, fw_Reader_42⟩
theorem fp_Reader_42 : FP "CascadeBus$Reader" 42 7 8 .boolean false := ⟨_, _, _, _, rfl, i_Reader, by decide, fw_Reader_42, t_Reader_ok, n_Reader, by decide +kernel, rfl, fun _ => rfl⟩
theorem fw_Reader_45 : Cond.fieldLink "CascadeBus$Reader" 45 (F_Reader 9).1 (F_Reader 9).2.1 (F_Reader 9).2.2.1 ∈ gw := gm2 (i := 31) (by decide +kernel) rfl
theorem fl_Reader_45 : FL "CascadeBus$Reader" 45 7 9 := ⟨_, _, _, rfl, i_Reader, by decide, fw_Reader_45⟩
theorem fp_Reader_45 : FP "CascadeBus$Reader" 45 7 9 .int false := ⟨_, _, _, _, rfl, i_Reader, by decide, fw_Reader_45, t_Reader_ok, n_Reader, by decide +kernel, rfl, fun _ => rfl⟩
theorem fw_Reader_48 : Cond.fieldLink "CascadeBus$Reader" 48 (F_Reader 10).1 (F_Reader 10).2.1 (F_Reader 10).2.2.1 ∈ gw := gm2 (i := 32) (by decide +kernel) rfl
theorem fl_Reader_48 : FL "CascadeBus$Reader" 48 7 10 := ⟨_, _, _, rfl, i_Reader, by decide, fw_Reader_48⟩
theorem fp_Reader_48 : FP "CascadeBus$Reader" 48 7 10 .int false := ⟨_, _, _, _, rfl, i_Reader, by decide, fw_Reader_48, t_Reader_ok, n_Reader, by decide +kernel, rfl, fun _ => rfl⟩
theorem fw_State_9 : Cond.fieldLink "CascadeBus$State" 9 (F_State 0).1 (F_State 0).2.1 (F_State 0).2.2.1 ∈ gw := gm2 (i := 68) (by decide +kernel) rfl
theorem fl_State_9 : FL "CascadeBus$State" 9 8 0 := ⟨_, _, _, rfl, i_State, by decide, fw_State_9⟩
theorem fp_State_9 : FP "CascadeBus$State" 9 8 0 (.array .int) true := ⟨_, _, _, _, rfl, i_State, by decide, fw_State_9, t_State_ok, n_State, by decide +kernel, rfl, fun _ => rfl⟩
theorem fw_Years_59 : Cond.fieldLink "CascadeBus$Years" 59 (F_State 0).1 (F_State 0).2.1 (F_State 0).2.2.1 ∈ gw := gm2 (i := 69) (by decide +kernel) rfl
theorem fl_Years_59 : FL "CascadeBus$Years" 59 8 0 := ⟨_, _, _, rfl, i_State, by decide, fw_Years_59⟩
theorem fw_Bus_127 : Cond.fieldLink "CascadeBus" 127 (F_State 0).1 (F_State 0).2.1 (F_State 0).2.2.1 ∈ gw := gm2 (i := 70) (by decide +kernel) rfl
theorem fl_Bus_127 : FL "CascadeBus" 127 8 0 := ⟨_, _, _, rfl, i_State, by decide, fw_Bus_127⟩
theorem fw_History_9 : Cond.fieldLink "CascadeBus$History" 9 (F_History 0).1 (F_History 0).2.1 (F_History 0).2.2.1 ∈ gw := gm2 (i := 82) (by decide +kernel) rfl
theorem fl_History_9 : FL "CascadeBus$History" 9 0 0 := ⟨_, _, _, rfl, i_History, by decide, fw_History_9⟩
theorem fp_History_9 : FP "CascadeBus$History" 9 0 0 .int false := ⟨_, _, _, _, rfl, i_History, by decide, fw_History_9, t_History_ok, n_History, by decide +kernel, rfl, fun _ => rfl⟩
theorem fw_Bus_151 : Cond.fieldLink "CascadeBus" 151 (F_History 0).1 (F_History 0).2.1 (F_History 0).2.2.1 ∈ gw := gm2 (i := 83) (by decide +kernel) rfl
theorem fl_Bus_151 : FL "CascadeBus" 151 0 0 := ⟨_, _, _, rfl, i_History, by decide, fw_Bus_151⟩
theorem fp_Bus_151 : FP "CascadeBus" 151 0 0 .int false := ⟨_, _, _, _, rfl, i_History, by decide, fw_Bus_151, t_History_ok, n_History, by decide +kernel, rfl, fun _ => (by simp at *)⟩
theorem fw_History_15 : Cond.fieldLink "CascadeBus$History" 15 (F_History 1).1 (F_History 1).2.1 (F_History 1).2.2.1 ∈ gw := gm2 (i := 84) (by decide +kernel) rfl
theorem fl_History_15 : FL "CascadeBus$History" 15 0 1 := ⟨_, _, _, rfl, i_History, by decide, fw_History_15⟩
theorem fp_History_15 : FP "CascadeBus$History" 15 0 1 .int false := ⟨_, _, _, _, rfl, i_History, by decide, fw_History_15, t_History_ok, n_History, by decide +kernel, rfl, fun _ => rfl⟩
theorem fw_History_20 : Cond.fieldLink "CascadeBus$History" 20 (F_History 2).1 (F_History 2).2.1 (F_History 2).2.2.1 ∈ gw := gm2 (i := 85) (by decide +kernel) rfl
theorem fl_History_20 : FL "CascadeBus$History" 20 0 2 := ⟨_, _, _, rfl, i_History, by decide, fw_History_20⟩
theorem fp_History_20 : FP "CascadeBus$History" 20 0 2 (.array (.object "CascadeBus$State")) true := ⟨_, _, _, _, rfl, i_History, by decide, fw_History_20, t_History_ok, n_History, by decide +kernel, rfl, fun _ => rfl⟩
theorem fw_Noted_9 : Cond.fieldLink "CascadeBus$Noted" 9 (F_Noted 0).1 (F_Noted 0).2.1 (F_Noted 0).2.2.1 ∈ gw := gm2 (i := 99) (by decide +kernel) rfl
theorem fl_Noted_9 : FL "CascadeBus$Noted" 9 4 0 := ⟨_, _, _, rfl, i_Noted, by decide, fw_Noted_9⟩
theorem fp_Noted_9 : FP "CascadeBus$Noted" 9 4 0 .int false := ⟨_, _, _, _, rfl, i_Noted, by decide, fw_Noted_9, t_Noted_ok, n_Noted, by decide +kernel, rfl, fun _ => rfl⟩
theorem fw_Bus_152 : Cond.fieldLink "CascadeBus" 152 (F_Noted 0).1 (F_Noted 0).2.1 (F_Noted 0).2.2.1 ∈ gw := gm2 (i := 100) (by decide +kernel) rfl
theorem fl_Bus_152 : FL "CascadeBus" 152 4 0 := ⟨_, _, _, rfl, i_Noted, by decide, fw_Bus_152⟩
theorem fp_Bus_152 : FP "CascadeBus" 152 4 0 .int false := ⟨_, _, _, _, rfl, i_Noted, by decide, fw_Bus_152, t_Noted_ok, n_Noted, by decide +kernel, rfl, fun _ => (by simp at *)⟩
theorem fw_Noted_15 : Cond.fieldLink "CascadeBus$Noted" 15 (F_Noted 1).1 (F_Noted 1).2.1 (F_Noted 1).2.2.1 ∈ gw := gm2 (i := 101) (by decide +kernel) rfl
theorem fl_Noted_15 : FL "CascadeBus$Noted" 15 4 1 := ⟨_, _, _, rfl, i_Noted, by decide, fw_Noted_15⟩
theorem fp_Noted_15 : FP "CascadeBus$Noted" 15 4 1 (.array .int) true := ⟨_, _, _, _, rfl, i_Noted, by decide, fw_Noted_15, t_Noted_ok, n_Noted, by decide +kernel, rfl, fun _ => rfl⟩
theorem fw_Noted_19 : Cond.fieldLink "CascadeBus$Noted" 19 (F_Noted 2).1 (F_Noted 2).2.1 (F_Noted 2).2.2.1 ∈ gw := gm2 (i := 102) (by decide +kernel) rfl
theorem fl_Noted_19 : FL "CascadeBus$Noted" 19 4 2 := ⟨_, _, _, rfl, i_Noted, by decide, fw_Noted_19⟩
theorem fp_Noted_19 : FP "CascadeBus$Noted" 19 4 2 (.array .int) true := ⟨_, _, _, _, rfl, i_Noted, by decide, fw_Noted_19, t_Noted_ok, n_Noted, by decide +kernel, rfl, fun _ => rfl⟩
theorem fw_Noted_22 : Cond.fieldLink "CascadeBus$Noted" 22 (F_Noted 3).1 (F_Noted 3).2.1 (F_Noted 3).2.2.1 ∈ gw := gm2 (i := 103) (by decide +kernel) rfl
theorem fl_Noted_22 : FL "CascadeBus$Noted" 22 4 3 := ⟨_, _, _, rfl, i_Noted, by decide, fw_Noted_22⟩
theorem fp_Noted_22 : FP "CascadeBus$Noted" 22 4 3 (.array .int) true := ⟨_, _, _, _, rfl, i_Noted, by decide, fw_Noted_22, t_Noted_ok, n_Noted, by decide +kernel, rfl, fun _ => rfl⟩
theorem fw_Memory_12 : Cond.fieldLink "CascadeBus$Memory" 12 (F_Memory 0).1 (F_Memory 0).2.1 (F_Memory 0).2.2.1 ∈ gw := gm2 (i := 113) (by decide +kernel) rfl
theorem fl_Memory_12 : FL "CascadeBus$Memory" 12 3 0 := ⟨_, _, _, rfl, i_Memory, by decide, fw_Memory_12⟩
theorem fp_Memory_12 : FP "CascadeBus$Memory" 12 3 0 (.object "CascadeBus$State") true := ⟨_, _, _, _, rfl, i_Memory, by decide, fw_Memory_12, t_Memory_ok, n_Memory, by decide +kernel, rfl, fun _ => rfl⟩
theorem fw_Bus_76 : Cond.fieldLink "CascadeBus" 76 (F_Memory 0).1 (F_Memory 0).2.1 (F_Memory 0).2.2.1 ∈ gw := gm2 (i := 114) (by decide +kernel) rfl
theorem fl_Bus_76 : FL "CascadeBus" 76 3 0 := ⟨_, _, _, rfl, i_Memory, by decide, fw_Bus_76⟩
theorem fw_Memory_21 : Cond.fieldLink "CascadeBus$Memory" 21 (F_Memory 1).1 (F_Memory 1).2.1 (F_Memory 1).2.2.1 ∈ gw := gm2 (i := 115) (by decide +kernel) rfl
theorem fl_Memory_21 : FL "CascadeBus$Memory" 21 3 1 := ⟨_, _, _, rfl, i_Memory, by decide, fw_Memory_21⟩
theorem fp_Memory_21 : FP "CascadeBus$Memory" 21 3 1 (.object "CascadeBus$History") true := ⟨_, _, _, _, rfl, i_Memory, by decide, fw_Memory_21, t_Memory_ok, n_Memory, by decide +kernel, rfl, fun _ => rfl⟩
theorem fw_Bus_111 : Cond.fieldLink "CascadeBus" 111 (F_Memory 1).1 (F_Memory 1).2.1 (F_Memory 1).2.2.1 ∈ gw := gm2 (i := 116) (by decide +kernel) rfl
theorem fl_Bus_111 : FL "CascadeBus" 111 3 1 := ⟨_, _, _, rfl, i_Memory, by decide, fw_Bus_111⟩
theorem fw_Memory_28 : Cond.fieldLink "CascadeBus$Memory" 28 (F_Memory 2).1 (F_Memory 2).2.1 (F_Memory 2).2.2.1 ∈ gw := gm2 (i := 117) (by decide +kernel) rfl
theorem fl_Memory_28 : FL "CascadeBus$Memory" 28 3 2 := ⟨_, _, _, rfl, i_Memory, by decide, fw_Memory_28⟩
theorem fp_Memory_28 : FP "CascadeBus$Memory" 28 3 2 (.object "CascadeBus$Noted") true := ⟨_, _, _, _, rfl, i_Memory, by decide, fw_Memory_28, t_Memory_ok, n_Memory, by decide +kernel, rfl, fun _ => rfl⟩
theorem fw_Bus_120 : Cond.fieldLink "CascadeBus" 120 (F_Memory 2).1 (F_Memory 2).2.1 (F_Memory 2).2.2.1 ∈ gw := gm2 (i := 118) (by decide +kernel) rfl
theorem fl_Bus_120 : FL "CascadeBus" 120 3 2 := ⟨_, _, _, rfl, i_Memory, by decide, fw_Bus_120⟩
theorem fw_Memory_32 : Cond.fieldLink "CascadeBus$Memory" 32 (F_Memory 3).1 (F_Memory 3).2.1 (F_Memory 3).2.2.1 ∈ gw := gm2 (i := 119) (by decide +kernel) rfl
theorem fl_Memory_32 : FL "CascadeBus$Memory" 32 3 3 := ⟨_, _, _, rfl, i_Memory, by decide, fw_Memory_32⟩
theorem fp_Memory_32 : FP "CascadeBus$Memory" 32 3 3 (.array .int) true := ⟨_, _, _, _, rfl, i_Memory, by decide, fw_Memory_32, t_Memory_ok, n_Memory, by decide +kernel, rfl, fun _ => rfl⟩
theorem fw_Bus_97 : Cond.fieldLink "CascadeBus" 97 (F_Memory 3).1 (F_Memory 3).2.1 (F_Memory 3).2.2.1 ∈ gw := gm2 (i := 120) (by decide +kernel) rfl
theorem fl_Bus_97 : FL "CascadeBus" 97 3 3 := ⟨_, _, _, rfl, i_Memory, by decide, fw_Bus_97⟩
theorem fw_Years_9 : Cond.fieldLink "CascadeBus$Years" 9 (F_Years 0).1 (F_Years 0).2.1 (F_Years 0).2.2.1 ∈ gw := gm2 (i := 140) (by decide +kernel) rfl
theorem fl_Years_9 : FL "CascadeBus$Years" 9 9 0 := ⟨_, _, _, rfl, i_Years, by decide, fw_Years_9⟩
theorem fp_Years_9 : FP "CascadeBus$Years" 9 9 0 .int false := ⟨_, _, _, _, rfl, i_Years, by decide, fw_Years_9, t_Years_ok, n_Years, by decide +kernel, rfl, fun _ => rfl⟩
theorem fw_Bus_331 : Cond.fieldLink "CascadeBus" 331 (F_Years 0).1 (F_Years 0).2.1 (F_Years 0).2.2.1 ∈ gw := gm2 (i := 141) (by decide +kernel) rfl
theorem fl_Bus_331 : FL "CascadeBus" 331 9 0 := ⟨_, _, _, rfl, i_Years, by decide, fw_Bus_331⟩
theorem fp_Bus_331 : FP "CascadeBus" 331 9 0 .int false := ⟨_, _, _, _, rfl, i_Years, by decide, fw_Bus_331, t_Years_ok, n_Years, by decide +kernel, rfl, fun _ => (by simp at *)⟩
theorem fw_Years_15 : Cond.fieldLink "CascadeBus$Years" 15 (F_Years 1).1 (F_Years 1).2.1 (F_Years 1).2.2.1 ∈ gw := gm2 (i := 142) (by decide +kernel) rfl
theorem fl_Years_15 : FL "CascadeBus$Years" 15 9 1 := ⟨_, _, _, rfl, i_Years, by decide, fw_Years_15⟩
theorem fp_Years_15 : FP "CascadeBus$Years" 15 9 1 .int false := ⟨_, _, _, _, rfl, i_Years, by decide, fw_Years_15, t_Years_ok, n_Years, by decide +kernel, rfl, fun _ => rfl⟩
theorem fw_Bus_9 : Cond.fieldLink "CascadeBus" 9 (F_Bus 0).1 (F_Bus 0).2.1 (F_Bus 0).2.2.1 ∈ gw := gm2 (i := 152) (by decide +kernel) rfl
theorem fl_Bus_9 : FL "CascadeBus" 9 10 0 := ⟨_, _, _, rfl, i_Bus, by decide, fw_Bus_9⟩
theorem fp_Bus_9 : FP "CascadeBus" 9 10 0 (.array .byte) true := ⟨_, _, _, _, rfl, i_Bus, by decide, fw_Bus_9, t_Bus_ok, n_Bus, by decide +kernel, rfl, fun _ => rfl⟩
theorem fw_Bus_13 : Cond.fieldLink "CascadeBus" 13 (F_Bus 1).1 (F_Bus 1).2.1 (F_Bus 1).2.2.1 ∈ gw := gm2 (i := 153) (by decide +kernel) rfl
theorem fl_Bus_13 : FL "CascadeBus" 13 10 1 := ⟨_, _, _, rfl, i_Bus, by decide, fw_Bus_13⟩
theorem fp_Bus_13 : FP "CascadeBus" 13 10 1 .int false := ⟨_, _, _, _, rfl, i_Bus, by decide, fw_Bus_13, t_Bus_ok, n_Bus, by decide +kernel, rfl, fun _ => rfl⟩
theorem fw_Bus_17 : Cond.fieldLink "CascadeBus" 17 (F_Bus 2).1 (F_Bus 2).2.1 (F_Bus 2).2.2.1 ∈ gw := gm2 (i := 154) (by decide +kernel) rfl
theorem fl_Bus_17 : FL "CascadeBus" 17 10 2 := ⟨_, _, _, rfl, i_Bus, by decide, fw_Bus_17⟩
theorem fp_Bus_17 : FP "CascadeBus" 17 10 2 .int false := ⟨_, _, _, _, rfl, i_Bus, by decide, fw_Bus_17, t_Bus_ok, n_Bus, by decide +kernel, rfl, fun _ => rfl⟩
theorem fw_Bus_23 : Cond.fieldLink "CascadeBus" 23 (F_Bus 3).1 (F_Bus 3).2.1 (F_Bus 3).2.2.1 ∈ gw := gm2 (i := 155) (by decide +kernel) rfl
theorem fl_Bus_23 : FL "CascadeBus" 23 10 3 := ⟨_, _, _, rfl, i_Bus, by decide, fw_Bus_23⟩
theorem fp_Bus_23 : FP "CascadeBus" 23 10 3 (.object "CascadeBus$Plan") false := ⟨_, _, _, _, rfl, i_Bus, by decide, fw_Bus_23, t_Bus_ok, n_Bus, by decide +kernel, rfl, fun _ => rfl⟩
theorem fw_Bus_30 : Cond.fieldLink "CascadeBus" 30 (F_Bus 4).1 (F_Bus 4).2.1 (F_Bus 4).2.2.1 ∈ gw := gm2 (i := 156) (by decide +kernel) rfl
theorem fl_Bus_30 : FL "CascadeBus" 30 10 4 := ⟨_, _, _, rfl, i_Bus, by decide, fw_Bus_30⟩
theorem fp_Bus_30 : FP "CascadeBus" 30 10 4 (.object "CascadeBus$Reader") true := ⟨_, _, _, _, rfl, i_Bus, by decide, fw_Bus_30, t_Bus_ok, n_Bus, by decide +kernel, rfl, fun _ => rfl⟩
theorem fw_Bus_37 : Cond.fieldLink "CascadeBus" 37 (F_Bus 5).1 (F_Bus 5).2.1 (F_Bus 5).2.2.1 ∈ gw := gm2 (i := 157) (by decide +kernel) rfl
theorem fl_Bus_37 : FL "CascadeBus" 37 10 5 := ⟨_, _, _, rfl, i_Bus, by decide, fw_Bus_37⟩
theorem fp_Bus_37 : FP "CascadeBus" 37 10 5 (.object "CascadeBus$Memory") true := ⟨_, _, _, _, rfl, i_Bus, by decide, fw_Bus_37, t_Bus_ok, n_Bus, by decide +kernel, rfl, fun _ => rfl⟩
theorem fw_Bus_41 : Cond.fieldLink "CascadeBus" 41 (F_Bus 6).1 (F_Bus 6).2.1 (F_Bus 6).2.2.1 ∈ gw := gm2 (i := 158) (by decide +kernel) rfl
theorem fl_Bus_41 : FL "CascadeBus" 41 10 6 := ⟨_, _, _, rfl, i_Bus, by decide, fw_Bus_41⟩
theorem fp_Bus_41 : FP "CascadeBus" 41 10 6 (.object "CascadeBus$Memory") true := ⟨_, _, _, _, rfl, i_Bus, by decide, fw_Bus_41, t_Bus_ok, n_Bus, by decide +kernel, rfl, fun _ => rfl⟩
theorem fw_Bus_44 : Cond.fieldLink "CascadeBus" 44 (F_Bus 7).1 (F_Bus 7).2.1 (F_Bus 7).2.2.1 ∈ gw := gm2 (i := 159) (by decide +kernel) rfl
theorem fl_Bus_44 : FL "CascadeBus" 44 10 7 := ⟨_, _, _, rfl, i_Bus, by decide, fw_Bus_44⟩
theorem fp_Bus_44 : FP "CascadeBus" 44 10 7 .boolean false := ⟨_, _, _, _, rfl, i_Bus, by decide, fw_Bus_44, t_Bus_ok, n_Bus, by decide +kernel, rfl, fun _ => rfl⟩
theorem fw_Bus_51 : Cond.fieldLink "CascadeBus" 51 (F_Bus 8).1 (F_Bus 8).2.1 (F_Bus 8).2.2.1 ∈ gw := gm2 (i := 160) (by decide +kernel) rfl
theorem fl_Bus_51 : FL "CascadeBus" 51 10 8 := ⟨_, _, _, rfl, i_Bus, by decide, fw_Bus_51⟩
theorem fp_Bus_51 : FP "CascadeBus" 51 10 8 (.object "CascadeBus$State") true := ⟨_, _, _, _, rfl, i_Bus, by decide, fw_Bus_51, t_Bus_ok, n_Bus, by decide +kernel, rfl, fun _ => rfl⟩
theorem fw_Bus_55 : Cond.fieldLink "CascadeBus" 55 (F_Bus 9).1 (F_Bus 9).2.1 (F_Bus 9).2.2.1 ∈ gw := gm2 (i := 161) (by decide +kernel) rfl
theorem fl_Bus_55 : FL "CascadeBus" 55 10 9 := ⟨_, _, _, rfl, i_Bus, by decide, fw_Bus_55⟩
theorem fp_Bus_55 : FP "CascadeBus" 55 10 9 (.object "CascadeBus$State") true := ⟨_, _, _, _, rfl, i_Bus, by decide, fw_Bus_55, t_Bus_ok, n_Bus, by decide +kernel, rfl, fun _ => rfl⟩
theorem fw_Bus_61 : Cond.fieldLink "CascadeBus" 61 (F_Bus 10).1 (F_Bus 10).2.1 (F_Bus 10).2.2.1 ∈ gw := gm2 (i := 162) (by decide +kernel) rfl
theorem fl_Bus_61 : FL "CascadeBus" 61 10 10 := ⟨_, _, _, rfl, i_Bus, by decide, fw_Bus_61⟩
theorem fp_Bus_61 : FP "CascadeBus" 61 10 10 (.object "CascadeBus$Layout") true := ⟨_, _, _, _, rfl, i_Bus, by decide, fw_Bus_61, t_Bus_ok, n_Bus, by decide +kernel, rfl, fun _ => rfl⟩
theorem fw_Bus_68 : Cond.fieldLink "CascadeBus" 68 (F_Bus 11).1 (F_Bus 11).2.1 (F_Bus 11).2.2.1 ∈ gw := gm2 (i := 163) (by decide +kernel) rfl
theorem fl_Bus_68 : FL "CascadeBus" 68 10 11 := ⟨_, _, _, rfl, i_Bus, by decide, fw_Bus_68⟩
theorem fp_Bus_68 : FP "CascadeBus" 68 10 11 (.object "CascadeBus$Years") true := ⟨_, _, _, _, rfl, i_Bus, by decide, fw_Bus_68, t_Bus_ok, n_Bus, by decide +kernel, rfl, fun _ => rfl⟩
theorem fw_Bus_72 : Cond.fieldLink "CascadeBus" 72 (F_Bus 12).1 (F_Bus 12).2.1 (F_Bus 12).2.2.1 ∈ gw := gm2 (i := 164) (by decide +kernel) rfl
theorem fl_Bus_72 : FL "CascadeBus" 72 10 12 := ⟨_, _, _, rfl, i_Bus, by decide, fw_Bus_72⟩
theorem fp_Bus_72 : FP "CascadeBus" 72 10 12 (.array .int) true := ⟨_, _, _, _, rfl, i_Bus, by decide, fw_Bus_72, t_Bus_ok, n_Bus, by decide +kernel, rfl, fun _ => rfl⟩
theorem fw_Mod_9 : Cond.fieldLink "CascadeBusModel" 9 (F_Mod 0).1 (F_Mod 0).2.1 (F_Mod 0).2.2.1 ∈ gw := gm5 (i := 190) (by decide +kernel) rfl
theorem fl_Mod_9 : FL "CascadeBusModel" 9 11 0 := ⟨_, _, _, rfl, i_Mod, by decide, fw_Mod_9⟩
theorem fp_Mod_9 : FP "CascadeBusModel" 9 11 0 (.array .int) true := ⟨_, _, _, _, rfl, i_Mod, by decide, fw_Mod_9, t_Mod_ok, n_Mod, by decide +kernel, rfl, fun _ => rfl⟩
theorem fw_Mod_13 : Cond.fieldLink "CascadeBusModel" 13 (F_Mod 1).1 (F_Mod 1).2.1 (F_Mod 1).2.2.1 ∈ gw := gm5 (i := 191) (by decide +kernel) rfl
theorem fl_Mod_13 : FL "CascadeBusModel" 13 11 1 := ⟨_, _, _, rfl, i_Mod, by decide, fw_Mod_13⟩
theorem fp_Mod_13 : FP "CascadeBusModel" 13 11 1 (.array .int) true := ⟨_, _, _, _, rfl, i_Mod, by decide, fw_Mod_13, t_Mod_ok, n_Mod, by decide +kernel, rfl, fun _ => rfl⟩
theorem fw_Mod_16 : Cond.fieldLink "CascadeBusModel" 16 (F_Mod 2).1 (F_Mod 2).2.1 (F_Mod 2).2.2.1 ∈ gw := gm5 (i := 192) (by decide +kernel) rfl
theorem fl_Mod_16 : FL "CascadeBusModel" 16 11 2 := ⟨_, _, _, rfl, i_Mod, by decide, fw_Mod_16⟩
theorem fp_Mod_16 : FP "CascadeBusModel" 16 11 2 (.array .int) true := ⟨_, _, _, _, rfl, i_Mod, by decide, fw_Mod_16, t_Mod_ok, n_Mod, by decide +kernel, rfl, fun _ => rfl⟩
theorem fw_Mod_19 : Cond.fieldLink "CascadeBusModel" 19 (F_Mod 3).1 (F_Mod 3).2.1 (F_Mod 3).2.2.1 ∈ gw := gm5 (i := 193) (by decide +kernel) rfl
theorem fl_Mod_19 : FL "CascadeBusModel" 19 11 3 := ⟨_, _, _, rfl, i_Mod, by decide, fw_Mod_19⟩
theorem fp_Mod_19 : FP "CascadeBusModel" 19 11 3 (.array .int) true := ⟨_, _, _, _, rfl, i_Mod, by decide, fw_Mod_19, t_Mod_ok, n_Mod, by decide +kernel, rfl, fun _ => rfl⟩
theorem fw_Mod_22 : Cond.fieldLink "CascadeBusModel" 22 (F_Mod 4).1 (F_Mod 4).2.1 (F_Mod 4).2.2.1 ∈ gw := gm5 (i := 194) (by decide +kernel) rfl
theorem fl_Mod_22 : FL "CascadeBusModel" 22 11 4 := ⟨_, _, _, rfl, i_Mod, by decide, fw_Mod_22⟩
theorem fp_Mod_22 : FP "CascadeBusModel" 22 11 4 (.array .int) true := ⟨_, _, _, _, rfl, i_Mod, by decide, fw_Mod_22, t_Mod_ok, n_Mod, by decide +kernel, rfl, fun _ => rfl⟩
theorem fw_Mod_25 : Cond.fieldLink "CascadeBusModel" 25 (F_Mod 5).1 (F_Mod 5).2.1 (F_Mod 5).2.2.1 ∈ gw := gm5 (i := 195) (by decide +kernel) rfl
theorem fl_Mod_25 : FL "CascadeBusModel" 25 11 5 := ⟨_, _, _, rfl, i_Mod, by decide, fw_Mod_25⟩
theorem fp_Mod_25 : FP "CascadeBusModel" 25 11 5 (.array .int) true := ⟨_, _, _, _, rfl, i_Mod, by decide, fw_Mod_25, t_Mod_ok, n_Mod, by decide +kernel, rfl, fun _ => rfl⟩
theorem fw_Mod_28 : Cond.fieldLink "CascadeBusModel" 28 (F_Mod 6).1 (F_Mod 6).2.1 (F_Mod 6).2.2.1 ∈ gw := gm5 (i := 196) (by decide +kernel) rfl
theorem fl_Mod_28 : FL "CascadeBusModel" 28 11 6 := ⟨_, _, _, rfl, i_Mod, by decide, fw_Mod_28⟩
theorem fp_Mod_28 : FP "CascadeBusModel" 28 11 6 (.array .int) true := ⟨_, _, _, _, rfl, i_Mod, by decide, fw_Mod_28, t_Mod_ok, n_Mod, by decide +kernel, rfl, fun _ => rfl⟩
theorem fw_Mod_31 : Cond.fieldLink "CascadeBusModel" 31 (F_Mod 7).1 (F_Mod 7).2.1 (F_Mod 7).2.2.1 ∈ gw := gm5 (i := 197) (by decide +kernel) rfl
theorem fl_Mod_31 : FL "CascadeBusModel" 31 11 7 := ⟨_, _, _, rfl, i_Mod, by decide, fw_Mod_31⟩
theorem fp_Mod_31 : FP "CascadeBusModel" 31 11 7 (.array .int) true := ⟨_, _, _, _, rfl, i_Mod, by decide, fw_Mod_31, t_Mod_ok, n_Mod, by decide +kernel, rfl, fun _ => rfl⟩
theorem fw_Mod_34 : Cond.fieldLink "CascadeBusModel" 34 (F_Mod 8).1 (F_Mod 8).2.1 (F_Mod 8).2.2.1 ∈ gw := gm5 (i := 198) (by decide +kernel) rfl
theorem fl_Mod_34 : FL "CascadeBusModel" 34 11 8 := ⟨_, _, _, rfl, i_Mod, by decide, fw_Mod_34⟩
theorem fp_Mod_34 : FP "CascadeBusModel" 34 11 8 (.array .int) true := ⟨_, _, _, _, rfl, i_Mod, by decide, fw_Mod_34, t_Mod_ok, n_Mod, by decide +kernel, rfl, fun _ => rfl⟩
theorem fw_Mod_37 : Cond.fieldLink "CascadeBusModel" 37 (F_Mod 9).1 (F_Mod 9).2.1 (F_Mod 9).2.2.1 ∈ gw := gm5 (i := 199) (by decide +kernel) rfl
theorem fl_Mod_37 : FL "CascadeBusModel" 37 11 9 := ⟨_, _, _, rfl, i_Mod, by decide, fw_Mod_37⟩
theorem fp_Mod_37 : FP "CascadeBusModel" 37 11 9 (.array .int) true := ⟨_, _, _, _, rfl, i_Mod, by decide, fw_Mod_37, t_Mod_ok, n_Mod, by decide +kernel, rfl, fun _ => rfl⟩
theorem fw_Mod_40 : Cond.fieldLink "CascadeBusModel" 40 (F_Mod 10).1 (F_Mod 10).2.1 (F_Mod 10).2.2.1 ∈ gw := gm5 (i := 200) (by decide +kernel) rfl
theorem fl_Mod_40 : FL "CascadeBusModel" 40 11 10 := ⟨_, _, _, rfl, i_Mod, by decide, fw_Mod_40⟩
theorem fp_Mod_40 : FP "CascadeBusModel" 40 11 10 (.array .int) true := ⟨_, _, _, _, rfl, i_Mod, by decide, fw_Mod_40, t_Mod_ok, n_Mod, by decide +kernel, rfl, fun _ => rfl⟩
theorem fw_Mod_43 : Cond.fieldLink "CascadeBusModel" 43 (F_Mod 11).1 (F_Mod 11).2.1 (F_Mod 11).2.2.1 ∈ gw := gm5 (i := 201) (by decide +kernel) rfl
theorem fl_Mod_43 : FL "CascadeBusModel" 43 11 11 := ⟨_, _, _, rfl, i_Mod, by decide, fw_Mod_43⟩
theorem fp_Mod_43 : FP "CascadeBusModel" 43 11 11 (.array .int) true := ⟨_, _, _, _, rfl, i_Mod, by decide, fw_Mod_43, t_Mod_ok, n_Mod, by decide +kernel, rfl, fun _ => rfl⟩
theorem fw_Mod_46 : Cond.fieldLink "CascadeBusModel" 46 (F_Mod 12).1 (F_Mod 12).2.1 (F_Mod 12).2.2.1 ∈ gw := gm5 (i := 202) (by decide +kernel) rfl
theorem fl_Mod_46 : FL "CascadeBusModel" 46 11 12 := ⟨_, _, _, rfl, i_Mod, by decide, fw_Mod_46⟩
theorem fp_Mod_46 : FP "CascadeBusModel" 46 11 12 (.array .int) true := ⟨_, _, _, _, rfl, i_Mod, by decide, fw_Mod_46, t_Mod_ok, n_Mod, by decide +kernel, rfl, fun _ => rfl⟩
theorem fw_Mod_49 : Cond.fieldLink "CascadeBusModel" 49 (F_Mod 13).1 (F_Mod 13).2.1 (F_Mod 13).2.2.1 ∈ gw := gm5 (i := 203) (by decide +kernel) rfl
theorem fl_Mod_49 : FL "CascadeBusModel" 49 11 13 := ⟨_, _, _, rfl, i_Mod, by decide, fw_Mod_49⟩
theorem fp_Mod_49 : FP "CascadeBusModel" 49 11 13 (.array .int) true := ⟨_, _, _, _, rfl, i_Mod, by decide, fw_Mod_49, t_Mod_ok, n_Mod, by decide +kernel, rfl, fun _ => rfl⟩
theorem fw_Mod_52 : Cond.fieldLink "CascadeBusModel" 52 (F_Mod 14).1 (F_Mod 14).2.1 (F_Mod 14).2.2.1 ∈ gw := gm5 (i := 204) (by decide +kernel) rfl
theorem fl_Mod_52 : FL "CascadeBusModel" 52 11 14 := ⟨_, _, _, rfl, i_Mod, by decide, fw_Mod_52⟩
theorem fp_Mod_52 : FP "CascadeBusModel" 52 11 14 (.array .int) true := ⟨_, _, _, _, rfl, i_Mod, by decide, fw_Mod_52, t_Mod_ok, n_Mod, by decide +kernel, rfl, fun _ => rfl⟩
theorem fw_Mod_55 : Cond.fieldLink "CascadeBusModel" 55 (F_Mod 15).1 (F_Mod 15).2.1 (F_Mod 15).2.2.1 ∈ gw := gm5 (i := 205) (by decide +kernel) rfl
theorem fl_Mod_55 : FL "CascadeBusModel" 55 11 15 := ⟨_, _, _, rfl, i_Mod, by decide, fw_Mod_55⟩
theorem fp_Mod_55 : FP "CascadeBusModel" 55 11 15 (.array .int) true := ⟨_, _, _, _, rfl, i_Mod, by decide, fw_Mod_55, t_Mod_ok, n_Mod, by decide +kernel, rfl, fun _ => rfl⟩
theorem fw_Mod_58 : Cond.fieldLink "CascadeBusModel" 58 (F_Mod 16).1 (F_Mod 16).2.1 (F_Mod 16).2.2.1 ∈ gw := gm5 (i := 206) (by decide +kernel) rfl
theorem fl_Mod_58 : FL "CascadeBusModel" 58 11 16 := ⟨_, _, _, rfl, i_Mod, by decide, fw_Mod_58⟩
theorem fp_Mod_58 : FP "CascadeBusModel" 58 11 16 (.array .int) true := ⟨_, _, _, _, rfl, i_Mod, by decide, fw_Mod_58, t_Mod_ok, n_Mod, by decide +kernel, rfl, fun _ => rfl⟩
theorem fw_Mod_61 : Cond.fieldLink "CascadeBusModel" 61 (F_Mod 17).1 (F_Mod 17).2.1 (F_Mod 17).2.2.1 ∈ gw := gm5 (i := 207) (by decide +kernel) rfl
theorem fl_Mod_61 : FL "CascadeBusModel" 61 11 17 := ⟨_, _, _, rfl, i_Mod, by decide, fw_Mod_61⟩
theorem fp_Mod_61 : FP "CascadeBusModel" 61 11 17 (.array .int) true := ⟨_, _, _, _, rfl, i_Mod, by decide, fw_Mod_61, t_Mod_ok, n_Mod, by decide +kernel, rfl, fun _ => rfl⟩
theorem fw_Mod_159 : Cond.fieldLink "CascadeBusModel" 159 (F_Mod 18).1 (F_Mod 18).2.1 (F_Mod 18).2.2.1 ∈ gw := gm5 (i := 208) (by decide +kernel) rfl
theorem fl_Mod_159 : FL "CascadeBusModel" 159 11 18 := ⟨_, _, _, rfl, i_Mod, by decide, fw_Mod_159⟩
theorem fp_Mod_159 : FP "CascadeBusModel" 159 11 18 .int false := ⟨_, _, _, _, rfl, i_Mod, by decide, fw_Mod_159, t_Mod_ok, n_Mod, by decide +kernel, rfl, fun _ => rfl⟩
theorem fw_Mod_64 : Cond.fieldLink "CascadeBusModel" 64 (F_Mod 19).1 (F_Mod 19).2.1 (F_Mod 19).2.2.1 ∈ gw := gm5 (i := 209) (by decide +kernel) rfl
theorem fl_Mod_64 : FL "CascadeBusModel" 64 11 19 := ⟨_, _, _, rfl, i_Mod, by decide, fw_Mod_64⟩
theorem fp_Mod_64 : FP "CascadeBusModel" 64 11 19 .int false := ⟨_, _, _, _, rfl, i_Mod, by decide, fw_Mod_64, t_Mod_ok, n_Mod, by decide +kernel, rfl, fun _ => rfl⟩
theorem fw_Mod_183 : Cond.fieldLink "CascadeBusModel" 183 (F_Mod 20).1 (F_Mod 20).2.1 (F_Mod 20).2.2.1 ∈ gw := gm5 (i := 210) (by decide +kernel) rfl
theorem fl_Mod_183 : FL "CascadeBusModel" 183 11 20 := ⟨_, _, _, rfl, i_Mod, by decide, fw_Mod_183⟩
theorem fp_Mod_183 : FP "CascadeBusModel" 183 11 20 .int false := ⟨_, _, _, _, rfl, i_Mod, by decide, fw_Mod_183, t_Mod_ok, n_Mod, by decide +kernel, rfl, fun _ => rfl⟩
theorem fw_Mod_162 : Cond.fieldLink "CascadeBusModel" 162 (F_Mod 21).1 (F_Mod 21).2.1 (F_Mod 21).2.2.1 ∈ gw := gm5 (i := 211) (by decide +kernel) rfl
theorem fl_Mod_162 : FL "CascadeBusModel" 162 11 21 := ⟨_, _, _, rfl, i_Mod, by decide, fw_Mod_162⟩
theorem fp_Mod_162 : FP "CascadeBusModel" 162 11 21 .int false := ⟨_, _, _, _, rfl, i_Mod, by decide, fw_Mod_162, t_Mod_ok, n_Mod, by decide +kernel, rfl, fun _ => rfl⟩
theorem fw_Mod_68 : Cond.fieldLink "CascadeBusModel" 68 (F_Mod 22).1 (F_Mod 22).2.1 (F_Mod 22).2.2.1 ∈ gw := gm5 (i := 212) (by decide +kernel) rfl
theorem fl_Mod_68 : FL "CascadeBusModel" 68 11 22 := ⟨_, _, _, rfl, i_Mod, by decide, fw_Mod_68⟩
theorem fp_Mod_68 : FP "CascadeBusModel" 68 11 22 .int false := ⟨_, _, _, _, rfl, i_Mod, by decide, fw_Mod_68, t_Mod_ok, n_Mod, by decide +kernel, rfl, fun _ => rfl⟩
theorem fw_Mod_71 : Cond.fieldLink "CascadeBusModel" 71 (F_Mod 23).1 (F_Mod 23).2.1 (F_Mod 23).2.2.1 ∈ gw := gm5 (i := 213) (by decide +kernel) rfl
theorem fl_Mod_71 : FL "CascadeBusModel" 71 11 23 := ⟨_, _, _, rfl, i_Mod, by decide, fw_Mod_71⟩
theorem fp_Mod_71 : FP "CascadeBusModel" 71 11 23 .int false := ⟨_, _, _, _, rfl, i_Mod, by decide, fw_Mod_71, t_Mod_ok, n_Mod, by decide +kernel, rfl, fun _ => rfl⟩
theorem fw_Mod_394 : Cond.fieldLink "CascadeBusModel" 394 (F_Mod 24).1 (F_Mod 24).2.1 (F_Mod 24).2.2.1 ∈ gw := gm5 (i := 214) (by decide +kernel) rfl
theorem fl_Mod_394 : FL "CascadeBusModel" 394 11 24 := ⟨_, _, _, rfl, i_Mod, by decide, fw_Mod_394⟩
theorem fp_Mod_394 : FP "CascadeBusModel" 394 11 24 .int false := ⟨_, _, _, _, rfl, i_Mod, by decide, fw_Mod_394, t_Mod_ok, n_Mod, by decide +kernel, rfl, fun _ => rfl⟩
theorem fw_Mod_391 : Cond.fieldLink "CascadeBusModel" 391 (F_Mod 25).1 (F_Mod 25).2.1 (F_Mod 25).2.2.1 ∈ gw := gm5 (i := 215) (by decide +kernel) rfl
theorem fl_Mod_391 : FL "CascadeBusModel" 391 11 25 := ⟨_, _, _, rfl, i_Mod, by decide, fw_Mod_391⟩
theorem fp_Mod_391 : FP "CascadeBusModel" 391 11 25 .int false := ⟨_, _, _, _, rfl, i_Mod, by decide, fw_Mod_391, t_Mod_ok, n_Mod, by decide +kernel, rfl, fun _ => rfl⟩
theorem fw_Mod_388 : Cond.fieldLink "CascadeBusModel" 388 (F_Mod 26).1 (F_Mod 26).2.1 (F_Mod 26).2.2.1 ∈ gw := gm5 (i := 216) (by decide +kernel) rfl
theorem fl_Mod_388 : FL "CascadeBusModel" 388 11 26 := ⟨_, _, _, rfl, i_Mod, by decide, fw_Mod_388⟩
theorem fp_Mod_388 : FP "CascadeBusModel" 388 11 26 .int false := ⟨_, _, _, _, rfl, i_Mod, by decide, fw_Mod_388, t_Mod_ok, n_Mod, by decide +kernel, rfl, fun _ => rfl⟩
theorem fw_Mod_463 : Cond.fieldLink "CascadeBusModel" 463 (F_Mod 27).1 (F_Mod 27).2.1 (F_Mod 27).2.2.1 ∈ gw := gm5 (i := 217) (by decide +kernel) rfl
theorem fl_Mod_463 : FL "CascadeBusModel" 463 11 27 := ⟨_, _, _, rfl, i_Mod, by decide, fw_Mod_463⟩
theorem fp_Mod_463 : FP "CascadeBusModel" 463 11 27 .int false := ⟨_, _, _, _, rfl, i_Mod, by decide, fw_Mod_463, t_Mod_ok, n_Mod, by decide +kernel, rfl, fun _ => rfl⟩
theorem fw_Mod_466 : Cond.fieldLink "CascadeBusModel" 466 (F_Mod 28).1 (F_Mod 28).2.1 (F_Mod 28).2.2.1 ∈ gw := gm5 (i := 218) (by decide +kernel) rfl
theorem fl_Mod_466 : FL "CascadeBusModel" 466 11 28 := ⟨_, _, _, rfl, i_Mod, by decide, fw_Mod_466⟩
theorem fp_Mod_466 : FP "CascadeBusModel" 466 11 28 .int false := ⟨_, _, _, _, rfl, i_Mod, by decide, fw_Mod_466, t_Mod_ok, n_Mod, by decide +kernel, rfl, fun _ => rfl⟩
theorem fw_Mod_469 : Cond.fieldLink "CascadeBusModel" 469 (F_Mod 29).1 (F_Mod 29).2.1 (F_Mod 29).2.2.1 ∈ gw := gm5 (i := 219) (by decide +kernel) rfl
theorem fl_Mod_469 : FL "CascadeBusModel" 469 11 29 := ⟨_, _, _, rfl, i_Mod, by decide, fw_Mod_469⟩
theorem fp_Mod_469 : FP "CascadeBusModel" 469 11 29 .int false := ⟨_, _, _, _, rfl, i_Mod, by decide, fw_Mod_469, t_Mod_ok, n_Mod, by decide +kernel, rfl, fun _ => rfl⟩
theorem fw_Mod_385 : Cond.fieldLink "CascadeBusModel" 385 (F_Mod 30).1 (F_Mod 30).2.1 (F_Mod 30).2.2.1 ∈ gw := gm5 (i := 220) (by decide +kernel) rfl
theorem fl_Mod_385 : FL "CascadeBusModel" 385 11 30 := ⟨_, _, _, rfl, i_Mod, by decide, fw_Mod_385⟩
theorem fp_Mod_385 : FP "CascadeBusModel" 385 11 30 .int false := ⟨_, _, _, _, rfl, i_Mod, by decide, fw_Mod_385, t_Mod_ok, n_Mod, by decide +kernel, rfl, fun _ => rfl⟩
theorem fw_Mod_74 : Cond.fieldLink "CascadeBusModel" 74 (F_Mod 31).1 (F_Mod 31).2.1 (F_Mod 31).2.2.1 ∈ gw := gm5 (i := 221) (by decide +kernel) rfl
theorem fl_Mod_74 : FL "CascadeBusModel" 74 11 31 := ⟨_, _, _, rfl, i_Mod, by decide, fw_Mod_74⟩
theorem fp_Mod_74 : FP "CascadeBusModel" 74 11 31 (.array .int) true := ⟨_, _, _, _, rfl, i_Mod, by decide, fw_Mod_74, t_Mod_ok, n_Mod, by decide +kernel, rfl, fun _ => rfl⟩
theorem fw_Mod_369 : Cond.fieldLink "CascadeBusModel" 369 (F_Mod 32).1 (F_Mod 32).2.1 (F_Mod 32).2.2.1 ∈ gw := gm5 (i := 222) (by decide +kernel) rfl
theorem fl_Mod_369 : FL "CascadeBusModel" 369 11 32 := ⟨_, _, _, rfl, i_Mod, by decide, fw_Mod_369⟩
theorem fp_Mod_369 : FP "CascadeBusModel" 369 11 32 .int false := ⟨_, _, _, _, rfl, i_Mod, by decide, fw_Mod_369, t_Mod_ok, n_Mod, by decide +kernel, rfl, fun _ => rfl⟩
theorem fw_Mod_77 : Cond.fieldLink "CascadeBusModel" 77 (F_Mod 33).1 (F_Mod 33).2.1 (F_Mod 33).2.2.1 ∈ gw := gm5 (i := 223) (by decide +kernel) rfl
theorem fl_Mod_77 : FL "CascadeBusModel" 77 11 33 := ⟨_, _, _, rfl, i_Mod, by decide, fw_Mod_77⟩
theorem fp_Mod_77 : FP "CascadeBusModel" 77 11 33 .int false := ⟨_, _, _, _, rfl, i_Mod, by decide, fw_Mod_77, t_Mod_ok, n_Mod, by decide +kernel, rfl, fun _ => rfl⟩
theorem fw_Mod_80 : Cond.fieldLink "CascadeBusModel" 80 (F_Mod 34).1 (F_Mod 34).2.1 (F_Mod 34).2.2.1 ∈ gw := gm5 (i := 224) (by decide +kernel) rfl
theorem fl_Mod_80 : FL "CascadeBusModel" 80 11 34 := ⟨_, _, _, rfl, i_Mod, by decide, fw_Mod_80⟩
theorem fp_Mod_80 : FP "CascadeBusModel" 80 11 34 (.array .int) true := ⟨_, _, _, _, rfl, i_Mod, by decide, fw_Mod_80, t_Mod_ok, n_Mod, by decide +kernel, rfl, fun _ => rfl⟩
theorem fw_Mod_83 : Cond.fieldLink "CascadeBusModel" 83 (F_Mod 35).1 (F_Mod 35).2.1 (F_Mod 35).2.2.1 ∈ gw := gm5 (i := 225) (by decide +kernel) rfl
theorem fl_Mod_83 : FL "CascadeBusModel" 83 11 35 := ⟨_, _, _, rfl, i_Mod, by decide, fw_Mod_83⟩
theorem fp_Mod_83 : FP "CascadeBusModel" 83 11 35 (.array .int) true := ⟨_, _, _, _, rfl, i_Mod, by decide, fw_Mod_83, t_Mod_ok, n_Mod, by decide +kernel, rfl, fun _ => rfl⟩
theorem fw_Mod_86 : Cond.fieldLink "CascadeBusModel" 86 (F_Mod 36).1 (F_Mod 36).2.1 (F_Mod 36).2.2.1 ∈ gw := gm5 (i := 226) (by decide +kernel) rfl
theorem fl_Mod_86 : FL "CascadeBusModel" 86 11 36 := ⟨_, _, _, rfl, i_Mod, by decide, fw_Mod_86⟩
theorem fp_Mod_86 : FP "CascadeBusModel" 86 11 36 (.array .int) true := ⟨_, _, _, _, rfl, i_Mod, by decide, fw_Mod_86, t_Mod_ok, n_Mod, by decide +kernel, rfl, fun _ => rfl⟩
theorem fw_Mod_89 : Cond.fieldLink "CascadeBusModel" 89 (F_Mod 37).1 (F_Mod 37).2.1 (F_Mod 37).2.2.1 ∈ gw := gm5 (i := 227) (by decide +kernel) rfl
theorem fl_Mod_89 : FL "CascadeBusModel" 89 11 37 := ⟨_, _, _, rfl, i_Mod, by decide, fw_Mod_89⟩
theorem fp_Mod_89 : FP "CascadeBusModel" 89 11 37 (.array .int) true := ⟨_, _, _, _, rfl, i_Mod, by decide, fw_Mod_89, t_Mod_ok, n_Mod, by decide +kernel, rfl, fun _ => rfl⟩
theorem fw_Mod_92 : Cond.fieldLink "CascadeBusModel" 92 (F_Mod 38).1 (F_Mod 38).2.1 (F_Mod 38).2.2.1 ∈ gw := gm5 (i := 228) (by decide +kernel) rfl
theorem fl_Mod_92 : FL "CascadeBusModel" 92 11 38 := ⟨_, _, _, rfl, i_Mod, by decide, fw_Mod_92⟩
theorem fp_Mod_92 : FP "CascadeBusModel" 92 11 38 (.array .int) true := ⟨_, _, _, _, rfl, i_Mod, by decide, fw_Mod_92, t_Mod_ok, n_Mod, by decide +kernel, rfl, fun _ => rfl⟩
theorem fw_Mod_95 : Cond.fieldLink "CascadeBusModel" 95 (F_Mod 39).1 (F_Mod 39).2.1 (F_Mod 39).2.2.1 ∈ gw := gm5 (i := 229) (by decide +kernel) rfl
theorem fl_Mod_95 : FL "CascadeBusModel" 95 11 39 := ⟨_, _, _, rfl, i_Mod, by decide, fw_Mod_95⟩
theorem fp_Mod_95 : FP "CascadeBusModel" 95 11 39 (.array .int) true := ⟨_, _, _, _, rfl, i_Mod, by decide, fw_Mod_95, t_Mod_ok, n_Mod, by decide +kernel, rfl, fun _ => rfl⟩
theorem fw_Mod_98 : Cond.fieldLink "CascadeBusModel" 98 (F_Mod 40).1 (F_Mod 40).2.1 (F_Mod 40).2.2.1 ∈ gw := gm5 (i := 230) (by decide +kernel) rfl
theorem fl_Mod_98 : FL "CascadeBusModel" 98 11 40 := ⟨_, _, _, rfl, i_Mod, by decide, fw_Mod_98⟩
theorem fp_Mod_98 : FP "CascadeBusModel" 98 11 40 (.array .boolean) true := ⟨_, _, _, _, rfl, i_Mod, by decide, fw_Mod_98, t_Mod_ok, n_Mod, by decide +kernel, rfl, fun _ => rfl⟩
theorem fw_Mod_102 : Cond.fieldLink "CascadeBusModel" 102 (F_Mod 41).1 (F_Mod 41).2.1 (F_Mod 41).2.2.1 ∈ gw := gm5 (i := 231) (by decide +kernel) rfl
theorem fl_Mod_102 : FL "CascadeBusModel" 102 11 41 := ⟨_, _, _, rfl, i_Mod, by decide, fw_Mod_102⟩
theorem fp_Mod_102 : FP "CascadeBusModel" 102 11 41 (.array .boolean) true := ⟨_, _, _, _, rfl, i_Mod, by decide, fw_Mod_102, t_Mod_ok, n_Mod, by decide +kernel, rfl, fun _ => rfl⟩
theorem fw_Mod_168 : Cond.fieldLink "CascadeBusModel" 168 (F_Mod 42).1 (F_Mod 42).2.1 (F_Mod 42).2.2.1 ∈ gw := gm5 (i := 232) (by decide +kernel) rfl
theorem fl_Mod_168 : FL "CascadeBusModel" 168 11 42 := ⟨_, _, _, rfl, i_Mod, by decide, fw_Mod_168⟩
theorem fp_Mod_168 : FP "CascadeBusModel" 168 11 42 .int false := ⟨_, _, _, _, rfl, i_Mod, by decide, fw_Mod_168, t_Mod_ok, n_Mod, by decide +kernel, rfl, fun _ => rfl⟩
theorem fw_Mod_165 : Cond.fieldLink "CascadeBusModel" 165 (F_Mod 43).1 (F_Mod 43).2.1 (F_Mod 43).2.2.1 ∈ gw := gm5 (i := 233) (by decide +kernel) rfl
theorem fl_Mod_165 : FL "CascadeBusModel" 165 11 43 := ⟨_, _, _, rfl, i_Mod, by decide, fw_Mod_165⟩
theorem fp_Mod_165 : FP "CascadeBusModel" 165 11 43 .int false := ⟨_, _, _, _, rfl, i_Mod, by decide, fw_Mod_165, t_Mod_ok, n_Mod, by decide +kernel, rfl, fun _ => rfl⟩
theorem fw_Mod_105 : Cond.fieldLink "CascadeBusModel" 105 (F_Mod 44).1 (F_Mod 44).2.1 (F_Mod 44).2.2.1 ∈ gw := gm5 (i := 234) (by decide +kernel) rfl
theorem fl_Mod_105 : FL "CascadeBusModel" 105 11 44 := ⟨_, _, _, rfl, i_Mod, by decide, fw_Mod_105⟩
theorem fp_Mod_105 : FP "CascadeBusModel" 105 11 44 .int false := ⟨_, _, _, _, rfl, i_Mod, by decide, fw_Mod_105, t_Mod_ok, n_Mod, by decide +kernel, rfl, fun _ => rfl⟩
theorem fw_Mod_202 : Cond.fieldLink "CascadeBusModel" 202 (F_Mod 45).1 (F_Mod 45).2.1 (F_Mod 45).2.2.1 ∈ gw := gm5 (i := 235) (by decide +kernel) rfl
theorem fl_Mod_202 : FL "CascadeBusModel" 202 11 45 := ⟨_, _, _, rfl, i_Mod, by decide, fw_Mod_202⟩
theorem fp_Mod_202 : FP "CascadeBusModel" 202 11 45 .int false := ⟨_, _, _, _, rfl, i_Mod, by decide, fw_Mod_202, t_Mod_ok, n_Mod, by decide +kernel, rfl, fun _ => rfl⟩
theorem fw_Mod_283 : Cond.fieldLink "CascadeBusModel" 283 (F_Mod 46).1 (F_Mod 46).2.1 (F_Mod 46).2.2.1 ∈ gw := gm5 (i := 236) (by decide +kernel) rfl
theorem fl_Mod_283 : FL "CascadeBusModel" 283 11 46 := ⟨_, _, _, rfl, i_Mod, by decide, fw_Mod_283⟩
theorem fp_Mod_283 : FP "CascadeBusModel" 283 11 46 .int false := ⟨_, _, _, _, rfl, i_Mod, by decide, fw_Mod_283, t_Mod_ok, n_Mod, by decide +kernel, rfl, fun _ => rfl⟩
theorem fw_Mod_286 : Cond.fieldLink "CascadeBusModel" 286 (F_Mod 47).1 (F_Mod 47).2.1 (F_Mod 47).2.2.1 ∈ gw := gm5 (i := 237) (by decide +kernel) rfl
theorem fl_Mod_286 : FL "CascadeBusModel" 286 11 47 := ⟨_, _, _, rfl, i_Mod, by decide, fw_Mod_286⟩
theorem fp_Mod_286 : FP "CascadeBusModel" 286 11 47 .int false := ⟨_, _, _, _, rfl, i_Mod, by decide, fw_Mod_286, t_Mod_ok, n_Mod, by decide +kernel, rfl, fun _ => rfl⟩
theorem fw_Mod_273 : Cond.fieldLink "CascadeBusModel" 273 (F_Mod 48).1 (F_Mod 48).2.1 (F_Mod 48).2.2.1 ∈ gw := gm5 (i := 238) (by decide +kernel) rfl
theorem fl_Mod_273 : FL "CascadeBusModel" 273 11 48 := ⟨_, _, _, rfl, i_Mod, by decide, fw_Mod_273⟩
theorem fp_Mod_273 : FP "CascadeBusModel" 273 11 48 .int false := ⟨_, _, _, _, rfl, i_Mod, by decide, fw_Mod_273, t_Mod_ok, n_Mod, by decide +kernel, rfl, fun _ => rfl⟩
theorem fw_Mod_295 : Cond.fieldLink "CascadeBusModel" 295 (F_Mod 49).1 (F_Mod 49).2.1 (F_Mod 49).2.2.1 ∈ gw := gm5 (i := 239) (by decide +kernel) rfl
theorem fl_Mod_295 : FL "CascadeBusModel" 295 11 49 := ⟨_, _, _, rfl, i_Mod, by decide, fw_Mod_295⟩
theorem fp_Mod_295 : FP "CascadeBusModel" 295 11 49 .int false := ⟨_, _, _, _, rfl, i_Mod, by decide, fw_Mod_295, t_Mod_ok, n_Mod, by decide +kernel, rfl, fun _ => rfl⟩
theorem fw_Mod_292 : Cond.fieldLink "CascadeBusModel" 292 (F_Mod 50).1 (F_Mod 50).2.1 (F_Mod 50).2.2.1 ∈ gw := gm6 (i := 0) (by decide +kernel) rfl
theorem fl_Mod_292 : FL "CascadeBusModel" 292 11 50 := ⟨_, _, _, rfl, i_Mod, by decide, fw_Mod_292⟩
theorem fp_Mod_292 : FP "CascadeBusModel" 292 11 50 .int false := ⟨_, _, _, _, rfl, i_Mod, by decide, fw_Mod_292, t_Mod_ok, n_Mod, by decide +kernel, rfl, fun _ => rfl⟩
theorem fw_Mod_289 : Cond.fieldLink "CascadeBusModel" 289 (F_Mod 51).1 (F_Mod 51).2.1 (F_Mod 51).2.2.1 ∈ gw := gm6 (i := 1) (by decide +kernel) rfl
theorem fl_Mod_289 : FL "CascadeBusModel" 289 11 51 := ⟨_, _, _, rfl, i_Mod, by decide, fw_Mod_289⟩
theorem fp_Mod_289 : FP "CascadeBusModel" 289 11 51 .int false := ⟨_, _, _, _, rfl, i_Mod, by decide, fw_Mod_289, t_Mod_ok, n_Mod, by decide +kernel, rfl, fun _ => rfl⟩
theorem fw_Mod_305 : Cond.fieldLink "CascadeBusModel" 305 (F_Mod 52).1 (F_Mod 52).2.1 (F_Mod 52).2.2.1 ∈ gw := gm6 (i := 2) (by decide +kernel) rfl
theorem fl_Mod_305 : FL "CascadeBusModel" 305 11 52 := ⟨_, _, _, rfl, i_Mod, by decide, fw_Mod_305⟩
theorem fp_Mod_305 : FP "CascadeBusModel" 305 11 52 .int false := ⟨_, _, _, _, rfl, i_Mod, by decide, fw_Mod_305, t_Mod_ok, n_Mod, by decide +kernel, rfl, fun _ => rfl⟩
theorem fw_Mod_108 : Cond.fieldLink "CascadeBusModel" 108 (F_Mod 53).1 (F_Mod 53).2.1 (F_Mod 53).2.2.1 ∈ gw := gm6 (i := 3) (by decide +kernel) rfl
theorem fl_Mod_108 : FL "CascadeBusModel" 108 11 53 := ⟨_, _, _, rfl, i_Mod, by decide, fw_Mod_108⟩
theorem fp_Mod_108 : FP "CascadeBusModel" 108 11 53 (.array .int) true := ⟨_, _, _, _, rfl, i_Mod, by decide, fw_Mod_108, t_Mod_ok, n_Mod, by decide +kernel, rfl, fun _ => rfl⟩
theorem fw_Mod_111 : Cond.fieldLink "CascadeBusModel" 111 (F_Mod 54).1 (F_Mod 54).2.1 (F_Mod 54).2.2.1 ∈ gw := gm6 (i := 4) (by decide +kernel) rfl
theorem fl_Mod_111 : FL "CascadeBusModel" 111 11 54 := ⟨_, _, _, rfl, i_Mod, by decide, fw_Mod_111⟩
theorem fp_Mod_111 : FP "CascadeBusModel" 111 11 54 (.array .int) true := ⟨_, _, _, _, rfl, i_Mod, by decide, fw_Mod_111, t_Mod_ok, n_Mod, by decide +kernel, rfl, fun _ => rfl⟩
theorem fw_Mod_114 : Cond.fieldLink "CascadeBusModel" 114 (F_Mod 55).1 (F_Mod 55).2.1 (F_Mod 55).2.2.1 ∈ gw := gm6 (i := 5) (by decide +kernel) rfl
theorem fl_Mod_114 : FL "CascadeBusModel" 114 11 55 := ⟨_, _, _, rfl, i_Mod, by decide, fw_Mod_114⟩
theorem fp_Mod_114 : FP "CascadeBusModel" 114 11 55 (.array .int) true := ⟨_, _, _, _, rfl, i_Mod, by decide, fw_Mod_114, t_Mod_ok, n_Mod, by decide +kernel, rfl, fun _ => rfl⟩
theorem fw_Mod_117 : Cond.fieldLink "CascadeBusModel" 117 (F_Mod 56).1 (F_Mod 56).2.1 (F_Mod 56).2.2.1 ∈ gw := gm6 (i := 6) (by decide +kernel) rfl
theorem fl_Mod_117 : FL "CascadeBusModel" 117 11 56 := ⟨_, _, _, rfl, i_Mod, by decide, fw_Mod_117⟩
theorem fp_Mod_117 : FP "CascadeBusModel" 117 11 56 (.array .int) true := ⟨_, _, _, _, rfl, i_Mod, by decide, fw_Mod_117, t_Mod_ok, n_Mod, by decide +kernel, rfl, fun _ => rfl⟩
theorem fw_Mod_120 : Cond.fieldLink "CascadeBusModel" 120 (F_Mod 57).1 (F_Mod 57).2.1 (F_Mod 57).2.2.1 ∈ gw := gm6 (i := 7) (by decide +kernel) rfl
theorem fl_Mod_120 : FL "CascadeBusModel" 120 11 57 := ⟨_, _, _, rfl, i_Mod, by decide, fw_Mod_120⟩
theorem fp_Mod_120 : FP "CascadeBusModel" 120 11 57 (.array .int) true := ⟨_, _, _, _, rfl, i_Mod, by decide, fw_Mod_120, t_Mod_ok, n_Mod, by decide +kernel, rfl, fun _ => rfl⟩
theorem fw_Mod_123 : Cond.fieldLink "CascadeBusModel" 123 (F_Mod 58).1 (F_Mod 58).2.1 (F_Mod 58).2.2.1 ∈ gw := gm6 (i := 8) (by decide +kernel) rfl
theorem fl_Mod_123 : FL "CascadeBusModel" 123 11 58 := ⟨_, _, _, rfl, i_Mod, by decide, fw_Mod_123⟩
theorem fp_Mod_123 : FP "CascadeBusModel" 123 11 58 (.array .int) true := ⟨_, _, _, _, rfl, i_Mod, by decide, fw_Mod_123, t_Mod_ok, n_Mod, by decide +kernel, rfl, fun _ => rfl⟩
theorem fw_Mod_126 : Cond.fieldLink "CascadeBusModel" 126 (F_Mod 59).1 (F_Mod 59).2.1 (F_Mod 59).2.2.1 ∈ gw := gm6 (i := 9) (by decide +kernel) rfl
theorem fl_Mod_126 : FL "CascadeBusModel" 126 11 59 := ⟨_, _, _, rfl, i_Mod, by decide, fw_Mod_126⟩
theorem fp_Mod_126 : FP "CascadeBusModel" 126 11 59 (.array .int) true := ⟨_, _, _, _, rfl, i_Mod, by decide, fw_Mod_126, t_Mod_ok, n_Mod, by decide +kernel, rfl, fun _ => rfl⟩
theorem fw_Mod_129 : Cond.fieldLink "CascadeBusModel" 129 (F_Mod 60).1 (F_Mod 60).2.1 (F_Mod 60).2.2.1 ∈ gw := gm6 (i := 10) (by decide +kernel) rfl
theorem fl_Mod_129 : FL "CascadeBusModel" 129 11 60 := ⟨_, _, _, rfl, i_Mod, by decide, fw_Mod_129⟩
theorem fp_Mod_129 : FP "CascadeBusModel" 129 11 60 (.array .int) true := ⟨_, _, _, _, rfl, i_Mod, by decide, fw_Mod_129, t_Mod_ok, n_Mod, by decide +kernel, rfl, fun _ => rfl⟩
theorem fw_Mod_132 : Cond.fieldLink "CascadeBusModel" 132 (F_Mod 61).1 (F_Mod 61).2.1 (F_Mod 61).2.2.1 ∈ gw := gm6 (i := 11) (by decide +kernel) rfl
theorem fl_Mod_132 : FL "CascadeBusModel" 132 11 61 := ⟨_, _, _, rfl, i_Mod, by decide, fw_Mod_132⟩
theorem fp_Mod_132 : FP "CascadeBusModel" 132 11 61 (.array .int) true := ⟨_, _, _, _, rfl, i_Mod, by decide, fw_Mod_132, t_Mod_ok, n_Mod, by decide +kernel, rfl, fun _ => rfl⟩
theorem fw_Mod_135 : Cond.fieldLink "CascadeBusModel" 135 (F_Mod 62).1 (F_Mod 62).2.1 (F_Mod 62).2.2.1 ∈ gw := gm6 (i := 12) (by decide +kernel) rfl
theorem fl_Mod_135 : FL "CascadeBusModel" 135 11 62 := ⟨_, _, _, rfl, i_Mod, by decide, fw_Mod_135⟩
theorem fp_Mod_135 : FP "CascadeBusModel" 135 11 62 (.array .int) true := ⟨_, _, _, _, rfl, i_Mod, by decide, fw_Mod_135, t_Mod_ok, n_Mod, by decide +kernel, rfl, fun _ => rfl⟩
theorem fw_Mod_138 : Cond.fieldLink "CascadeBusModel" 138 (F_Mod 63).1 (F_Mod 63).2.1 (F_Mod 63).2.2.1 ∈ gw := gm6 (i := 13) (by decide +kernel) rfl
theorem fl_Mod_138 : FL "CascadeBusModel" 138 11 63 := ⟨_, _, _, rfl, i_Mod, by decide, fw_Mod_138⟩
theorem fp_Mod_138 : FP "CascadeBusModel" 138 11 63 (.array .int) true := ⟨_, _, _, _, rfl, i_Mod, by decide, fw_Mod_138, t_Mod_ok, n_Mod, by decide +kernel, rfl, fun _ => rfl⟩
theorem fw_Mod_141 : Cond.fieldLink "CascadeBusModel" 141 (F_Mod 64).1 (F_Mod 64).2.1 (F_Mod 64).2.2.1 ∈ gw := gm6 (i := 14) (by decide +kernel) rfl
theorem fl_Mod_141 : FL "CascadeBusModel" 141 11 64 := ⟨_, _, _, rfl, i_Mod, by decide, fw_Mod_141⟩
theorem fp_Mod_141 : FP "CascadeBusModel" 141 11 64 (.array .int) true := ⟨_, _, _, _, rfl, i_Mod, by decide, fw_Mod_141, t_Mod_ok, n_Mod, by decide +kernel, rfl, fun _ => rfl⟩
theorem fw_Mod_144 : Cond.fieldLink "CascadeBusModel" 144 (F_Mod 65).1 (F_Mod 65).2.1 (F_Mod 65).2.2.1 ∈ gw := gm6 (i := 15) (by decide +kernel) rfl
theorem fl_Mod_144 : FL "CascadeBusModel" 144 11 65 := ⟨_, _, _, rfl, i_Mod, by decide, fw_Mod_144⟩
theorem fp_Mod_144 : FP "CascadeBusModel" 144 11 65 (.array .int) true := ⟨_, _, _, _, rfl, i_Mod, by decide, fw_Mod_144, t_Mod_ok, n_Mod, by decide +kernel, rfl, fun _ => rfl⟩
theorem fw_Mod_321 : Cond.fieldLink "CascadeBusModel" 321 (F_Mod 66).1 (F_Mod 66).2.1 (F_Mod 66).2.2.1 ∈ gw := gm6 (i := 16) (by decide +kernel) rfl
theorem fl_Mod_321 : FL "CascadeBusModel" 321 11 66 := ⟨_, _, _, rfl, i_Mod, by decide, fw_Mod_321⟩
theorem fp_Mod_321 : FP "CascadeBusModel" 321 11 66 .int false := ⟨_, _, _, _, rfl, i_Mod, by decide, fw_Mod_321, t_Mod_ok, n_Mod, by decide +kernel, rfl, fun _ => rfl⟩
theorem fw_Mod_318 : Cond.fieldLink "CascadeBusModel" 318 (F_Mod 67).1 (F_Mod 67).2.1 (F_Mod 67).2.2.1 ∈ gw := gm6 (i := 17) (by decide +kernel) rfl
theorem fl_Mod_318 : FL "CascadeBusModel" 318 11 67 := ⟨_, _, _, rfl, i_Mod, by decide, fw_Mod_318⟩
theorem fp_Mod_318 : FP "CascadeBusModel" 318 11 67 .int false := ⟨_, _, _, _, rfl, i_Mod, by decide, fw_Mod_318, t_Mod_ok, n_Mod, by decide +kernel, rfl, fun _ => rfl⟩
theorem fw_Mod_333 : Cond.fieldLink "CascadeBusModel" 333 (F_Mod 68).1 (F_Mod 68).2.1 (F_Mod 68).2.2.1 ∈ gw := gm6 (i := 18) (by decide +kernel) rfl
theorem fl_Mod_333 : FL "CascadeBusModel" 333 11 68 := ⟨_, _, _, rfl, i_Mod, by decide, fw_Mod_333⟩
theorem fp_Mod_333 : FP "CascadeBusModel" 333 11 68 .int false := ⟨_, _, _, _, rfl, i_Mod, by decide, fw_Mod_333, t_Mod_ok, n_Mod, by decide +kernel, rfl, fun _ => rfl⟩
theorem fw_Mod_348 : Cond.fieldLink "CascadeBusModel" 348 (F_Mod 69).1 (F_Mod 69).2.1 (F_Mod 69).2.2.1 ∈ gw := gm6 (i := 19) (by decide +kernel) rfl
theorem fl_Mod_348 : FL "CascadeBusModel" 348 11 69 := ⟨_, _, _, rfl, i_Mod, by decide, fw_Mod_348⟩
theorem fp_Mod_348 : FP "CascadeBusModel" 348 11 69 .int false := ⟨_, _, _, _, rfl, i_Mod, by decide, fw_Mod_348, t_Mod_ok, n_Mod, by decide +kernel, rfl, fun _ => rfl⟩
theorem fw_Mod_351 : Cond.fieldLink "CascadeBusModel" 351 (F_Mod 70).1 (F_Mod 70).2.1 (F_Mod 70).2.2.1 ∈ gw := gm6 (i := 20) (by decide +kernel) rfl
theorem fl_Mod_351 : FL "CascadeBusModel" 351 11 70 := ⟨_, _, _, rfl, i_Mod, by decide, fw_Mod_351⟩
theorem fp_Mod_351 : FP "CascadeBusModel" 351 11 70 .int false := ⟨_, _, _, _, rfl, i_Mod, by decide, fw_Mod_351, t_Mod_ok, n_Mod, by decide +kernel, rfl, fun _ => rfl⟩
theorem fw_Mod_345 : Cond.fieldLink "CascadeBusModel" 345 (F_Mod 71).1 (F_Mod 71).2.1 (F_Mod 71).2.2.1 ∈ gw := gm6 (i := 21) (by decide +kernel) rfl
theorem fl_Mod_345 : FL "CascadeBusModel" 345 11 71 := ⟨_, _, _, rfl, i_Mod, by decide, fw_Mod_345⟩
theorem fp_Mod_345 : FP "CascadeBusModel" 345 11 71 .int false := ⟨_, _, _, _, rfl, i_Mod, by decide, fw_Mod_345, t_Mod_ok, n_Mod, by decide +kernel, rfl, fun _ => rfl⟩
theorem fw_Mod_366 : Cond.fieldLink "CascadeBusModel" 366 (F_Mod 72).1 (F_Mod 72).2.1 (F_Mod 72).2.2.1 ∈ gw := gm6 (i := 22) (by decide +kernel) rfl
theorem fl_Mod_366 : FL "CascadeBusModel" 366 11 72 := ⟨_, _, _, rfl, i_Mod, by decide, fw_Mod_366⟩
theorem fp_Mod_366 : FP "CascadeBusModel" 366 11 72 .int false := ⟨_, _, _, _, rfl, i_Mod, by decide, fw_Mod_366, t_Mod_ok, n_Mod, by decide +kernel, rfl, fun _ => rfl⟩
theorem fw_Mod_147 : Cond.fieldLink "CascadeBusModel" 147 (F_Mod 73).1 (F_Mod 73).2.1 (F_Mod 73).2.2.1 ∈ gw := gm6 (i := 23) (by decide +kernel) rfl
theorem fl_Mod_147 : FL "CascadeBusModel" 147 11 73 := ⟨_, _, _, rfl, i_Mod, by decide, fw_Mod_147⟩
theorem fp_Mod_147 : FP "CascadeBusModel" 147 11 73 (.array .int) true := ⟨_, _, _, _, rfl, i_Mod, by decide, fw_Mod_147, t_Mod_ok, n_Mod, by decide +kernel, rfl, fun _ => rfl⟩
theorem fw_Mod_150 : Cond.fieldLink "CascadeBusModel" 150 (F_Mod 74).1 (F_Mod 74).2.1 (F_Mod 74).2.2.1 ∈ gw := gm6 (i := 24) (by decide +kernel) rfl
theorem fl_Mod_150 : FL "CascadeBusModel" 150 11 74 := ⟨_, _, _, rfl, i_Mod, by decide, fw_Mod_150⟩
theorem fp_Mod_150 : FP "CascadeBusModel" 150 11 74 (.array .int) true := ⟨_, _, _, _, rfl, i_Mod, by decide, fw_Mod_150, t_Mod_ok, n_Mod, by decide +kernel, rfl, fun _ => rfl⟩
theorem fw_Mod_453 : Cond.fieldLink "CascadeBusModel" 453 (F_Mod 75).1 (F_Mod 75).2.1 (F_Mod 75).2.2.1 ∈ gw := gm6 (i := 25) (by decide +kernel) rfl
theorem fl_Mod_453 : FL "CascadeBusModel" 453 11 75 := ⟨_, _, _, rfl, i_Mod, by decide, fw_Mod_453⟩
theorem fp_Mod_453 : FP "CascadeBusModel" 453 11 75 .int false := ⟨_, _, _, _, rfl, i_Mod, by decide, fw_Mod_453, t_Mod_ok, n_Mod, by decide +kernel, rfl, fun _ => rfl⟩
theorem li_Law_55 : LI "CascadeBusLaw" 55 M_Bus_init 0 := ⟨mh_Bus_init, (gm1 (i := 28) (by decide +kernel) rfl : Cond.methodLink "CascadeBusLaw" 55 M_Bus_init.1 ∈ gw), gm1 (i := 29) (by decide +kernel) rfl, rfl, rfl⟩
theorem li_Bus_22 : LIN "CascadeBus" 22 M_Plan_init 0 := ⟨mh_Plan_init, ⟨_, (gmn1 (i := 36) (by decide +kernel) rfl : Cond.methodLinkNest "CascadeBus" 22 M_Plan_init.1 "CascadeBus" ∈ nws)⟩, gm1 (i := 37) (by decide +kernel) rfl, rfl, rfl⟩
theorem li_Plan_64 : LIN "CascadeBus$Plan" 64 M_Links_init 0 := ⟨mh_Links_init, ⟨_, (gmn1 (i := 42) (by decide +kernel) rfl : Cond.methodLinkNest "CascadeBus$Plan" 64 M_Links_init.1 "CascadeBus" ∈ nws)⟩, gm1 (i := 43) (by decide +kernel) rfl, rfl, rfl⟩
theorem li_Plan_71 : LIN "CascadeBus$Plan" 71 M_Plants_init 0 := ⟨mh_Plants_init, ⟨_, (gmn1 (i := 78) (by decide +kernel) rfl : Cond.methodLinkNest "CascadeBus$Plan" 71 M_Plants_init.1 "CascadeBus" ∈ nws)⟩, gm1 (i := 79) (by decide +kernel) rfl, rfl, rfl⟩
theorem li_Plan_78 : LIN "CascadeBus$Plan" 78 M_Layout_init 0 := ⟨mh_Layout_init, ⟨_, (gmn1 (i := 101) (by decide +kernel) rfl : Cond.methodLinkNest "CascadeBus$Plan" 78 M_Layout_init.1 "CascadeBus" ∈ nws)⟩, gm1 (i := 102) (by decide +kernel) rfl, rfl, rfl⟩
theorem li_Bus_29 : LIN "CascadeBus" 29 M_Reader_init 0 := ⟨mh_Reader_init, ⟨_, (gmn2 (i := 15) (by decide +kernel) rfl : Cond.methodLinkNest "CascadeBus" 29 M_Reader_init.1 "CascadeBus" ∈ nws)⟩, gm2 (i := 16) (by decide +kernel) rfl, rfl, rfl⟩
theorem li_Reader_30 : LIN "CascadeBus$Reader" 30 M_Plan_init 0 := ⟨mh_Plan_init, ⟨_, (gmn2 (i := 20) (by decide +kernel) rfl : Cond.methodLinkNest "CascadeBus$Reader" 30 M_Plan_init.1 "CascadeBus" ∈ nws)⟩, gm1 (i := 37) (by decide +kernel) rfl, rfl, rfl⟩
theorem li_Bus_36 : LIN "CascadeBus" 36 M_Memory_init 0 := ⟨mh_Memory_init, ⟨_, (gmn2 (i := 58) (by decide +kernel) rfl : Cond.methodLinkNest "CascadeBus" 36 M_Memory_init.1 "CascadeBus" ∈ nws)⟩, gm2 (i := 59) (by decide +kernel) rfl, rfl, rfl⟩
theorem li_Memory_11 : LIN "CascadeBus$Memory" 11 M_State_init 0 := ⟨mh_State_init, ⟨_, (gmn2 (i := 64) (by decide +kernel) rfl : Cond.methodLinkNest "CascadeBus$Memory" 11 M_State_init.1 "CascadeBus" ∈ nws)⟩, gm2 (i := 65) (by decide +kernel) rfl, rfl, rfl⟩
theorem li_Memory_20 : LIN "CascadeBus$Memory" 20 M_History_init 0 := ⟨mh_History_init, ⟨_, (gmn2 (i := 76) (by decide +kernel) rfl : Cond.methodLinkNest "CascadeBus$Memory" 20 M_History_init.1 "CascadeBus" ∈ nws)⟩, gm2 (i := 77) (by decide +kernel) rfl, rfl, rfl⟩
theorem li_Memory_27 : LIN "CascadeBus$Memory" 27 M_Noted_init 0 := ⟨mh_Noted_init, ⟨_, (gmn2 (i := 95) (by decide +kernel) rfl : Cond.methodLinkNest "CascadeBus$Memory" 27 M_Noted_init.1 "CascadeBus" ∈ nws)⟩, gm2 (i := 96) (by decide +kernel) rfl, rfl, rfl⟩
theorem li_Bus_50 : LIN "CascadeBus" 50 M_State_init 0 := ⟨mh_State_init, ⟨_, (gmn2 (i := 131) (by decide +kernel) rfl : Cond.methodLinkNest "CascadeBus" 50 M_State_init.1 "CascadeBus" ∈ nws)⟩, gm2 (i := 65) (by decide +kernel) rfl, rfl, rfl⟩
theorem li_Bus_60 : LIN "CascadeBus" 60 M_Layout_init 0 := ⟨mh_Layout_init, ⟨_, (gmn2 (i := 133) (by decide +kernel) rfl : Cond.methodLinkNest "CascadeBus" 60 M_Layout_init.1 "CascadeBus" ∈ nws)⟩, gm1 (i := 102) (by decide +kernel) rfl, rfl, rfl⟩
theorem li_Bus_67 : LIN "CascadeBus" 67 M_Years_init 0 := ⟨mh_Years_init, ⟨_, (gmn2 (i := 136) (by decide +kernel) rfl : Cond.methodLinkNest "CascadeBus" 67 M_Years_init.1 "CascadeBus" ∈ nws)⟩, gm2 (i := 137) (by decide +kernel) rfl, rfl, rfl⟩
theorem li_Bus_79 : LV "CascadeBus" 79 M_State_startAnew 1 := ⟨mh_State_startAnew, (gm2 (i := 148) (by decide +kernel) rfl : Cond.methodLink "CascadeBus" 79 M_State_startAnew.1 ∈ gw), gm2 (i := 149) (by decide +kernel) rfl, gm2 (i := 150) (by decide +kernel) rfl⟩
theorem li_Law_59 : LV "CascadeBusLaw" 59 M_Bus_feed 5 := ⟨mh_Bus_feed, (gm2 (i := 192) (by decide +kernel) rfl : Cond.methodLink "CascadeBusLaw" 59 M_Bus_feed.1 ∈ gw), gm2 (i := 193) (by decide +kernel) rfl, gm2 (i := 194) (by decide +kernel) rfl⟩
theorem li_Bus_83 : LV "CascadeBus" 83 M_Bus_putBytes 1 := ⟨mh_Bus_putBytes, (gm2 (i := 196) (by decide +kernel) rfl : Cond.methodLink "CascadeBus" 83 M_Bus_putBytes.1 ∈ gw), gm2 (i := 198) (by decide +kernel) rfl, gmp (i := 0) (by decide +kernel) rfl⟩
theorem li_Law_74 : LV "CascadeBusLaw" 74 M_Bus_fault 0 := ⟨mh_Bus_fault, (gm2 (i := 200) (by decide +kernel) rfl : Cond.methodLink "CascadeBusLaw" 74 M_Bus_fault.1 ∈ gw), gm2 (i := 201) (by decide +kernel) rfl, gm2 (i := 202) (by decide +kernel) rfl⟩
theorem li_Law_91 : LV "CascadeBusLaw" 91 M_Bus_target 2 := ⟨mh_Bus_target, (gm2 (i := 204) (by decide +kernel) rfl : Cond.methodLink "CascadeBusLaw" 91 M_Bus_target.1 ∈ gw), gm2 (i := 205) (by decide +kernel) rfl, gm2 (i := 206) (by decide +kernel) rfl⟩
theorem li_Bus_207 : LV "CascadeBus" 207 M_Bus_isBlock 1 := ⟨mh_Bus_isBlock, (gm2 (i := 208) (by decide +kernel) rfl : Cond.methodLink "CascadeBus" 207 M_Bus_isBlock.1 ∈ gw), gm2 (i := 210) (by decide +kernel) rfl, gmp (i := 1) (by decide +kernel) rfl⟩
theorem li_Bus_211 : LV "CascadeBus" 211 M_State_canTell 3 := ⟨mh_State_canTell, (gm2 (i := 212) (by decide +kernel) rfl : Cond.methodLink "CascadeBus" 211 M_State_canTell.1 ∈ gw), gm2 (i := 213) (by decide +kernel) rfl, gm2 (i := 214) (by decide +kernel) rfl⟩
theorem li_Bus_215 : LV "CascadeBus" 215 M_Bus_refuseAct 0 := ⟨mh_Bus_refuseAct, (gm2 (i := 216) (by decide +kernel) rfl : Cond.methodLink "CascadeBus" 215 M_Bus_refuseAct.1 ∈ gw), gm2 (i := 218) (by decide +kernel) rfl, gmp (i := 2) (by decide +kernel) rfl⟩
theorem li_Bus_219 : LV "CascadeBus" 219 M_Bus_putCell 2 := ⟨mh_Bus_putCell, (gm2 (i := 220) (by decide +kernel) rfl : Cond.methodLink "CascadeBus" 219 M_Bus_putCell.1 ∈ gw), gm2 (i := 222) (by decide +kernel) rfl, gmp (i := 3) (by decide +kernel) rfl⟩
theorem li_Bus_227 : LV "CascadeBus" 227 M_Memory_keepAct 0 := ⟨mh_Memory_keepAct, (gm2 (i := 224) (by decide +kernel) rfl : Cond.methodLink "CascadeBus" 227 M_Memory_keepAct.1 ∈ gw), gm2 (i := 225) (by decide +kernel) rfl, gm2 (i := 226) (by decide +kernel) rfl⟩
theorem li_Memory_36 : LV "CascadeBus$Memory" 36 M_History_keep 1 := ⟨mh_History_keep, (gm2 (i := 228) (by decide +kernel) rfl : Cond.methodLink "CascadeBus$Memory" 36 M_History_keep.1 ∈ gw), gm2 (i := 229) (by decide +kernel) rfl, gm2 (i := 230) (by decide +kernel) rfl⟩
theorem li_History_24 : LV "CascadeBus$History" 24 M_History_put 2 := ⟨mh_History_put, (gm2 (i := 232) (by decide +kernel) rfl : Cond.methodLink "CascadeBus$History" 24 M_History_put.1 ∈ gw), gm2 (i := 234) (by decide +kernel) rfl, gmp (i := 4) (by decide +kernel) rfl⟩
theorem li_History_32 : LIN "CascadeBus$History" 32 M_State_init 0 := ⟨mh_State_init, ⟨_, (gmn2 (i := 236) (by decide +kernel) rfl : Cond.methodLinkNest "CascadeBus$History" 32 M_State_init.1 "CascadeBus" ∈ nws)⟩, gm2 (i := 65) (by decide +kernel) rfl, rfl, rfl⟩
theorem li_History_28 : LV "CascadeBus$History" 28 M_State_copyFrom 1 := ⟨mh_State_copyFrom, (gm2 (i := 237) (by decide +kernel) rfl : Cond.methodLink "CascadeBus$History" 28 M_State_copyFrom.1 ∈ gw), gm2 (i := 238) (by decide +kernel) rfl, gm2 (i := 239) (by decide +kernel) rfl⟩
theorem li_Law_95 : LV "CascadeBusLaw" 95 M_Bus_hand 2 := ⟨mh_Bus_hand, (gm3 (i := 4) (by decide +kernel) rfl : Cond.methodLink "CascadeBusLaw" 95 M_Bus_hand.1 ∈ gw), gm3 (i := 5) (by decide +kernel) rfl, gm3 (i := 6) (by decide +kernel) rfl⟩
theorem li_Bus_223 : LV "CascadeBus" 223 M_State_handCell 2 := ⟨mh_State_handCell, (gm3 (i := 8) (by decide +kernel) rfl : Cond.methodLink "CascadeBus" 223 M_State_handCell.1 ∈ gw), gm3 (i := 9) (by decide +kernel) rfl, gm3 (i := 10) (by decide +kernel) rfl⟩
theorem li_Law_99 : LV "CascadeBusLaw" 99 M_Bus_power 2 := ⟨mh_Bus_power, (gm3 (i := 12) (by decide +kernel) rfl : Cond.methodLink "CascadeBusLaw" 99 M_Bus_power.1 ∈ gw), gm3 (i := 13) (by decide +kernel) rfl, gm3 (i := 14) (by decide +kernel) rfl⟩
theorem li_Bus_230 : LV "CascadeBus" 230 M_Bus_isDevice 1 := ⟨mh_Bus_isDevice, (gm3 (i := 16) (by decide +kernel) rfl : Cond.methodLink "CascadeBus" 230 M_Bus_isDevice.1 ∈ gw), gm3 (i := 18) (by decide +kernel) rfl, gmp (i := 5) (by decide +kernel) rfl⟩
theorem li_Bus_233 : LV "CascadeBus" 233 M_State_isOn 1 := ⟨mh_State_isOn, (gm3 (i := 20) (by decide +kernel) rfl : Cond.methodLink "CascadeBus" 233 M_State_isOn.1 ∈ gw), gm3 (i := 21) (by decide +kernel) rfl, gm3 (i := 22) (by decide +kernel) rfl⟩
theorem li_State_39 : LSN "CascadeBus$State" 39 M_Bus_hasBit 2 := ⟨mh_Bus_hasBit, ⟨_, (gmn3 (i := 24) (by decide +kernel) rfl : Cond.methodLinkNest "CascadeBus$State" 39 M_Bus_hasBit.1 "CascadeBus" ∈ nws)⟩, gm3 (i := 25) (by decide +kernel) rfl⟩
theorem li_Bus_239 : LV "CascadeBus" 239 M_State_switchDevice 3 := ⟨mh_State_switchDevice, (gm3 (i := 27) (by decide +kernel) rfl : Cond.methodLink "CascadeBus" 239 M_State_switchDevice.1 ∈ gw), gm3 (i := 28) (by decide +kernel) rfl, gm3 (i := 29) (by decide +kernel) rfl⟩
theorem li_Law_104 : LV "CascadeBusLaw" 104 M_Bus_broken 2 := ⟨mh_Bus_broken, (gm3 (i := 31) (by decide +kernel) rfl : Cond.methodLink "CascadeBusLaw" 104 M_Bus_broken.1 ∈ gw), gm3 (i := 32) (by decide +kernel) rfl, gm3 (i := 33) (by decide +kernel) rfl⟩
theorem li_Bus_243 : LV "CascadeBus" 243 M_State_isBroken 1 := ⟨mh_State_isBroken, (gm3 (i := 35) (by decide +kernel) rfl : Cond.methodLink "CascadeBus" 243 M_State_isBroken.1 ∈ gw), gm3 (i := 36) (by decide +kernel) rfl, gm3 (i := 37) (by decide +kernel) rfl⟩
theorem li_Bus_246 : LV "CascadeBus" 246 M_State_turnSensor 1 := ⟨mh_State_turnSensor, (gm3 (i := 39) (by decide +kernel) rfl : Cond.methodLink "CascadeBus" 246 M_State_turnSensor.1 ∈ gw), gm3 (i := 40) (by decide +kernel) rfl, gm3 (i := 41) (by decide +kernel) rfl⟩
theorem li_Law_108 : LV "CascadeBusLaw" 108 M_Bus_cycles 1 := ⟨mh_Bus_cycles, (gm3 (i := 43) (by decide +kernel) rfl : Cond.methodLink "CascadeBusLaw" 108 M_Bus_cycles.1 ∈ gw), gm3 (i := 44) (by decide +kernel) rfl, gm3 (i := 45) (by decide +kernel) rfl⟩
theorem li_Bus_249 : LV "CascadeBus" 249 M_Bus_passCycles 2 := ⟨mh_Bus_passCycles, (gm3 (i := 47) (by decide +kernel) rfl : Cond.methodLink "CascadeBus" 249 M_Bus_passCycles.1 ∈ gw), gm3 (i := 49) (by decide +kernel) rfl, gmp (i := 6) (by decide +kernel) rfl⟩
theorem li_Bus_269 : LSt "CascadeBus" 269 M_Cycle_goBy 2 := ⟨mh_Cycle_goBy, (gm3 (i := 51) (by decide +kernel) rfl : Cond.methodLink "CascadeBus" 269 M_Cycle_goBy.1 ∈ gw), gm3 (i := 52) (by decide +kernel) rfl⟩
theorem li_Cycle_9 : LSt "CascadeBus$Cycle" 9 M_Cycle_moveSensors 2 := ⟨mh_Cycle_moveSensors, (gm3 (i := 54) (by decide +kernel) rfl : Cond.methodLink "CascadeBus$Cycle" 9 M_Cycle_moveSensors.1 ∈ gw), gm3 (i := 55) (by decide +kernel) rfl⟩
theorem li_Cycle_78 : LSt "CascadeBus$Cycle" 78 M_Cycle_outOf 3 := ⟨mh_Cycle_outOf, (gm3 (i := 57) (by decide +kernel) rfl : Cond.methodLink "CascadeBus$Cycle" 78 M_Cycle_outOf.1 ∈ gw), gm3 (i := 58) (by decide +kernel) rfl⟩
theorem li_Cycle_85 : LSt "CascadeBus$Cycle" 85 M_Cycle_within 1 := ⟨mh_Cycle_within, (gm3 (i := 60) (by decide +kernel) rfl : Cond.methodLink "CascadeBus$Cycle" 85 M_Cycle_within.1 ∈ gw), gm3 (i := 61) (by decide +kernel) rfl⟩
theorem li_Cycle_112 : LSt "CascadeBus$Cycle" 112 M_JMath_min 2 := ⟨mh_JMath_min, (gm3 (i := 63) (by decide +kernel) rfl : Cond.methodLink "CascadeBus$Cycle" 112 M_JMath_min.1 ∈ gw), gm3 (i := 64) (by decide +kernel) rfl⟩
theorem li_Cycle_155 : LSt "CascadeBus$Cycle" 155 M_JMath_max 2 := ⟨mh_JMath_max, (gm3 (i := 66) (by decide +kernel) rfl : Cond.methodLink "CascadeBus$Cycle" 155 M_JMath_max.1 ∈ gw), gm3 (i := 67) (by decide +kernel) rfl⟩
theorem li_Cycle_15 : LSt "CascadeBus$Cycle" 15 M_Cycle_seekScheduler 2 := ⟨mh_Cycle_seekScheduler, (gm3 (i := 69) (by decide +kernel) rfl : Cond.methodLink "CascadeBus$Cycle" 15 M_Cycle_seekScheduler.1 ∈ gw), gm3 (i := 70) (by decide +kernel) rfl⟩
theorem li_Cycle_44 : LSN "CascadeBus$Cycle" 44 M_Bus_hasBit 2 := ⟨mh_Bus_hasBit, ⟨_, (gmn3 (i := 72) (by decide +kernel) rfl : Cond.methodLinkNest "CascadeBus$Cycle" 44 M_Bus_hasBit.1 "CascadeBus" ∈ nws)⟩, gm3 (i := 25) (by decide +kernel) rfl⟩
theorem li_Cycle_37 : LSt "CascadeBus$Cycle" 37 M_Cycle_bringLink 3 := ⟨mh_Cycle_bringLink, (gm3 (i := 73) (by decide +kernel) rfl : Cond.methodLink "CascadeBus$Cycle" 37 M_Cycle_bringLink.1 ∈ gw), gm3 (i := 74) (by decide +kernel) rfl⟩
theorem li_Cycle_104 : LSt "CascadeBus$Cycle" 104 M_Cycle_carries 3 := ⟨mh_Cycle_carries, (gm3 (i := 76) (by decide +kernel) rfl : Cond.methodLink "CascadeBus$Cycle" 104 M_Cycle_carries.1 ∈ gw), gm3 (i := 77) (by decide +kernel) rfl⟩
theorem li_Cycle_108 : LSt "CascadeBus$Cycle" 108 M_Cycle_growOlder 2 := ⟨mh_Cycle_growOlder, (gm3 (i := 79) (by decide +kernel) rfl : Cond.methodLink "CascadeBus$Cycle" 108 M_Cycle_growOlder.1 ∈ gw), gm3 (i := 80) (by decide +kernel) rfl⟩
theorem li_Cycle_48 : LSt "CascadeBus$Cycle" 48 M_Cycle_runBlock 3 := ⟨mh_Cycle_runBlock, (gm3 (i := 82) (by decide +kernel) rfl : Cond.methodLink "CascadeBus$Cycle" 48 M_Cycle_runBlock.1 ∈ gw), gm3 (i := 83) (by decide +kernel) rfl⟩
theorem li_Cycle_118 : LSt "CascadeBus$Cycle" 118 M_Cycle_actualOf 3 := ⟨mh_Cycle_actualOf, (gm3 (i := 85) (by decide +kernel) rfl : Cond.methodLink "CascadeBus$Cycle" 118 M_Cycle_actualOf.1 ∈ gw), gm3 (i := 86) (by decide +kernel) rfl⟩
theorem li_Cycle_128 : LV "CascadeBus$Cycle" 128 M_Plan_cameAt 2 := ⟨mh_Plan_cameAt, (gm3 (i := 88) (by decide +kernel) rfl : Cond.methodLink "CascadeBus$Cycle" 128 M_Plan_cameAt.1 ∈ gw), gm3 (i := 89) (by decide +kernel) rfl, gm3 (i := 90) (by decide +kernel) rfl⟩
theorem li_Cycle_141 : LSt "CascadeBus$Cycle" 141 M_Cycle_fall 4 := ⟨mh_Cycle_fall, (gm3 (i := 92) (by decide +kernel) rfl : Cond.methodLink "CascadeBus$Cycle" 141 M_Cycle_fall.1 ∈ gw), gm3 (i := 93) (by decide +kernel) rfl⟩
theorem li_Cycle_121 : LSt "CascadeBus$Cycle" 121 M_Cycle_runInput 3 := ⟨mh_Cycle_runInput, (gm3 (i := 95) (by decide +kernel) rfl : Cond.methodLink "CascadeBus$Cycle" 121 M_Cycle_runInput.1 ∈ gw), gm3 (i := 96) (by decide +kernel) rfl⟩
theorem li_Cycle_125 : LSt "CascadeBus$Cycle" 125 M_Cycle_runPid 3 := ⟨mh_Cycle_runPid, (gm3 (i := 98) (by decide +kernel) rfl : Cond.methodLink "CascadeBus$Cycle" 125 M_Cycle_runPid.1 ∈ gw), gm3 (i := 99) (by decide +kernel) rfl⟩
theorem li_Cycle_134 : LSt "CascadeBus$Cycle" 134 M_Cycle_runOutput 4 := ⟨mh_Cycle_runOutput, (gm3 (i := 101) (by decide +kernel) rfl : Cond.methodLink "CascadeBus$Cycle" 134 M_Cycle_runOutput.1 ∈ gw), gm3 (i := 102) (by decide +kernel) rfl⟩
theorem li_Cycle_138 : LSt "CascadeBus$Cycle" 138 M_Cycle_runPick 3 := ⟨mh_Cycle_runPick, (gm3 (i := 104) (by decide +kernel) rfl : Cond.methodLink "CascadeBus$Cycle" 138 M_Cycle_runPick.1 ∈ gw), gm3 (i := 105) (by decide +kernel) rfl⟩
theorem li_Cycle_63 : LSt "CascadeBus$Cycle" 63 M_Cycle_bringBack 3 := ⟨mh_Cycle_bringBack, (gm3 (i := 107) (by decide +kernel) rfl : Cond.methodLink "CascadeBus$Cycle" 63 M_Cycle_bringBack.1 ∈ gw), gm3 (i := 108) (by decide +kernel) rfl⟩
theorem li_Law_112 : LV "CascadeBusLaw" 112 M_Bus_undo 0 := ⟨mh_Bus_undo, (gm3 (i := 110) (by decide +kernel) rfl : Cond.methodLink "CascadeBusLaw" 112 M_Bus_undo.1 ∈ gw), gm3 (i := 111) (by decide +kernel) rfl, gm3 (i := 112) (by decide +kernel) rfl⟩
theorem li_Bus_253 : LV "CascadeBus" 253 M_History_takeBack 1 := ⟨mh_History_takeBack, (gm3 (i := 114) (by decide +kernel) rfl : Cond.methodLink "CascadeBus" 253 M_History_takeBack.1 ∈ gw), gm3 (i := 115) (by decide +kernel) rfl, gm3 (i := 116) (by decide +kernel) rfl⟩
theorem li_Law_129 : LV "CascadeBusLaw" 129 M_Bus_toRide 0 := ⟨mh_Bus_toRide, (gm3 (i := 118) (by decide +kernel) rfl : Cond.methodLink "CascadeBusLaw" 129 M_Bus_toRide.1 ∈ gw), gm3 (i := 119) (by decide +kernel) rfl, gm3 (i := 120) (by decide +kernel) rfl⟩
theorem li_Bus_281 : LV "CascadeBus" 281 M_Bus_unlikeWithout 3 := ⟨mh_Bus_unlikeWithout, (gm3 (i := 122) (by decide +kernel) rfl : Cond.methodLink "CascadeBus" 281 M_Bus_unlikeWithout.1 ∈ gw), gm3 (i := 124) (by decide +kernel) rfl, gmp (i := 7) (by decide +kernel) rfl⟩
theorem li_Bus_265 : LV "CascadeBus" 265 M_State_copyFrom 1 := ⟨mh_State_copyFrom, (gm3 (i := 126) (by decide +kernel) rfl : Cond.methodLink "CascadeBus" 265 M_State_copyFrom.1 ∈ gw), gm2 (i := 238) (by decide +kernel) rfl, gm2 (i := 239) (by decide +kernel) rfl⟩
theorem li_Law_139 : LV "CascadeBusLaw" 139 M_Bus_note 3 := ⟨mh_Bus_note, (gm3 (i := 127) (by decide +kernel) rfl : Cond.methodLink "CascadeBusLaw" 139 M_Bus_note.1 ∈ gw), gm3 (i := 128) (by decide +kernel) rfl, gm3 (i := 129) (by decide +kernel) rfl⟩
theorem li_Bus_292 : LV "CascadeBus" 292 M_Noted_add 3 := ⟨mh_Noted_add, (gm3 (i := 131) (by decide +kernel) rfl : Cond.methodLink "CascadeBus" 292 M_Noted_add.1 ∈ gw), gm3 (i := 132) (by decide +kernel) rfl, gm3 (i := 133) (by decide +kernel) rfl⟩
theorem li_Law_143 : LV "CascadeBusLaw" 143 M_Bus_fits 0 := ⟨mh_Bus_fits, (gm3 (i := 135) (by decide +kernel) rfl : Cond.methodLink "CascadeBusLaw" 143 M_Bus_fits.1 ∈ gw), gm3 (i := 136) (by decide +kernel) rfl, gm3 (i := 137) (by decide +kernel) rfl⟩
theorem li_Bus_295 : LV "CascadeBus" 295 M_Bus_startTrialBy 1 := ⟨mh_Bus_startTrialBy, (gm3 (i := 139) (by decide +kernel) rfl : Cond.methodLink "CascadeBus" 295 M_Bus_startTrialBy.1 ∈ gw), gm3 (i := 141) (by decide +kernel) rfl, gmp (i := 8) (by decide +kernel) rfl⟩
theorem li_Bus_302 : LV "CascadeBus" 302 M_Plan_hasInputOf 1 := ⟨mh_Plan_hasInputOf, (gm3 (i := 143) (by decide +kernel) rfl : Cond.methodLink "CascadeBus" 302 M_Plan_hasInputOf.1 ∈ gw), gm3 (i := 144) (by decide +kernel) rfl, gm3 (i := 145) (by decide +kernel) rfl⟩
theorem li_Bus_298 : LV "CascadeBus" 298 M_Bus_trialIsAsNoted 0 := ⟨mh_Bus_trialIsAsNoted, (gm3 (i := 147) (by decide +kernel) rfl : Cond.methodLink "CascadeBus" 298 M_Bus_trialIsAsNoted.1 ∈ gw), gm3 (i := 149) (by decide +kernel) rfl, gmp (i := 9) (by decide +kernel) rfl⟩
theorem li_Bus_305 : LV "CascadeBus" 305 M_Noted_furthest 0 := ⟨mh_Noted_furthest, (gm3 (i := 151) (by decide +kernel) rfl : Cond.methodLink "CascadeBus" 305 M_Noted_furthest.1 ∈ gw), gm3 (i := 152) (by decide +kernel) rfl, gm3 (i := 153) (by decide +kernel) rfl⟩
theorem li_Noted_25 : LSt "CascadeBus$Noted" 25 M_JMath_max 2 := ⟨mh_JMath_max, (gm3 (i := 155) (by decide +kernel) rfl : Cond.methodLink "CascadeBus$Noted" 25 M_JMath_max.1 ∈ gw), gm3 (i := 67) (by decide +kernel) rfl⟩
theorem li_Bus_308 : LV "CascadeBus" 308 M_Noted_isSo 2 := ⟨mh_Noted_isSo, (gm3 (i := 156) (by decide +kernel) rfl : Cond.methodLink "CascadeBus" 308 M_Noted_isSo.1 ∈ gw), gm3 (i := 157) (by decide +kernel) rfl, gm3 (i := 158) (by decide +kernel) rfl⟩
theorem li_Law_150 : LV "CascadeBusLaw" 150 M_Bus_forget 0 := ⟨mh_Bus_forget, (gm3 (i := 160) (by decide +kernel) rfl : Cond.methodLink "CascadeBusLaw" 150 M_Bus_forget.1 ∈ gw), gm3 (i := 161) (by decide +kernel) rfl, gm3 (i := 162) (by decide +kernel) rfl⟩
theorem li_Bus_124 : LV "CascadeBus" 124 M_Noted_clear 0 := ⟨mh_Noted_clear, (gm3 (i := 164) (by decide +kernel) rfl : Cond.methodLink "CascadeBus" 124 M_Noted_clear.1 ∈ gw), gm3 (i := 165) (by decide +kernel) rfl, gm3 (i := 166) (by decide +kernel) rfl⟩
theorem li_Law_157 : LV "CascadeBusLaw" 157 M_Bus_image 0 := ⟨mh_Bus_image, (gm3 (i := 168) (by decide +kernel) rfl : Cond.methodLink "CascadeBusLaw" 157 M_Bus_image.1 ∈ gw), gm3 (i := 169) (by decide +kernel) rfl, gm3 (i := 170) (by decide +kernel) rfl⟩
theorem li_Bus_337 : LV "CascadeBus" 337 M_Memory_copyFrom 1 := ⟨mh_Memory_copyFrom, (gm3 (i := 172) (by decide +kernel) rfl : Cond.methodLink "CascadeBus" 337 M_Memory_copyFrom.1 ∈ gw), gm3 (i := 173) (by decide +kernel) rfl, gm3 (i := 174) (by decide +kernel) rfl⟩
theorem li_Memory_40 : LV "CascadeBus$Memory" 40 M_State_copyFrom 1 := ⟨mh_State_copyFrom, (gm3 (i := 176) (by decide +kernel) rfl : Cond.methodLink "CascadeBus$Memory" 40 M_State_copyFrom.1 ∈ gw), gm2 (i := 238) (by decide +kernel) rfl, gm2 (i := 239) (by decide +kernel) rfl⟩
theorem li_Memory_43 : LV "CascadeBus$Memory" 43 M_History_copyFrom 1 := ⟨mh_History_copyFrom, (gm3 (i := 177) (by decide +kernel) rfl : Cond.methodLink "CascadeBus$Memory" 43 M_History_copyFrom.1 ∈ gw), gm3 (i := 178) (by decide +kernel) rfl, gm3 (i := 179) (by decide +kernel) rfl⟩
theorem li_Memory_46 : LV "CascadeBus$Memory" 46 M_Noted_copyFrom 1 := ⟨mh_Noted_copyFrom, (gm3 (i := 181) (by decide +kernel) rfl : Cond.methodLink "CascadeBus$Memory" 46 M_Noted_copyFrom.1 ∈ gw), gm3 (i := 182) (by decide +kernel) rfl, gm3 (i := 183) (by decide +kernel) rfl⟩
theorem li_Law_161 : LV "CascadeBusLaw" 161 M_Bus_restore 0 := ⟨mh_Bus_restore, (gm3 (i := 185) (by decide +kernel) rfl : Cond.methodLink "CascadeBusLaw" 161 M_Bus_restore.1 ∈ gw), gm3 (i := 186) (by decide +kernel) rfl, gm3 (i := 187) (by decide +kernel) rfl⟩
theorem li_Law_7 : LV "CascadeBusLaw" 7 M_Bus_bus 1 := ⟨mh_Bus_bus, (gm3 (i := 193) (by decide +kernel) rfl : Cond.methodLink "CascadeBusLaw" 7 M_Bus_bus.1 ∈ gw), gm3 (i := 194) (by decide +kernel) rfl, gm3 (i := 195) (by decide +kernel) rfl⟩
theorem li_Bus_90 : LV "CascadeBus" 90 M_Reader_readText 2 := ⟨mh_Reader_readText, (gm4 (i := 19) (by decide +kernel) rfl : Cond.methodLink "CascadeBus" 90 M_Reader_readText.1 ∈ gw), gm4 (i := 20) (by decide +kernel) rfl, gm4 (i := 21) (by decide +kernel) rfl⟩
theorem li_Reader_51 : LSt "CascadeBus$Reader" 51 M_JMath_min 2 := ⟨mh_JMath_min, (gm4 (i := 23) (by decide +kernel) rfl : Cond.methodLink "CascadeBus$Reader" 51 M_JMath_min.1 ∈ gw), gm3 (i := 64) (by decide +kernel) rfl⟩
theorem li_Reader_57 : LV "CascadeBus$Reader" 57 M_Plan_clear 0 := ⟨mh_Plan_clear, (gm4 (i := 24) (by decide +kernel) rfl : Cond.methodLink "CascadeBus$Reader" 57 M_Plan_clear.1 ∈ gw), gm4 (i := 25) (by decide +kernel) rfl, gm4 (i := 26) (by decide +kernel) rfl⟩
theorem li_Plan_86 : LV "CascadeBus$Plan" 86 M_Plants_clear 0 := ⟨mh_Plants_clear, (gm4 (i := 28) (by decide +kernel) rfl : Cond.methodLink "CascadeBus$Plan" 86 M_Plants_clear.1 ∈ gw), gm4 (i := 29) (by decide +kernel) rfl, gm4 (i := 30) (by decide +kernel) rfl⟩
theorem li_Reader_60 : LV "CascadeBus$Reader" 60 M_Reader_nextToken 0 := ⟨mh_Reader_nextToken, (gm4 (i := 32) (by decide +kernel) rfl : Cond.methodLink "CascadeBus$Reader" 60 M_Reader_nextToken.1 ∈ gw), gm4 (i := 34) (by decide +kernel) rfl, gmp (i := 11) (by decide +kernel) rfl⟩
theorem li_Reader_220 : LV "CascadeBus$Reader" 220 M_Reader_takeRow 2 := ⟨mh_Reader_takeRow, (gm4 (i := 36) (by decide +kernel) rfl : Cond.methodLink "CascadeBus$Reader" 220 M_Reader_takeRow.1 ∈ gw), gm4 (i := 38) (by decide +kernel) rfl, gmp (i := 12) (by decide +kernel) rfl⟩
theorem li_Reader_63 : LV "CascadeBus$Reader" 63 M_Reader_readClause 0 := ⟨mh_Reader_readClause, (gm4 (i := 40) (by decide +kernel) rfl : Cond.methodLink "CascadeBus$Reader" 63 M_Reader_readClause.1 ∈ gw), gm4 (i := 42) (by decide +kernel) rfl, gmp (i := 13) (by decide +kernel) rfl⟩
theorem li_Reader_68 : LV "CascadeBus$Reader" 68 M_Reader_isWord 1 := ⟨mh_Reader_isWord, (gm4 (i := 45) (by decide +kernel) rfl : Cond.methodLink "CascadeBus$Reader" 68 M_Reader_isWord.1 ∈ gw), gm4 (i := 47) (by decide +kernel) rfl, gmp (i := 14) (by decide +kernel) rfl⟩
theorem li_Reader_224 : LV "CascadeBus$Reader" 224 M_JString_length 0 := ⟨mh_JString_length, (gm4 (i := 49) (by decide +kernel) rfl : Cond.methodLink "CascadeBus$Reader" 224 M_JString_length.1 ∈ gw), gm4 (i := 50) (by decide +kernel) rfl, gm4 (i := 51) (by decide +kernel) rfl⟩
theorem li_JString_335 : LV "java/lang/String" 335 M_JString_coder 0 := ⟨mh_JString_coder, (gm4 (i := 53) (by decide +kernel) rfl : Cond.methodLink "java/lang/String" 335 M_JString_coder.1 ∈ gw), gm4 (i := 54) (by decide +kernel) rfl, gm4 (i := 55) (by decide +kernel) rfl⟩
theorem li_Reader_228 : LV "CascadeBus$Reader" 228 M_JString_charAt 1 := ⟨mh_JString_charAt, (gm4 (i := 59) (by decide +kernel) rfl : Cond.methodLink "CascadeBus$Reader" 228 M_JString_charAt.1 ∈ gw), gm4 (i := 60) (by decide +kernel) rfl, gm4 (i := 61) (by decide +kernel) rfl⟩
theorem li_JString_492 : LV "java/lang/String" 492 M_JString_isLatin1 0 := ⟨mh_JString_isLatin1, (gm4 (i := 63) (by decide +kernel) rfl : Cond.methodLink "java/lang/String" 492 M_JString_isLatin1.1 ∈ gw), gm4 (i := 64) (by decide +kernel) rfl, gm4 (i := 65) (by decide +kernel) rfl⟩
theorem li_JString_495 : LSt "java/lang/String" 495 M_JLatin_charAt 2 := ⟨mh_JLatin_charAt, (gm4 (i := 67) (by decide +kernel) rfl : Cond.methodLink "java/lang/String" 495 M_JLatin_charAt.1 ∈ gw), gm4 (i := 68) (by decide +kernel) rfl⟩
theorem li_JLatin_9 : LSt "java/lang/StringLatin1" 9 M_JString_checkIndex 2 := ⟨mh_JString_checkIndex, (gm4 (i := 70) (by decide +kernel) rfl : Cond.methodLink "java/lang/StringLatin1" 9 M_JString_checkIndex.1 ∈ gw), gm4 (i := 71) (by decide +kernel) rfl⟩
theorem li_JString_1059 : LSt "java/lang/String" 1059 M_JPre_checkIndex 3 := ⟨mh_JPre_checkIndex, (gm4 (i := 75) (by decide +kernel) rfl : Cond.methodLink "java/lang/String" 1059 M_JPre_checkIndex.1 ∈ gw), gm4 (i := 76) (by decide +kernel) rfl⟩
theorem li_JString_498 : LSt "java/lang/String" 498 M_JUtf_charAt 2 := ⟨mh_JUtf_charAt, (gm4 (i := 78) (by decide +kernel) rfl : Cond.methodLink "java/lang/String" 498 M_JUtf_charAt.1 ∈ gw), gm4 (i := 79) (by decide +kernel) rfl⟩
theorem li_JUtf_67 : LSt "java/lang/StringUTF16" 67 M_JUtf_checkIndex 2 := ⟨mh_JUtf_checkIndex, (gm4 (i := 81) (by decide +kernel) rfl : Cond.methodLink "java/lang/StringUTF16" 67 M_JUtf_checkIndex.1 ∈ gw), gm4 (i := 82) (by decide +kernel) rfl⟩
theorem li_JUtf_48 : LSt "java/lang/StringUTF16" 48 M_JUtf_length 1 := ⟨mh_JUtf_length, (gm4 (i := 84) (by decide +kernel) rfl : Cond.methodLink "java/lang/StringUTF16" 48 M_JUtf_length.1 ∈ gw), gm4 (i := 85) (by decide +kernel) rfl⟩
theorem li_JUtf_414 : LSt "java/lang/StringUTF16" 414 M_JString_checkIndex 2 := ⟨mh_JString_checkIndex, (gm4 (i := 87) (by decide +kernel) rfl : Cond.methodLink "java/lang/StringUTF16" 414 M_JString_checkIndex.1 ∈ gw), gm4 (i := 71) (by decide +kernel) rfl⟩
theorem li_JUtf_71 : LSt "java/lang/StringUTF16" 71 M_JUtf_getChar 2 := ⟨mh_JUtf_getChar, (gm4 (i := 88) (by decide +kernel) rfl : Cond.methodLink "java/lang/StringUTF16" 71 M_JUtf_getChar.1 ∈ gw), gm4 (i := 89) (by decide +kernel) rfl⟩
theorem li_Reader_72 : LV "CascadeBus$Reader" 72 M_Reader_readDevices 0 := ⟨mh_Reader_readDevices, (gm4 (i := 97) (by decide +kernel) rfl : Cond.methodLink "CascadeBus$Reader" 72 M_Reader_readDevices.1 ∈ gw), gm4 (i := 99) (by decide +kernel) rfl, gmp (i := 15) (by decide +kernel) rfl⟩
theorem li_Reader_100 : LV "CascadeBus$Reader" 100 M_Reader_fail 1 := ⟨mh_Reader_fail, (gm4 (i := 101) (by decide +kernel) rfl : Cond.methodLink "CascadeBus$Reader" 100 M_Reader_fail.1 ∈ gw), gm4 (i := 103) (by decide +kernel) rfl, gmp (i := 16) (by decide +kernel) rfl⟩
theorem li_Reader_104 : LV "CascadeBus$Reader" 104 M_Reader_readNumber 2 := ⟨mh_Reader_readNumber, (gm4 (i := 105) (by decide +kernel) rfl : Cond.methodLink "CascadeBus$Reader" 104 M_Reader_readNumber.1 ∈ gw), gm4 (i := 107) (by decide +kernel) rfl, gmp (i := 17) (by decide +kernel) rfl⟩
theorem li_Reader_217 : LV "CascadeBus$Reader" 217 M_Reader_numberOfToken 0 := ⟨mh_Reader_numberOfToken, (gm4 (i := 109) (by decide +kernel) rfl : Cond.methodLink "CascadeBus$Reader" 217 M_Reader_numberOfToken.1 ∈ gw), gm4 (i := 111) (by decide +kernel) rfl, gmp (i := 18) (by decide +kernel) rfl⟩
theorem li_Reader_77 : LV "CascadeBus$Reader" 77 M_Reader_readBlock 0 := ⟨mh_Reader_readBlock, (gm4 (i := 114) (by decide +kernel) rfl : Cond.methodLink "CascadeBus$Reader" 77 M_Reader_readBlock.1 ∈ gw), gm4 (i := 116) (by decide +kernel) rfl, gmp (i := 19) (by decide +kernel) rfl⟩
theorem li_Reader_132 : LV "CascadeBus$Reader" 132 M_Plan_addBlock 2 := ⟨mh_Plan_addBlock, (gm4 (i := 118) (by decide +kernel) rfl : Cond.methodLink "CascadeBus$Reader" 132 M_Plan_addBlock.1 ∈ gw), gm4 (i := 119) (by decide +kernel) rfl, gm4 (i := 120) (by decide +kernel) rfl⟩
theorem li_Reader_145 : LV "CascadeBus$Reader" 145 M_Reader_readPid 1 := ⟨mh_Reader_readPid, (gm4 (i := 124) (by decide +kernel) rfl : Cond.methodLink "CascadeBus$Reader" 145 M_Reader_readPid.1 ∈ gw), gm4 (i := 126) (by decide +kernel) rfl, gmp (i := 20) (by decide +kernel) rfl⟩
theorem li_Reader_162 : LV "CascadeBus$Reader" 162 M_Reader_readChoice 2 := ⟨mh_Reader_readChoice, (gm4 (i := 130) (by decide +kernel) rfl : Cond.methodLink "CascadeBus$Reader" 162 M_Reader_readChoice.1 ∈ gw), gm4 (i := 132) (by decide +kernel) rfl, gmp (i := 21) (by decide +kernel) rfl⟩
theorem li_Reader_82 : LV "CascadeBus$Reader" 82 M_Reader_readLink 0 := ⟨mh_Reader_readLink, (gm4 (i := 141) (by decide +kernel) rfl : Cond.methodLink "CascadeBus$Reader" 82 M_Reader_readLink.1 ∈ gw), gm4 (i := 143) (by decide +kernel) rfl, gmp (i := 22) (by decide +kernel) rfl⟩
theorem li_Reader_192 : LV "CascadeBus$Reader" 192 M_Reader_readBlockNumber 0 := ⟨mh_Reader_readBlockNumber, (gm4 (i := 145) (by decide +kernel) rfl : Cond.methodLink "CascadeBus$Reader" 192 M_Reader_readBlockNumber.1 ∈ gw), gm4 (i := 147) (by decide +kernel) rfl, gmp (i := 23) (by decide +kernel) rfl⟩
theorem li_Reader_202 : LV "CascadeBus$Reader" 202 M_Plan_suits 3 := ⟨mh_Plan_suits, (gm4 (i := 152) (by decide +kernel) rfl : Cond.methodLink "CascadeBus$Reader" 202 M_Plan_suits.1 ∈ gw), gm4 (i := 153) (by decide +kernel) rfl, gm4 (i := 154) (by decide +kernel) rfl⟩
theorem li_Reader_206 : LV "CascadeBus$Reader" 206 M_Plan_hasLinked 3 := ⟨mh_Plan_hasLinked, (gm4 (i := 156) (by decide +kernel) rfl : Cond.methodLink "CascadeBus$Reader" 206 M_Plan_hasLinked.1 ∈ gw), gm4 (i := 157) (by decide +kernel) rfl, gm4 (i := 158) (by decide +kernel) rfl⟩
theorem li_Reader_209 : LV "CascadeBus$Reader" 209 M_Links_leads 2 := ⟨mh_Links_leads, (gm4 (i := 160) (by decide +kernel) rfl : Cond.methodLink "CascadeBus$Reader" 209 M_Links_leads.1 ∈ gw), gm4 (i := 161) (by decide +kernel) rfl, gm4 (i := 162) (by decide +kernel) rfl⟩
theorem li_Links_25 : LSN "CascadeBus$Links" 25 M_Bus_hasBit 2 := ⟨mh_Bus_hasBit, ⟨_, (gmn4 (i := 164) (by decide +kernel) rfl : Cond.methodLinkNest "CascadeBus$Links" 25 M_Bus_hasBit.1 "CascadeBus" ∈ nws)⟩, gm3 (i := 25) (by decide +kernel) rfl⟩
theorem li_Reader_213 : LV "CascadeBus$Reader" 213 M_Plan_addLink 3 := ⟨mh_Plan_addLink, (gm4 (i := 165) (by decide +kernel) rfl : Cond.methodLink "CascadeBus$Reader" 213 M_Plan_addLink.1 ∈ gw), gm4 (i := 166) (by decide +kernel) rfl, gm4 (i := 167) (by decide +kernel) rfl⟩
theorem li_Plan_89 : LV "CascadeBus$Plan" 89 M_Links_add 3 := ⟨mh_Links_add, (gm4 (i := 169) (by decide +kernel) rfl : Cond.methodLink "CascadeBus$Plan" 89 M_Links_add.1 ∈ gw), gm4 (i := 170) (by decide +kernel) rfl, gm4 (i := 171) (by decide +kernel) rfl⟩
theorem li_Reader_87 : LV "CascadeBus$Reader" 87 M_Reader_readPlant 0 := ⟨mh_Reader_readPlant, (gm4 (i := 174) (by decide +kernel) rfl : Cond.methodLink "CascadeBus$Reader" 87 M_Reader_readPlant.1 ∈ gw), gm4 (i := 176) (by decide +kernel) rfl, gmp (i := 24) (by decide +kernel) rfl⟩
theorem li_Reader_92 : LV "CascadeBus$Reader" 92 M_Reader_readOld 0 := ⟨mh_Reader_readOld, (gm4 (i := 179) (by decide +kernel) rfl : Cond.methodLink "CascadeBus$Reader" 92 M_Reader_readOld.1 ∈ gw), gm4 (i := 181) (by decide +kernel) rfl, gmp (i := 25) (by decide +kernel) rfl⟩
theorem li_Reader_97 : LV "CascadeBus$Reader" 97 M_Reader_readOver 0 := ⟨mh_Reader_readOver, (gm4 (i := 184) (by decide +kernel) rfl : Cond.methodLink "CascadeBus$Reader" 97 M_Reader_readOver.1 ∈ gw), gm4 (i := 186) (by decide +kernel) rfl, gmp (i := 26) (by decide +kernel) rfl⟩
theorem li_Bus_100 : LV "CascadeBus" 100 M_Reader_changePlan 1 := ⟨mh_Reader_changePlan, (gm4 (i := 188) (by decide +kernel) rfl : Cond.methodLink "CascadeBus" 100 M_Reader_changePlan.1 ∈ gw), gm4 (i := 189) (by decide +kernel) rfl, gm4 (i := 190) (by decide +kernel) rfl⟩
theorem li_Bus_107 : LV "CascadeBus" 107 M_Layout_lay 3 := ⟨mh_Layout_lay, (gm4 (i := 192) (by decide +kernel) rfl : Cond.methodLink "CascadeBus" 107 M_Layout_lay.1 ∈ gw), gm4 (i := 193) (by decide +kernel) rfl, gm4 (i := 194) (by decide +kernel) rfl⟩
theorem li_Layout_43 : LV "CascadeBus$Layout" 43 M_Layout_startEmpty 0 := ⟨mh_Layout_startEmpty, (gm4 (i := 196) (by decide +kernel) rfl : Cond.methodLink "CascadeBus$Layout" 43 M_Layout_startEmpty.1 ∈ gw), gm4 (i := 198) (by decide +kernel) rfl, gmp (i := 27) (by decide +kernel) rfl⟩
theorem li_Layout_51 : LV "CascadeBus$Layout" 51 M_Layout_leastReady 1 := ⟨mh_Layout_leastReady, (gm4 (i := 200) (by decide +kernel) rfl : Cond.methodLink "CascadeBus$Layout" 51 M_Layout_leastReady.1 ∈ gw), gm4 (i := 202) (by decide +kernel) rfl, gmp (i := 28) (by decide +kernel) rfl⟩
theorem li_Layout_85 : LV "CascadeBus$Layout" 85 M_Layout_isReady 2 := ⟨mh_Layout_isReady, (gm4 (i := 204) (by decide +kernel) rfl : Cond.methodLink "CascadeBus$Layout" 85 M_Layout_isReady.1 ∈ gw), gm4 (i := 206) (by decide +kernel) rfl, gmp (i := 29) (by decide +kernel) rfl⟩
theorem li_Layout_58 : LV "CascadeBus$Layout" 58 M_Layout_takeBlock 3 := ⟨mh_Layout_takeBlock, (gm4 (i := 208) (by decide +kernel) rfl : Cond.methodLink "CascadeBus$Layout" 58 M_Layout_takeBlock.1 ∈ gw), gm4 (i := 210) (by decide +kernel) rfl, gmp (i := 30) (by decide +kernel) rfl⟩
theorem li_Layout_74 : LSt "CascadeBus$Layout" 74 M_Layout_isAcross 2 := ⟨mh_Layout_isAcross, (gm4 (i := 212) (by decide +kernel) rfl : Cond.methodLink "CascadeBus$Layout" 74 M_Layout_isAcross.1 ∈ gw), gm4 (i := 213) (by decide +kernel) rfl⟩
theorem li_Layout_81 : LV "CascadeBus$Layout" 81 M_Layout_claimSlot 1 := ⟨mh_Layout_claimSlot, (gm4 (i := 215) (by decide +kernel) rfl : Cond.methodLink "CascadeBus$Layout" 81 M_Layout_claimSlot.1 ∈ gw), gm4 (i := 217) (by decide +kernel) rfl, gmp (i := 31) (by decide +kernel) rfl⟩
theorem li_Layout_100 : LV "CascadeBus$Layout" 100 M_Layout_isClaimed 1 := ⟨mh_Layout_isClaimed, (gm4 (i := 219) (by decide +kernel) rfl : Cond.methodLink "CascadeBus$Layout" 100 M_Layout_isClaimed.1 ∈ gw), gm4 (i := 221) (by decide +kernel) rfl, gmp (i := 32) (by decide +kernel) rfl⟩
theorem li_Layout_94 : LSt "CascadeBus$Layout" 94 M_JMath_max 2 := ⟨mh_JMath_max, (gm4 (i := 223) (by decide +kernel) rfl : Cond.methodLink "CascadeBus$Layout" 94 M_JMath_max.1 ∈ gw), gm3 (i := 67) (by decide +kernel) rfl⟩
theorem li_Bus_115 : LV "CascadeBus" 115 M_History_clear 0 := ⟨mh_History_clear, (gm4 (i := 224) (by decide +kernel) rfl : Cond.methodLink "CascadeBus" 115 M_History_clear.1 ∈ gw), gm4 (i := 225) (by decide +kernel) rfl, gm4 (i := 226) (by decide +kernel) rfl⟩
theorem li_Law_15 : LV "CascadeBusLaw" 15 M_Bus_count 1 := ⟨mh_Bus_count, (gm4 (i := 232) (by decide +kernel) rfl : Cond.methodLink "CascadeBusLaw" 15 M_Bus_count.1 ∈ gw), gm4 (i := 233) (by decide +kernel) rfl, gm4 (i := 234) (by decide +kernel) rfl⟩
theorem li_Law_20 : LV "CascadeBusLaw" 20 M_Bus_block 2 := ⟨mh_Bus_block, (gm5 (i := 14) (by decide +kernel) rfl : Cond.methodLink "CascadeBusLaw" 20 M_Bus_block.1 ∈ gw), gm5 (i := 15) (by decide +kernel) rfl, gm5 (i := 16) (by decide +kernel) rfl⟩
theorem li_Bus_156 : LV "CascadeBus" 156 M_Bus_needBlock 1 := ⟨mh_Bus_needBlock, (gm5 (i := 18) (by decide +kernel) rfl : Cond.methodLink "CascadeBus" 156 M_Bus_needBlock.1 ∈ gw), gm5 (i := 20) (by decide +kernel) rfl, gmp (i := 33) (by decide +kernel) rfl⟩
theorem li_Law_24 : LV "CascadeBusLaw" 24 M_Bus_link 2 := ⟨mh_Bus_link, (gm5 (i := 25) (by decide +kernel) rfl : Cond.methodLink "CascadeBusLaw" 24 M_Bus_link.1 ∈ gw), gm5 (i := 26) (by decide +kernel) rfl, gm5 (i := 27) (by decide +kernel) rfl⟩
theorem li_Law_27 : LV "CascadeBusLaw" 27 M_Bus_plant 2 := ⟨mh_Bus_plant, (gm5 (i := 32) (by decide +kernel) rfl : Cond.methodLink "CascadeBusLaw" 27 M_Bus_plant.1 ∈ gw), gm5 (i := 33) (by decide +kernel) rfl, gm5 (i := 34) (by decide +kernel) rfl⟩
theorem li_Bus_201 : LSt "CascadeBus" 201 M_Cycle_outOf 3 := ⟨mh_Cycle_outOf, (gm5 (i := 36) (by decide +kernel) rfl : Cond.methodLink "CascadeBus" 201 M_Cycle_outOf.1 ∈ gw), gm3 (i := 58) (by decide +kernel) rfl⟩
theorem li_Law_30 : LV "CascadeBusLaw" 30 M_Bus_then 3 := ⟨mh_Bus_then, (gm5 (i := 40) (by decide +kernel) rfl : Cond.methodLink "CascadeBusLaw" 30 M_Bus_then.1 ∈ gw), gm5 (i := 41) (by decide +kernel) rfl, gm5 (i := 42) (by decide +kernel) rfl⟩
theorem li_Bus_257 : LSt "CascadeBus" 257 M_Bus_thenCell 1 := ⟨mh_Bus_thenCell, (gm5 (i := 44) (by decide +kernel) rfl : Cond.methodLink "CascadeBus" 257 M_Bus_thenCell.1 ∈ gw), gm5 (i := 45) (by decide +kernel) rfl⟩
theorem li_Bus_261 : LSt "CascadeBus" 261 M_Bus_needWithin 3 := ⟨mh_Bus_needWithin, (gm5 (i := 47) (by decide +kernel) rfl : Cond.methodLink "CascadeBus" 261 M_Bus_needWithin.1 ∈ gw), gm5 (i := 48) (by decide +kernel) rfl⟩
theorem li_Law_34 : LV "CascadeBusLaw" 34 M_Bus_first 1 := ⟨mh_Bus_first, (gm5 (i := 53) (by decide +kernel) rfl : Cond.methodLink "CascadeBusLaw" 34 M_Bus_first.1 ∈ gw), gm5 (i := 54) (by decide +kernel) rfl, gm5 (i := 55) (by decide +kernel) rfl⟩
theorem li_Law_37 : LV "CascadeBusLaw" 37 M_Bus_jump 2 := ⟨mh_Bus_jump, (gm5 (i := 60) (by decide +kernel) rfl : Cond.methodLink "CascadeBusLaw" 37 M_Bus_jump.1 ∈ gw), gm5 (i := 61) (by decide +kernel) rfl, gm5 (i := 62) (by decide +kernel) rfl⟩
theorem li_Bus_273 : LSt "CascadeBus" 273 M_JMath_abs 1 := ⟨mh_JMath_abs, (gm5 (i := 64) (by decide +kernel) rfl : Cond.methodLink "CascadeBus" 273 M_JMath_abs.1 ∈ gw), gm5 (i := 65) (by decide +kernel) rfl⟩
theorem li_Bus_278 : LSt "CascadeBus" 278 M_JMath_max 2 := ⟨mh_JMath_max, (gm5 (i := 67) (by decide +kernel) rfl : Cond.methodLink "CascadeBus" 278 M_JMath_max.1 ∈ gw), gm3 (i := 67) (by decide +kernel) rfl⟩
theorem li_Law_40 : LV "CascadeBusLaw" 40 M_Bus_lost 2 := ⟨mh_Bus_lost, (gm5 (i := 71) (by decide +kernel) rfl : Cond.methodLink "CascadeBusLaw" 40 M_Bus_lost.1 ∈ gw), gm5 (i := 72) (by decide +kernel) rfl, gm5 (i := 73) (by decide +kernel) rfl⟩
theorem li_Law_43 : LV "CascadeBusLaw" 43 M_Bus_toTune 3 := ⟨mh_Bus_toTune, (gm5 (i := 78) (by decide +kernel) rfl : Cond.methodLink "CascadeBusLaw" 43 M_Bus_toTune.1 ∈ gw), gm5 (i := 79) (by decide +kernel) rfl, gm5 (i := 80) (by decide +kernel) rfl⟩
theorem li_Bus_285 : LV "CascadeBus" 285 M_Bus_staysBelow 4 := ⟨mh_Bus_staysBelow, (gm5 (i := 82) (by decide +kernel) rfl : Cond.methodLink "CascadeBus" 285 M_Bus_staysBelow.1 ∈ gw), gm5 (i := 84) (by decide +kernel) rfl, gmp (i := 34) (by decide +kernel) rfl⟩
theorem li_Bus_289 : LV "CascadeBus" 289 M_Plan_cameAt 2 := ⟨mh_Plan_cameAt, (gm5 (i := 86) (by decide +kernel) rfl : Cond.methodLink "CascadeBus" 289 M_Plan_cameAt.1 ∈ gw), gm3 (i := 89) (by decide +kernel) rfl, gm3 (i := 90) (by decide +kernel) rfl⟩
theorem li_Law_46 : LV "CascadeBusLaw" 46 M_Bus_slack 1 := ⟨mh_Bus_slack, (gm5 (i := 90) (by decide +kernel) rfl : Cond.methodLink "CascadeBusLaw" 46 M_Bus_slack.1 ∈ gw), gm5 (i := 91) (by decide +kernel) rfl, gm5 (i := 92) (by decide +kernel) rfl⟩
theorem li_Law_49 : LV "CascadeBusLaw" 49 M_Bus_look 1 := ⟨mh_Bus_look, (gm5 (i := 97) (by decide +kernel) rfl : Cond.methodLink "CascadeBusLaw" 49 M_Bus_look.1 ∈ gw), gm5 (i := 98) (by decide +kernel) rfl, gm5 (i := 99) (by decide +kernel) rfl⟩
theorem li_Bus_312 : LV "CascadeBus" 312 M_Bus_fits 0 := ⟨mh_Bus_fits, (gm5 (i := 101) (by decide +kernel) rfl : Cond.methodLink "CascadeBus" 312 M_Bus_fits.1 ∈ gw), gm3 (i := 136) (by decide +kernel) rfl, gm3 (i := 137) (by decide +kernel) rfl⟩
theorem li_Bus_315 : LV "CascadeBus" 315 M_Bus_gatherModes 1 := ⟨mh_Bus_gatherModes, (gm5 (i := 102) (by decide +kernel) rfl : Cond.methodLink "CascadeBus" 315 M_Bus_gatherModes.1 ∈ gw), gm5 (i := 104) (by decide +kernel) rfl, gmp (i := 35) (by decide +kernel) rfl⟩
theorem li_Bus_323 : LSt "CascadeBus" 323 M_Bus_hasBit 2 := ⟨mh_Bus_hasBit, (gm5 (i := 106) (by decide +kernel) rfl : Cond.methodLink "CascadeBus" 323 M_Bus_hasBit.1 ∈ gw), gm3 (i := 25) (by decide +kernel) rfl⟩
theorem li_Bus_318 : LSt "CascadeBus" 318 M_JInteger_bitCount 1 := ⟨mh_JInteger_bitCount, (gm5 (i := 107) (by decide +kernel) rfl : Cond.methodLink "CascadeBus" 318 M_JInteger_bitCount.1 ∈ gw), gm5 (i := 108) (by decide +kernel) rfl⟩
theorem li_Law_52 : LV "CascadeBusLaw" 52 M_Bus_years 3 := ⟨mh_Bus_years, (gm5 (i := 116) (by decide +kernel) rfl : Cond.methodLink "CascadeBusLaw" 52 M_Bus_years.1 ∈ gw), gm5 (i := 117) (by decide +kernel) rfl, gm5 (i := 118) (by decide +kernel) rfl⟩
theorem li_Bus_327 : LV "CascadeBus" 327 M_Years_play 4 := ⟨mh_Years_play, (gm5 (i := 120) (by decide +kernel) rfl : Cond.methodLink "CascadeBus" 327 M_Years_play.1 ∈ gw), gm5 (i := 121) (by decide +kernel) rfl, gm5 (i := 122) (by decide +kernel) rfl⟩
theorem li_Years_18 : LV "CascadeBus$Years" 18 M_Years_draw 1 := ⟨mh_Years_draw, (gm5 (i := 124) (by decide +kernel) rfl : Cond.methodLink "CascadeBus$Years" 18 M_Years_draw.1 ∈ gw), gm5 (i := 126) (by decide +kernel) rfl, gmp (i := 36) (by decide +kernel) rfl⟩
theorem li_Years_22 : LV "CascadeBus$Years" 22 M_Years_passSome 3 := ⟨mh_Years_passSome, (gm5 (i := 129) (by decide +kernel) rfl : Cond.methodLink "CascadeBus$Years" 22 M_Years_passSome.1 ∈ gw), gm5 (i := 131) (by decide +kernel) rfl, gmp (i := 37) (by decide +kernel) rfl⟩
theorem li_Years_68 : LSt "CascadeBus$Years" 68 M_Cycle_goBy 2 := ⟨mh_Cycle_goBy, (gm5 (i := 133) (by decide +kernel) rfl : Cond.methodLink "CascadeBus$Years" 68 M_Cycle_goBy.1 ∈ gw), gm3 (i := 52) (by decide +kernel) rfl⟩
theorem li_Years_31 : LV "CascadeBus$Years" 31 M_State_isOn 1 := ⟨mh_State_isOn, (gm5 (i := 134) (by decide +kernel) rfl : Cond.methodLink "CascadeBus$Years" 31 M_State_isOn.1 ∈ gw), gm3 (i := 21) (by decide +kernel) rfl, gm3 (i := 22) (by decide +kernel) rfl⟩
theorem li_Years_40 : LV "CascadeBus$Years" 40 M_State_switchDevice 3 := ⟨mh_State_switchDevice, (gm5 (i := 135) (by decide +kernel) rfl : Cond.methodLink "CascadeBus$Years" 40 M_State_switchDevice.1 ∈ gw), gm3 (i := 28) (by decide +kernel) rfl, gm3 (i := 29) (by decide +kernel) rfl⟩
theorem li_Years_44 : LV "CascadeBus$Years" 44 M_State_turnSensor 1 := ⟨mh_State_turnSensor, (gm5 (i := 136) (by decide +kernel) rfl : Cond.methodLink "CascadeBus$Years" 44 M_State_turnSensor.1 ∈ gw), gm3 (i := 40) (by decide +kernel) rfl, gm3 (i := 41) (by decide +kernel) rfl⟩
theorem li_Years_51 : LV "CascadeBus$Years" 51 M_Years_tellBlock 3 := ⟨mh_Years_tellBlock, (gm5 (i := 137) (by decide +kernel) rfl : Cond.methodLink "CascadeBus$Years" 51 M_Years_tellBlock.1 ∈ gw), gm5 (i := 139) (by decide +kernel) rfl, gmp (i := 38) (by decide +kernel) rfl⟩
theorem li_Years_55 : LV "CascadeBus$Years" 55 M_State_canTell 3 := ⟨mh_State_canTell, (gm5 (i := 141) (by decide +kernel) rfl : Cond.methodLink "CascadeBus$Years" 55 M_State_canTell.1 ∈ gw), gm2 (i := 213) (by decide +kernel) rfl, gm2 (i := 214) (by decide +kernel) rfl⟩
theorem li_Years_63 : LV "CascadeBus$Years" 63 M_State_handCell 2 := ⟨mh_State_handCell, (gm5 (i := 142) (by decide +kernel) rfl : Cond.methodLink "CascadeBus$Years" 63 M_State_handCell.1 ∈ gw), gm3 (i := 9) (by decide +kernel) rfl, gm3 (i := 10) (by decide +kernel) rfl⟩
theorem li_Bus_334 : LV "CascadeBus" 334 M_State_sumOfOuts 1 := ⟨mh_State_sumOfOuts, (gm5 (i := 143) (by decide +kernel) rfl : Cond.methodLink "CascadeBus" 334 M_State_sumOfOuts.1 ∈ gw), gm5 (i := 144) (by decide +kernel) rfl, gm5 (i := 145) (by decide +kernel) rfl⟩
theorem li_Law_58 : LI "CascadeBusLaw" 58 M_Mod_init 0 := ⟨mh_Mod_init, (gm5 (i := 149) (by decide +kernel) rfl : Cond.methodLink "CascadeBusLaw" 58 M_Mod_init.1 ∈ gw), gm5 (i := 150) (by decide +kernel) rfl, rfl, rfl⟩
theorem li_Mod_153 : LV "CascadeBusModel" 153 M_Mod_laysCycle 0 := ⟨mh_Mod_laysCycle, (gm5 (i := 153) (by decide +kernel) rfl : Cond.methodLink "CascadeBusModel" 153 M_Mod_laysCycle.1 ∈ gw), gm5 (i := 155) (by decide +kernel) rfl, gmp (i := 39) (by decide +kernel) rfl⟩
theorem li_Mod_186 : LV "CascadeBusModel" 186 M_Mod_canBeTaken 1 := ⟨mh_Mod_canBeTaken, (gm5 (i := 157) (by decide +kernel) rfl : Cond.methodLink "CascadeBusModel" 186 M_Mod_canBeTaken.1 ∈ gw), gm5 (i := 159) (by decide +kernel) rfl, gmp (i := 40) (by decide +kernel) rfl⟩
theorem li_Mod_189 : LV "CascadeBusModel" 189 M_Mod_takes 1 := ⟨mh_Mod_takes, (gm5 (i := 161) (by decide +kernel) rfl : Cond.methodLink "CascadeBusModel" 189 M_Mod_takes.1 ∈ gw), gm5 (i := 163) (by decide +kernel) rfl, gmp (i := 41) (by decide +kernel) rfl⟩
theorem li_Mod_175 : LV "CascadeBusModel" 175 M_Mod_isWithin 1 := ⟨mh_Mod_isWithin, (gm5 (i := 165) (by decide +kernel) rfl : Cond.methodLink "CascadeBusModel" 175 M_Mod_isWithin.1 ∈ gw), gm5 (i := 167) (by decide +kernel) rfl, gmp (i := 42) (by decide +kernel) rfl⟩
theorem li_Mod_179 : LV "CascadeBusModel" 179 M_Mod_slotFrom 1 := ⟨mh_Mod_slotFrom, (gm5 (i := 169) (by decide +kernel) rfl : Cond.methodLink "CascadeBusModel" 179 M_Mod_slotFrom.1 ∈ gw), gm5 (i := 171) (by decide +kernel) rfl, gmp (i := 43) (by decide +kernel) rfl⟩
theorem li_Mod_171 : LSt "CascadeBusModel" 171 M_Mod_greater 2 := ⟨mh_Mod_greater, (gm5 (i := 173) (by decide +kernel) rfl : Cond.methodLink "CascadeBusModel" 171 M_Mod_greater.1 ∈ gw), gm5 (i := 174) (by decide +kernel) rfl⟩
theorem li_Mod_156 : LV "CascadeBusModel" 156 M_Mod_begins 0 := ⟨mh_Mod_begins, (gm5 (i := 176) (by decide +kernel) rfl : Cond.methodLink "CascadeBusModel" 156 M_Mod_begins.1 ∈ gw), gm5 (i := 178) (by decide +kernel) rfl, gmp (i := 44) (by decide +kernel) rfl⟩
theorem li_Mod_193 : LSt "CascadeBusModel" 193 M_Mod_at 2 := ⟨mh_Mod_at, (gm5 (i := 180) (by decide +kernel) rfl : Cond.methodLink "CascadeBusModel" 193 M_Mod_at.1 ∈ gw), gm5 (i := 181) (by decide +kernel) rfl⟩
theorem li_Mod_196 : LV "CascadeBusModel" 196 M_Mod_linkTo 2 := ⟨mh_Mod_linkTo, (gm5 (i := 183) (by decide +kernel) rfl : Cond.methodLink "CascadeBusModel" 196 M_Mod_linkTo.1 ∈ gw), gm5 (i := 185) (by decide +kernel) rfl, gmp (i := 45) (by decide +kernel) rfl⟩
theorem li_Mod_199 : LSt "CascadeBusModel" 199 M_Mod_linkAt 2 := ⟨mh_Mod_linkAt, (gm5 (i := 187) (by decide +kernel) rfl : Cond.methodLink "CascadeBusModel" 199 M_Mod_linkAt.1 ∈ gw), gm5 (i := 188) (by decide +kernel) rfl⟩
theorem li_Law_70 : LV "CascadeBusLaw" 70 M_Mod_thrown 0 := ⟨mh_Mod_thrown, (gm6 (i := 179) (by decide +kernel) rfl : Cond.methodLink "CascadeBusLaw" 70 M_Mod_thrown.1 ∈ gw), gm6 (i := 180) (by decide +kernel) rfl, gm6 (i := 181) (by decide +kernel) rfl⟩
theorem li_Law_63 : LV "CascadeBusLaw" 63 M_Mod_feed 5 := ⟨mh_Mod_feed, (gm6 (i := 183) (by decide +kernel) rfl : Cond.methodLink "CascadeBusLaw" 63 M_Mod_feed.1 ∈ gw), gm6 (i := 184) (by decide +kernel) rfl, gm6 (i := 185) (by decide +kernel) rfl⟩
theorem li_Law_69 : LV "CascadeBusLaw" 69 M_Mod_bus 1 := ⟨mh_Mod_bus, (gm6 (i := 187) (by decide +kernel) rfl : Cond.methodLink "CascadeBusLaw" 69 M_Mod_bus.1 ∈ gw), gm6 (i := 188) (by decide +kernel) rfl, gm6 (i := 189) (by decide +kernel) rfl⟩
theorem li_Mod_372 : LV "CascadeBusModel" 372 M_Mod_right 2 := ⟨mh_Mod_right, (gm6 (i := 191) (by decide +kernel) rfl : Cond.methodLink "CascadeBusModel" 372 M_Mod_right.1 ∈ gw), gm6 (i := 193) (by decide +kernel) rfl, gmp (i := 46) (by decide +kernel) rfl⟩
theorem li_Mod_315 : LV "CascadeBusModel" 315 M_Mod_go 0 := ⟨mh_Mod_go, (gm6 (i := 195) (by decide +kernel) rfl : Cond.methodLink "CascadeBusModel" 315 M_Mod_go.1 ∈ gw), gm6 (i := 197) (by decide +kernel) rfl, gmp (i := 47) (by decide +kernel) rfl⟩
theorem li_Mod_280 : LV "CascadeBusModel" 280 M_Mod_byteAt 1 := ⟨mh_Mod_byteAt, (gm6 (i := 199) (by decide +kernel) rfl : Cond.methodLink "CascadeBusModel" 280 M_Mod_byteAt.1 ∈ gw), gm6 (i := 201) (by decide +kernel) rfl, gmp (i := 48) (by decide +kernel) rfl⟩
theorem li_Mod_298 : LSt "CascadeBusModel" 298 M_Mod_isLetter 1 := ⟨mh_Mod_isLetter, (gm6 (i := 203) (by decide +kernel) rfl : Cond.methodLink "CascadeBusModel" 298 M_Mod_isLetter.1 ∈ gw), gm6 (i := 204) (by decide +kernel) rfl⟩
theorem li_Mod_301 : LV "CascadeBusModel" 301 M_Mod_wordFrom 2 := ⟨mh_Mod_wordFrom, (gm6 (i := 206) (by decide +kernel) rfl : Cond.methodLink "CascadeBusModel" 301 M_Mod_wordFrom.1 ∈ gw), gm6 (i := 208) (by decide +kernel) rfl, gmp (i := 49) (by decide +kernel) rfl⟩
theorem li_Mod_375 : LV "CascadeBusModel" 375 M_Mod_clause1 0 := ⟨mh_Mod_clause1, (gm6 (i := 213) (by decide +kernel) rfl : Cond.methodLink "CascadeBusModel" 375 M_Mod_clause1.1 ∈ gw), gm6 (i := 215) (by decide +kernel) rfl, gmp (i := 50) (by decide +kernel) rfl⟩
theorem li_Mod_354 : LV "CascadeBusModel" 354 M_Mod_block1 0 := ⟨mh_Mod_block1, (gm6 (i := 217) (by decide +kernel) rfl : Cond.methodLink "CascadeBusModel" 354 M_Mod_block1.1 ∈ gw), gm6 (i := 219) (by decide +kernel) rfl, gmp (i := 51) (by decide +kernel) rfl⟩
theorem li_Mod_308 : LV "CascadeBusModel" 308 M_Mod_wants 2 := ⟨mh_Mod_wants, (gm6 (i := 221) (by decide +kernel) rfl : Cond.methodLink "CascadeBusModel" 308 M_Mod_wants.1 ∈ gw), gm6 (i := 223) (by decide +kernel) rfl, gmp (i := 52) (by decide +kernel) rfl⟩
theorem li_Mod_324 : LV "CascadeBusModel" 324 M_Mod_named 2 := ⟨mh_Mod_named, (gm6 (i := 225) (by decide +kernel) rfl : Cond.methodLink "CascadeBusModel" 324 M_Mod_named.1 ∈ gw), gm6 (i := 227) (by decide +kernel) rfl, gmp (i := 53) (by decide +kernel) rfl⟩
theorem li_Mod_327 : LV "CascadeBusModel" 327 M_Mod_number 2 := ⟨mh_Mod_number, (gm6 (i := 229) (by decide +kernel) rfl : Cond.methodLink "CascadeBusModel" 327 M_Mod_number.1 ∈ gw), gm6 (i := 231) (by decide +kernel) rfl, gmp (i := 54) (by decide +kernel) rfl⟩
theorem li_Mod_312 : LSt "CascadeBusModel" 312 M_Mod_within 3 := ⟨mh_Mod_within, (gm6 (i := 233) (by decide +kernel) rfl : Cond.methodLink "CascadeBusModel" 312 M_Mod_within.1 ∈ gw), gm6 (i := 234) (by decide +kernel) rfl⟩
theorem li_Mod_330 : LV "CascadeBusModel" 330 M_Mod_oneOf 2 := ⟨mh_Mod_oneOf, (gm6 (i := 236) (by decide +kernel) rfl : Cond.methodLink "CascadeBusModel" 330 M_Mod_oneOf.1 ∈ gw), gm6 (i := 238) (by decide +kernel) rfl, gmp (i := 55) (by decide +kernel) rfl⟩
theorem li_Mod_357 : LV "CascadeBusModel" 357 M_Mod_link1 0 := ⟨mh_Mod_link1, (gm7 (i := 0) (by decide +kernel) rfl : Cond.methodLink "CascadeBusModel" 357 M_Mod_link1.1 ∈ gw), gm7 (i := 2) (by decide +kernel) rfl, gmp (i := 56) (by decide +kernel) rfl⟩
theorem li_Mod_339 : LSt "CascadeBusModel" 339 M_Mod_isPlace 3 := ⟨mh_Mod_isPlace, (gm7 (i := 4) (by decide +kernel) rfl : Cond.methodLink "CascadeBusModel" 339 M_Mod_isPlace.1 ∈ gw), gm7 (i := 5) (by decide +kernel) rfl⟩
theorem li_Mod_342 : LV "CascadeBusModel" 342 M_Mod_isFree 3 := ⟨mh_Mod_isFree, (gm7 (i := 7) (by decide +kernel) rfl : Cond.methodLink "CascadeBusModel" 342 M_Mod_isFree.1 ∈ gw), gm7 (i := 9) (by decide +kernel) rfl, gmp (i := 57) (by decide +kernel) rfl⟩
theorem li_Mod_336 : LV "CascadeBusModel" 336 M_Mod_aheadOf 1 := ⟨mh_Mod_aheadOf, (gm7 (i := 11) (by decide +kernel) rfl : Cond.methodLink "CascadeBusModel" 336 M_Mod_aheadOf.1 ∈ gw), gm7 (i := 13) (by decide +kernel) rfl, gmp (i := 58) (by decide +kernel) rfl⟩
theorem li_Mod_360 : LV "CascadeBusModel" 360 M_Mod_plant1 0 := ⟨mh_Mod_plant1, (gm7 (i := 15) (by decide +kernel) rfl : Cond.methodLink "CascadeBusModel" 360 M_Mod_plant1.1 ∈ gw), gm7 (i := 17) (by decide +kernel) rfl, gmp (i := 59) (by decide +kernel) rfl⟩
theorem li_Mod_363 : LV "CascadeBusModel" 363 M_Mod_once1 1 := ⟨mh_Mod_once1, (gm7 (i := 19) (by decide +kernel) rfl : Cond.methodLink "CascadeBusModel" 363 M_Mod_once1.1 ∈ gw), gm7 (i := 21) (by decide +kernel) rfl, gmp (i := 60) (by decide +kernel) rfl⟩
theorem li_Mod_378 : LV "CascadeBusModel" 378 M_Mod_becomes 0 := ⟨mh_Mod_becomes, (gm7 (i := 23) (by decide +kernel) rfl : Cond.methodLink "CascadeBusModel" 378 M_Mod_becomes.1 ∈ gw), gm7 (i := 25) (by decide +kernel) rfl, gmp (i := 61) (by decide +kernel) rfl⟩
theorem li_Mod_381 : LSt "CascadeBusModel" 381 M_Mod_moves 2 := ⟨mh_Mod_moves, (gm7 (i := 27) (by decide +kernel) rfl : Cond.methodLink "CascadeBusModel" 381 M_Mod_moves.1 ∈ gw), gm7 (i := 28) (by decide +kernel) rfl⟩
theorem li_Law_77 : LV "CascadeBusLaw" 77 M_Mod_fault 0 := ⟨mh_Mod_fault, (gm7 (i := 30) (by decide +kernel) rfl : Cond.methodLink "CascadeBusLaw" 77 M_Mod_fault.1 ∈ gw), gm7 (i := 31) (by decide +kernel) rfl, gm7 (i := 32) (by decide +kernel) rfl⟩
theorem li_Law_80 : LV "CascadeBusLaw" 80 M_Mod_count 1 := ⟨mh_Mod_count, (gm7 (i := 34) (by decide +kernel) rfl : Cond.methodLink "CascadeBusLaw" 80 M_Mod_count.1 ∈ gw), gm7 (i := 35) (by decide +kernel) rfl, gm7 (i := 36) (by decide +kernel) rfl⟩
theorem li_Law_84 : LV "CascadeBusLaw" 84 M_Mod_block 2 := ⟨mh_Mod_block, (gm7 (i := 38) (by decide +kernel) rfl : Cond.methodLink "CascadeBusLaw" 84 M_Mod_block.1 ∈ gw), gm7 (i := 39) (by decide +kernel) rfl, gm7 (i := 40) (by decide +kernel) rfl⟩
theorem li_Mod_397 : LV "CascadeBusModel" 397 M_Mod_isBlock 1 := ⟨mh_Mod_isBlock, (gm7 (i := 42) (by decide +kernel) rfl : Cond.methodLink "CascadeBusModel" 397 M_Mod_isBlock.1 ∈ gw), gm7 (i := 44) (by decide +kernel) rfl, gmp (i := 62) (by decide +kernel) rfl⟩
theorem li_Mod_400 : LV "CascadeBusModel" 400 M_Mod_takenAt 1 := ⟨mh_Mod_takenAt, (gm7 (i := 46) (by decide +kernel) rfl : Cond.methodLink "CascadeBusModel" 400 M_Mod_takenAt.1 ∈ gw), gm7 (i := 48) (by decide +kernel) rfl, gmp (i := 63) (by decide +kernel) rfl⟩
theorem li_Law_87 : LV "CascadeBusLaw" 87 M_Mod_link 2 := ⟨mh_Mod_link, (gm7 (i := 50) (by decide +kernel) rfl : Cond.methodLink "CascadeBusLaw" 87 M_Mod_link.1 ∈ gw), gm7 (i := 51) (by decide +kernel) rfl, gm7 (i := 52) (by decide +kernel) rfl⟩
theorem li_Law_90 : LV "CascadeBusLaw" 90 M_Mod_plant 2 := ⟨mh_Mod_plant, (gm7 (i := 54) (by decide +kernel) rfl : Cond.methodLink "CascadeBusLaw" 90 M_Mod_plant.1 ∈ gw), gm7 (i := 55) (by decide +kernel) rfl, gm7 (i := 56) (by decide +kernel) rfl⟩
theorem li_Mod_255 : LV "CascadeBusModel" 255 M_Mod_actuated 2 := ⟨mh_Mod_actuated, (gm7 (i := 58) (by decide +kernel) rfl : Cond.methodLink "CascadeBusModel" 255 M_Mod_actuated.1 ∈ gw), gm7 (i := 60) (by decide +kernel) rfl, gmp (i := 64) (by decide +kernel) rfl⟩
theorem li_Law_94 : LV "CascadeBusLaw" 94 M_Mod_target 2 := ⟨mh_Mod_target, (gm7 (i := 62) (by decide +kernel) rfl : Cond.methodLink "CascadeBusLaw" 94 M_Mod_target.1 ∈ gw), gm7 (i := 63) (by decide +kernel) rfl, gm7 (i := 64) (by decide +kernel) rfl⟩
theorem li_Mod_410 : LV "CascadeBusModel" 410 M_Mod_canTarget 3 := ⟨mh_Mod_canTarget, (gm7 (i := 66) (by decide +kernel) rfl : Cond.methodLink "CascadeBusModel" 410 M_Mod_canTarget.1 ∈ gw), gm7 (i := 68) (by decide +kernel) rfl, gmp (i := 65) (by decide +kernel) rfl⟩
theorem li_Mod_413 : LV "CascadeBusModel" 413 M_Mod_refuses 1 := ⟨mh_Mod_refuses, (gm7 (i := 70) (by decide +kernel) rfl : Cond.methodLink "CascadeBusModel" 413 M_Mod_refuses.1 ∈ gw), gm7 (i := 72) (by decide +kernel) rfl, gmp (i := 66) (by decide +kernel) rfl⟩
theorem li_Mod_416 : LV "CascadeBusModel" 416 M_Mod_keeps 0 := ⟨mh_Mod_keeps, (gm7 (i := 74) (by decide +kernel) rfl : Cond.methodLink "CascadeBusModel" 416 M_Mod_keeps.1 ∈ gw), gm7 (i := 76) (by decide +kernel) rfl, gmp (i := 67) (by decide +kernel) rfl⟩
theorem li_Mod_403 : LSt "CascadeBusModel" 403 M_Mod_keptAt 2 := ⟨mh_Mod_keptAt, (gm7 (i := 78) (by decide +kernel) rfl : Cond.methodLink "CascadeBusModel" 403 M_Mod_keptAt.1 ∈ gw), gm7 (i := 79) (by decide +kernel) rfl⟩
theorem li_Mod_406 : LV "CascadeBusModel" 406 M_Mod_copies 3 := ⟨mh_Mod_copies, (gm7 (i := 81) (by decide +kernel) rfl : Cond.methodLink "CascadeBusModel" 406 M_Mod_copies.1 ∈ gw), gm7 (i := 83) (by decide +kernel) rfl, gmp (i := 68) (by decide +kernel) rfl⟩
theorem li_Law_98 : LV "CascadeBusLaw" 98 M_Mod_hand 2 := ⟨mh_Mod_hand, (gm7 (i := 85) (by decide +kernel) rfl : Cond.methodLink "CascadeBusLaw" 98 M_Mod_hand.1 ∈ gw), gm7 (i := 86) (by decide +kernel) rfl, gm7 (i := 87) (by decide +kernel) rfl⟩
theorem li_Mod_419 : LV "CascadeBusModel" 419 M_Mod_byHand 2 := ⟨mh_Mod_byHand, (gm7 (i := 89) (by decide +kernel) rfl : Cond.methodLink "CascadeBusModel" 419 M_Mod_byHand.1 ∈ gw), gm7 (i := 91) (by decide +kernel) rfl, gmp (i := 69) (by decide +kernel) rfl⟩
theorem li_Law_103 : LV "CascadeBusLaw" 103 M_Mod_power 2 := ⟨mh_Mod_power, (gm7 (i := 93) (by decide +kernel) rfl : Cond.methodLink "CascadeBusLaw" 103 M_Mod_power.1 ∈ gw), gm7 (i := 94) (by decide +kernel) rfl, gm7 (i := 95) (by decide +kernel) rfl⟩
theorem li_Mod_205 : LV "CascadeBusModel" 205 M_Mod_isOn 2 := ⟨mh_Mod_isOn, (gm7 (i := 97) (by decide +kernel) rfl : Cond.methodLink "CascadeBusModel" 205 M_Mod_isOn.1 ∈ gw), gm7 (i := 99) (by decide +kernel) rfl, gmp (i := 70) (by decide +kernel) rfl⟩
theorem li_Mod_422 : LV "CascadeBusModel" 422 M_Mod_powers 3 := ⟨mh_Mod_powers, (gm7 (i := 101) (by decide +kernel) rfl : Cond.methodLink "CascadeBusModel" 422 M_Mod_powers.1 ∈ gw), gm7 (i := 103) (by decide +kernel) rfl, gmp (i := 71) (by decide +kernel) rfl⟩
theorem li_Law_107 : LV "CascadeBusLaw" 107 M_Mod_broken 2 := ⟨mh_Mod_broken, (gm7 (i := 105) (by decide +kernel) rfl : Cond.methodLink "CascadeBusLaw" 107 M_Mod_broken.1 ∈ gw), gm7 (i := 106) (by decide +kernel) rfl, gm7 (i := 107) (by decide +kernel) rfl⟩
theorem li_Law_111 : LV "CascadeBusLaw" 111 M_Mod_cycles 1 := ⟨mh_Mod_cycles, (gm7 (i := 109) (by decide +kernel) rfl : Cond.methodLink "CascadeBusLaw" 111 M_Mod_cycles.1 ∈ gw), gm7 (i := 110) (by decide +kernel) rfl, gm7 (i := 111) (by decide +kernel) rfl⟩
theorem li_Mod_426 : LV "CascadeBusModel" 426 M_Mod_goes 2 := ⟨mh_Mod_goes, (gm7 (i := 113) (by decide +kernel) rfl : Cond.methodLink "CascadeBusModel" 426 M_Mod_goes.1 ∈ gw), gm7 (i := 115) (by decide +kernel) rfl, gmp (i := 72) (by decide +kernel) rfl⟩
theorem li_Mod_270 : LV "CascadeBusModel" 270 M_Mod_cycle 1 := ⟨mh_Mod_cycle, (gm7 (i := 117) (by decide +kernel) rfl : Cond.methodLink "CascadeBusModel" 270 M_Mod_cycle.1 ∈ gw), gm7 (i := 119) (by decide +kernel) rfl, gmp (i := 73) (by decide +kernel) rfl⟩
theorem li_Mod_231 : LSt "CascadeBusModel" 231 M_Mod_put 1 := ⟨mh_Mod_put, (gm7 (i := 121) (by decide +kernel) rfl : Cond.methodLink "CascadeBusModel" 231 M_Mod_put.1 ∈ gw), gm7 (i := 122) (by decide +kernel) rfl⟩
theorem li_Mod_258 : LV "CascadeBusModel" 258 M_Mod_schedules 1 := ⟨mh_Mod_schedules, (gm7 (i := 124) (by decide +kernel) rfl : Cond.methodLink "CascadeBusModel" 258 M_Mod_schedules.1 ∈ gw), gm7 (i := 126) (by decide +kernel) rfl, gmp (i := 74) (by decide +kernel) rfl⟩
theorem li_Mod_252 : LSt "CascadeBusModel" 252 M_Mod_lowest 1 := ⟨mh_Mod_lowest, (gm7 (i := 128) (by decide +kernel) rfl : Cond.methodLink "CascadeBusModel" 252 M_Mod_lowest.1 ∈ gw), gm7 (i := 129) (by decide +kernel) rfl⟩
theorem li_Mod_261 : LV "CascadeBusModel" 261 M_Mod_comes 2 := ⟨mh_Mod_comes, (gm7 (i := 131) (by decide +kernel) rfl : Cond.methodLink "CascadeBusModel" 261 M_Mod_comes.1 ∈ gw), gm7 (i := 133) (by decide +kernel) rfl, gmp (i := 75) (by decide +kernel) rfl⟩
theorem li_Mod_209 : LV "CascadeBusModel" 209 M_Mod_doesCome 3 := ⟨mh_Mod_doesCome, (gm7 (i := 135) (by decide +kernel) rfl : Cond.methodLink "CascadeBusModel" 209 M_Mod_doesCome.1 ∈ gw), gm7 (i := 137) (by decide +kernel) rfl, gmp (i := 76) (by decide +kernel) rfl⟩
theorem li_Mod_213 : LV "CascadeBusModel" 213 M_Mod_ages 2 := ⟨mh_Mod_ages, (gm7 (i := 139) (by decide +kernel) rfl : Cond.methodLink "CascadeBusModel" 213 M_Mod_ages.1 ∈ gw), gm7 (i := 141) (by decide +kernel) rfl, gmp (i := 77) (by decide +kernel) rfl⟩
theorem li_Mod_264 : LV "CascadeBusModel" 264 M_Mod_runs 2 := ⟨mh_Mod_runs, (gm7 (i := 143) (by decide +kernel) rfl : Cond.methodLink "CascadeBusModel" 264 M_Mod_runs.1 ∈ gw), gm7 (i := 145) (by decide +kernel) rfl, gmp (i := 78) (by decide +kernel) rfl⟩
theorem li_Mod_237 : LV "CascadeBusModel" 237 M_Mod_actualOf 2 := ⟨mh_Mod_actualOf, (gm7 (i := 147) (by decide +kernel) rfl : Cond.methodLink "CascadeBusModel" 237 M_Mod_actualOf.1 ∈ gw), gm7 (i := 149) (by decide +kernel) rfl, gmp (i := 79) (by decide +kernel) rfl⟩
theorem li_Mod_217 : LV "CascadeBusModel" 217 M_Mod_isGood 2 := ⟨mh_Mod_isGood, (gm7 (i := 151) (by decide +kernel) rfl : Cond.methodLink "CascadeBusModel" 217 M_Mod_isGood.1 ∈ gw), gm7 (i := 153) (by decide +kernel) rfl, gmp (i := 80) (by decide +kernel) rfl⟩
theorem li_Mod_220 : LV "CascadeBusModel" 220 M_Mod_fallsTo 3 := ⟨mh_Mod_fallsTo, (gm7 (i := 155) (by decide +kernel) rfl : Cond.methodLink "CascadeBusModel" 220 M_Mod_fallsTo.1 ∈ gw), gm7 (i := 157) (by decide +kernel) rfl, gmp (i := 81) (by decide +kernel) rfl⟩
theorem li_Mod_240 : LV "CascadeBusModel" 240 M_Mod_runsInput 2 := ⟨mh_Mod_runsInput, (gm7 (i := 159) (by decide +kernel) rfl : Cond.methodLink "CascadeBusModel" 240 M_Mod_runsInput.1 ∈ gw), gm7 (i := 161) (by decide +kernel) rfl, gmp (i := 82) (by decide +kernel) rfl⟩
theorem li_Mod_243 : LV "CascadeBusModel" 243 M_Mod_runsPick 2 := ⟨mh_Mod_runsPick, (gm7 (i := 163) (by decide +kernel) rfl : Cond.methodLink "CascadeBusModel" 243 M_Mod_runsPick.1 ∈ gw), gm7 (i := 165) (by decide +kernel) rfl, gmp (i := 83) (by decide +kernel) rfl⟩
theorem li_Mod_246 : LV "CascadeBusModel" 246 M_Mod_runsOutput 2 := ⟨mh_Mod_runsOutput, (gm7 (i := 167) (by decide +kernel) rfl : Cond.methodLink "CascadeBusModel" 246 M_Mod_runsOutput.1 ∈ gw), gm7 (i := 169) (by decide +kernel) rfl, gmp (i := 84) (by decide +kernel) rfl⟩
theorem li_Mod_249 : LV "CascadeBusModel" 249 M_Mod_runsPid 2 := ⟨mh_Mod_runsPid, (gm7 (i := 171) (by decide +kernel) rfl : Cond.methodLink "CascadeBusModel" 249 M_Mod_runsPid.1 ∈ gw), gm7 (i := 173) (by decide +kernel) rfl, gmp (i := 85) (by decide +kernel) rfl⟩
theorem li_Mod_224 : LV "CascadeBusModel" 224 M_Mod_setFrom 1 := ⟨mh_Mod_setFrom, (gm7 (i := 175) (by decide +kernel) rfl : Cond.methodLink "CascadeBusModel" 224 M_Mod_setFrom.1 ∈ gw), gm7 (i := 177) (by decide +kernel) rfl, gmp (i := 86) (by decide +kernel) rfl⟩
theorem li_Mod_227 : LV "CascadeBusModel" 227 M_Mod_moved 4 := ⟨mh_Mod_moved, (gm7 (i := 179) (by decide +kernel) rfl : Cond.methodLink "CascadeBusModel" 227 M_Mod_moved.1 ∈ gw), gm7 (i := 181) (by decide +kernel) rfl, gmp (i := 87) (by decide +kernel) rfl⟩
theorem li_Mod_234 : LV "CascadeBusModel" 234 M_Mod_gainOf 1 := ⟨mh_Mod_gainOf, (gm7 (i := 183) (by decide +kernel) rfl : Cond.methodLink "CascadeBusModel" 234 M_Mod_gainOf.1 ∈ gw), gm7 (i := 185) (by decide +kernel) rfl, gmp (i := 88) (by decide +kernel) rfl⟩
theorem li_Mod_267 : LV "CascadeBusModel" 267 M_Mod_comesBack 2 := ⟨mh_Mod_comesBack, (gm7 (i := 187) (by decide +kernel) rfl : Cond.methodLink "CascadeBusModel" 267 M_Mod_comesBack.1 ∈ gw), gm7 (i := 189) (by decide +kernel) rfl, gmp (i := 89) (by decide +kernel) rfl⟩
theorem li_Law_115 : LV "CascadeBusLaw" 115 M_Mod_undo 0 := ⟨mh_Mod_undo, (gm7 (i := 191) (by decide +kernel) rfl : Cond.methodLink "CascadeBusLaw" 115 M_Mod_undo.1 ∈ gw), gm7 (i := 192) (by decide +kernel) rfl, gm7 (i := 193) (by decide +kernel) rfl⟩
theorem li_Law_119 : LV "CascadeBusLaw" 119 M_Mod_then 3 := ⟨mh_Mod_then, (gm7 (i := 195) (by decide +kernel) rfl : Cond.methodLink "CascadeBusLaw" 119 M_Mod_then.1 ∈ gw), gm7 (i := 196) (by decide +kernel) rfl, gm7 (i := 197) (by decide +kernel) rfl⟩
theorem li_Mod_429 : LV "CascadeBusModel" 429 M_Mod_tries 0 := ⟨mh_Mod_tries, (gm7 (i := 199) (by decide +kernel) rfl : Cond.methodLink "CascadeBusModel" 429 M_Mod_tries.1 ∈ gw), gm7 (i := 201) (by decide +kernel) rfl, gmp (i := 90) (by decide +kernel) rfl⟩
theorem li_Law_122 : LV "CascadeBusLaw" 122 M_Mod_first 1 := ⟨mh_Mod_first, (gm7 (i := 203) (by decide +kernel) rfl : Cond.methodLink "CascadeBusLaw" 122 M_Mod_first.1 ∈ gw), gm7 (i := 204) (by decide +kernel) rfl, gm7 (i := 205) (by decide +kernel) rfl⟩
theorem li_Law_125 : LV "CascadeBusLaw" 125 M_Mod_jump 2 := ⟨mh_Mod_jump, (gm7 (i := 207) (by decide +kernel) rfl : Cond.methodLink "CascadeBusLaw" 125 M_Mod_jump.1 ∈ gw), gm7 (i := 208) (by decide +kernel) rfl, gm7 (i := 209) (by decide +kernel) rfl⟩
theorem li_Mod_432 : LSt "CascadeBusModel" 432 M_Mod_span 1 := ⟨mh_Mod_span, (gm7 (i := 211) (by decide +kernel) rfl : Cond.methodLink "CascadeBusModel" 432 M_Mod_span.1 ∈ gw), gm7 (i := 212) (by decide +kernel) rfl⟩
theorem li_Law_128 : LV "CascadeBusLaw" 128 M_Mod_lost 2 := ⟨mh_Mod_lost, (gm7 (i := 214) (by decide +kernel) rfl : Cond.methodLink "CascadeBusLaw" 128 M_Mod_lost.1 ∈ gw), gm7 (i := 215) (by decide +kernel) rfl, gm7 (i := 216) (by decide +kernel) rfl⟩
theorem li_Mod_435 : LV "CascadeBusModel" 435 M_Mod_lostBy 2 := ⟨mh_Mod_lostBy, (gm7 (i := 218) (by decide +kernel) rfl : Cond.methodLink "CascadeBusModel" 435 M_Mod_lostBy.1 ∈ gw), gm7 (i := 220) (by decide +kernel) rfl, gmp (i := 91) (by decide +kernel) rfl⟩
theorem li_Law_132 : LV "CascadeBusLaw" 132 M_Mod_toRide 0 := ⟨mh_Mod_toRide, (gm7 (i := 222) (by decide +kernel) rfl : Cond.methodLink "CascadeBusLaw" 132 M_Mod_toRide.1 ∈ gw), gm7 (i := 223) (by decide +kernel) rfl, gm7 (i := 224) (by decide +kernel) rfl⟩
theorem li_Mod_438 : LV "CascadeBusModel" 438 M_Mod_ownOf 1 := ⟨mh_Mod_ownOf, (gm7 (i := 226) (by decide +kernel) rfl : Cond.methodLink "CascadeBusModel" 438 M_Mod_ownOf.1 ∈ gw), gm7 (i := 228) (by decide +kernel) rfl, gmp (i := 92) (by decide +kernel) rfl⟩
theorem li_Law_135 : LV "CascadeBusLaw" 135 M_Mod_toTune 3 := ⟨mh_Mod_toTune, (gm7 (i := 230) (by decide +kernel) rfl : Cond.methodLink "CascadeBusLaw" 135 M_Mod_toTune.1 ∈ gw), gm7 (i := 231) (by decide +kernel) rfl, gm7 (i := 232) (by decide +kernel) rfl⟩
theorem li_Mod_441 : LV "CascadeBusModel" 441 M_Mod_isTame 3 := ⟨mh_Mod_isTame, (gm7 (i := 234) (by decide +kernel) rfl : Cond.methodLink "CascadeBusModel" 441 M_Mod_isTame.1 ∈ gw), gm7 (i := 236) (by decide +kernel) rfl, gmp (i := 93) (by decide +kernel) rfl⟩
theorem li_Law_138 : LV "CascadeBusLaw" 138 M_Mod_slack 1 := ⟨mh_Mod_slack, (gm7 (i := 238) (by decide +kernel) rfl : Cond.methodLink "CascadeBusLaw" 138 M_Mod_slack.1 ∈ gw), gm7 (i := 239) (by decide +kernel) rfl, gm8 (i := 0) (by decide +kernel) rfl⟩
theorem li_Law_142 : LV "CascadeBusLaw" 142 M_Mod_note 3 := ⟨mh_Mod_note, (gm8 (i := 2) (by decide +kernel) rfl : Cond.methodLink "CascadeBusLaw" 142 M_Mod_note.1 ∈ gw), gm8 (i := 3) (by decide +kernel) rfl, gm8 (i := 4) (by decide +kernel) rfl⟩
theorem li_Law_146 : LV "CascadeBusLaw" 146 M_Mod_fits 0 := ⟨mh_Mod_fits, (gm8 (i := 6) (by decide +kernel) rfl : Cond.methodLink "CascadeBusLaw" 146 M_Mod_fits.1 ∈ gw), gm8 (i := 7) (by decide +kernel) rfl, gm8 (i := 8) (by decide +kernel) rfl⟩
theorem li_Mod_447 : LV "CascadeBusModel" 447 M_Mod_isCause 1 := ⟨mh_Mod_isCause, (gm8 (i := 10) (by decide +kernel) rfl : Cond.methodLink "CascadeBusModel" 447 M_Mod_isCause.1 ∈ gw), gm8 (i := 12) (by decide +kernel) rfl, gmp (i := 94) (by decide +kernel) rfl⟩
theorem li_Mod_444 : LV "CascadeBusModel" 444 M_Mod_hasInput 1 := ⟨mh_Mod_hasInput, (gm8 (i := 14) (by decide +kernel) rfl : Cond.methodLink "CascadeBusModel" 444 M_Mod_hasInput.1 ∈ gw), gm8 (i := 16) (by decide +kernel) rfl, gmp (i := 95) (by decide +kernel) rfl⟩
theorem li_Mod_450 : LV "CascadeBusModel" 450 M_Mod_isNoted 1 := ⟨mh_Mod_isNoted, (gm8 (i := 18) (by decide +kernel) rfl : Cond.methodLink "CascadeBusModel" 450 M_Mod_isNoted.1 ∈ gw), gm8 (i := 20) (by decide +kernel) rfl, gmp (i := 96) (by decide +kernel) rfl⟩
theorem li_Law_149 : LV "CascadeBusLaw" 149 M_Mod_look 1 := ⟨mh_Mod_look, (gm8 (i := 22) (by decide +kernel) rfl : Cond.methodLink "CascadeBusLaw" 149 M_Mod_look.1 ∈ gw), gm8 (i := 23) (by decide +kernel) rfl, gm8 (i := 24) (by decide +kernel) rfl⟩
theorem li_Law_153 : LV "CascadeBusLaw" 153 M_Mod_forget 0 := ⟨mh_Mod_forget, (gm8 (i := 26) (by decide +kernel) rfl : Cond.methodLink "CascadeBusLaw" 153 M_Mod_forget.1 ∈ gw), gm8 (i := 27) (by decide +kernel) rfl, gm8 (i := 28) (by decide +kernel) rfl⟩
theorem li_Law_156 : LV "CascadeBusLaw" 156 M_Mod_years 3 := ⟨mh_Mod_years, (gm8 (i := 30) (by decide +kernel) rfl : Cond.methodLink "CascadeBusLaw" 156 M_Mod_years.1 ∈ gw), gm8 (i := 31) (by decide +kernel) rfl, gm8 (i := 32) (by decide +kernel) rfl⟩
theorem li_Mod_460 : LV "CascadeBusModel" 460 M_Mod_year 0 := ⟨mh_Mod_year, (gm8 (i := 34) (by decide +kernel) rfl : Cond.methodLink "CascadeBusModel" 460 M_Mod_year.1 ∈ gw), gm8 (i := 36) (by decide +kernel) rfl, gmp (i := 97) (by decide +kernel) rfl⟩
theorem li_Mod_457 : LV "CascadeBusModel" 457 M_Mod_draw 1 := ⟨mh_Mod_draw, (gm8 (i := 38) (by decide +kernel) rfl : Cond.methodLink "CascadeBusModel" 457 M_Mod_draw.1 ∈ gw), gm8 (i := 40) (by decide +kernel) rfl, gmp (i := 98) (by decide +kernel) rfl⟩
theorem li_Law_160 : LV "CascadeBusLaw" 160 M_Mod_image 0 := ⟨mh_Mod_image, (gm8 (i := 43) (by decide +kernel) rfl : Cond.methodLink "CascadeBusLaw" 160 M_Mod_image.1 ∈ gw), gm8 (i := 44) (by decide +kernel) rfl, gm8 (i := 45) (by decide +kernel) rfl⟩
theorem li_Law_165 : LV "CascadeBusLaw" 165 M_Mod_restore 0 := ⟨mh_Mod_restore, (gm8 (i := 47) (by decide +kernel) rfl : Cond.methodLink "CascadeBusLaw" 165 M_Mod_restore.1 ∈ gw), gm8 (i := 48) (by decide +kernel) rfl, gm8 (i := 49) (by decide +kernel) rfl⟩
theorem cl_Law_8 : Cond.classLink "CascadeBusLaw" 8 "CascadeBus" ∈ gw := gm1 (i := 26) (by decide +kernel) rfl
theorem in_Bus : Cond.instantiable "CascadeBus" 13 ∈ gw := gm1 (i := 27) (by decide +kernel) rfl
theorem oi_Bus_3 : Cond.methodLink "CascadeBus" 3 Lib.objectInit ∈ gw ∧ Cond.instanceMethod Lib.objectInit ∈ gw ∧ Cond.code Lib.objectInit ⟨#[0xb1]⟩ 1 none ∈ gw := ⟨gm1 (i := 31) (by decide +kernel) rfl, gm1 (i := 32) (by decide +kernel) rfl, cw_JObject_init⟩
theorem cl_Bus_20 : Cond.classLink "CascadeBus" 20 "CascadeBus$Plan" ∈ gw := gm1 (i := 34) (by decide +kernel) rfl
theorem in_Plan : Cond.instantiable "CascadeBus$Plan" 19 ∈ gw := gm1 (i := 35) (by decide +kernel) rfl
theorem oi_Plan_3 : Cond.methodLink "CascadeBus$Plan" 3 Lib.objectInit ∈ gw ∧ Cond.instanceMethod Lib.objectInit ∈ gw ∧ Cond.code Lib.objectInit ⟨#[0xb1]⟩ 1 none ∈ gw := ⟨gm1 (i := 39) (by decide +kernel) rfl, gm1 (i := 32) (by decide +kernel) rfl, cw_JObject_init⟩
theorem cl_Plan_62 : Cond.classLink "CascadeBus$Plan" 62 "CascadeBus$Links" ∈ gw := gm1 (i := 40) (by decide +kernel) rfl
theorem in_Links : Cond.instantiable "CascadeBus$Links" 4 ∈ gw := gm1 (i := 41) (by decide +kernel) rfl
theorem oi_Links_3 : Cond.methodLink "CascadeBus$Links" 3 Lib.objectInit ∈ gw ∧ Cond.instanceMethod Lib.objectInit ∈ gw ∧ Cond.code Lib.objectInit ⟨#[0xb1]⟩ 1 none ∈ gw := ⟨gm1 (i := 45) (by decide +kernel) rfl, gm1 (i := 32) (by decide +kernel) rfl, cw_JObject_init⟩
theorem ac_byte : Cond.arrayClass .byte ∈ gw := gm1 (i := 73) (by decide +kernel) rfl
theorem ac_int : Cond.arrayClass .int ∈ gw := gm1 (i := 74) (by decide +kernel) rfl
theorem ac_boolean : Cond.arrayClass .boolean ∈ gw := gm1 (i := 75) (by decide +kernel) rfl
theorem cl_Plan_69 : Cond.classLink "CascadeBus$Plan" 69 "CascadeBus$Plants" ∈ gw := gm1 (i := 76) (by decide +kernel) rfl
theorem in_Plants : Cond.instantiable "CascadeBus$Plants" 3 ∈ gw := gm1 (i := 77) (by decide +kernel) rfl
theorem oi_Plants_3 : Cond.methodLink "CascadeBus$Plants" 3 Lib.objectInit ∈ gw ∧ Cond.instanceMethod Lib.objectInit ∈ gw ∧ Cond.code Lib.objectInit ⟨#[0xb1]⟩ 1 none ∈ gw := ⟨gm1 (i := 81) (by decide +kernel) rfl, gm1 (i := 32) (by decide +kernel) rfl, cw_JObject_init⟩
theorem cl_Plan_76 : Cond.classLink "CascadeBus$Plan" 76 "CascadeBus$Layout" ∈ gw := gm1 (i := 99) (by decide +kernel) rfl
theorem in_Layout : Cond.instantiable "CascadeBus$Layout" 10 ∈ gw := gm1 (i := 100) (by decide +kernel) rfl
theorem oi_Layout_3 : Cond.methodLink "CascadeBus$Layout" 3 Lib.objectInit ∈ gw ∧ Cond.instanceMethod Lib.objectInit ∈ gw ∧ Cond.code Lib.objectInit ⟨#[0xb1]⟩ 1 none ∈ gw := ⟨gm1 (i := 104) (by decide +kernel) rfl, gm1 (i := 32) (by decide +kernel) rfl, cw_JObject_init⟩
theorem cl_Bus_27 : Cond.classLink "CascadeBus" 27 "CascadeBus$Reader" ∈ gw := gm2 (i := 13) (by decide +kernel) rfl
theorem in_Reader : Cond.instantiable "CascadeBus$Reader" 11 ∈ gw := gm2 (i := 14) (by decide +kernel) rfl
theorem oi_Reader_3 : Cond.methodLink "CascadeBus$Reader" 3 Lib.objectInit ∈ gw ∧ Cond.instanceMethod Lib.objectInit ∈ gw ∧ Cond.code Lib.objectInit ⟨#[0xb1]⟩ 1 none ∈ gw := ⟨gm2 (i := 18) (by decide +kernel) rfl, gm1 (i := 32) (by decide +kernel) rfl, cw_JObject_init⟩
theorem cl_Reader_28 : Cond.classLink "CascadeBus$Reader" 28 "CascadeBus$Plan" ∈ gw := gm2 (i := 19) (by decide +kernel) rfl
theorem cl_Bus_34 : Cond.classLink "CascadeBus" 34 "CascadeBus$Memory" ∈ gw := gm2 (i := 56) (by decide +kernel) rfl
theorem in_Memory : Cond.instantiable "CascadeBus$Memory" 4 ∈ gw := gm2 (i := 57) (by decide +kernel) rfl
theorem oi_Memory_3 : Cond.methodLink "CascadeBus$Memory" 3 Lib.objectInit ∈ gw ∧ Cond.instanceMethod Lib.objectInit ∈ gw ∧ Cond.code Lib.objectInit ⟨#[0xb1]⟩ 1 none ∈ gw := ⟨gm2 (i := 61) (by decide +kernel) rfl, gm1 (i := 32) (by decide +kernel) rfl, cw_JObject_init⟩
theorem cl_Memory_9 : Cond.classLink "CascadeBus$Memory" 9 "CascadeBus$State" ∈ gw := gm2 (i := 62) (by decide +kernel) rfl
theorem in_State : Cond.instantiable "CascadeBus$State" 1 ∈ gw := gm2 (i := 63) (by decide +kernel) rfl
theorem oi_State_3 : Cond.methodLink "CascadeBus$State" 3 Lib.objectInit ∈ gw ∧ Cond.instanceMethod Lib.objectInit ∈ gw ∧ Cond.code Lib.objectInit ⟨#[0xb1]⟩ 1 none ∈ gw := ⟨gm2 (i := 67) (by decide +kernel) rfl, gm1 (i := 32) (by decide +kernel) rfl, cw_JObject_init⟩
theorem cl_Memory_18 : Cond.classLink "CascadeBus$Memory" 18 "CascadeBus$History" ∈ gw := gm2 (i := 74) (by decide +kernel) rfl
theorem in_History : Cond.instantiable "CascadeBus$History" 3 ∈ gw := gm2 (i := 75) (by decide +kernel) rfl
theorem oi_History_3 : Cond.methodLink "CascadeBus$History" 3 Lib.objectInit ∈ gw ∧ Cond.instanceMethod Lib.objectInit ∈ gw ∧ Cond.code Lib.objectInit ⟨#[0xb1]⟩ 1 none ∈ gw := ⟨gm2 (i := 79) (by decide +kernel) rfl, gm1 (i := 32) (by decide +kernel) rfl, cw_JObject_init⟩
theorem cl_History_18 : Cond.classLink "CascadeBus$History" 18 "CascadeBus$State" ∈ gw := gm2 (i := 80) (by decide +kernel) rfl
theorem cl_Memory_25 : Cond.classLink "CascadeBus$Memory" 25 "CascadeBus$Noted" ∈ gw := gm2 (i := 93) (by decide +kernel) rfl
theorem in_Noted : Cond.instantiable "CascadeBus$Noted" 4 ∈ gw := gm2 (i := 94) (by decide +kernel) rfl
theorem oi_Noted_3 : Cond.methodLink "CascadeBus$Noted" 3 Lib.objectInit ∈ gw ∧ Cond.instanceMethod Lib.objectInit ∈ gw ∧ Cond.code Lib.objectInit ⟨#[0xb1]⟩ 1 none ∈ gw := ⟨gm2 (i := 98) (by decide +kernel) rfl, gm1 (i := 32) (by decide +kernel) rfl, cw_JObject_init⟩
theorem cl_Bus_48 : Cond.classLink "CascadeBus" 48 "CascadeBus$State" ∈ gw := gm2 (i := 130) (by decide +kernel) rfl
theorem cl_Bus_58 : Cond.classLink "CascadeBus" 58 "CascadeBus$Layout" ∈ gw := gm2 (i := 132) (by decide +kernel) rfl
theorem cl_Bus_65 : Cond.classLink "CascadeBus" 65 "CascadeBus$Years" ∈ gw := gm2 (i := 134) (by decide +kernel) rfl
theorem in_Years : Cond.instantiable "CascadeBus$Years" 2 ∈ gw := gm2 (i := 135) (by decide +kernel) rfl
theorem oi_Years_3 : Cond.methodLink "CascadeBus$Years" 3 Lib.objectInit ∈ gw ∧ Cond.instanceMethod Lib.objectInit ∈ gw ∧ Cond.code Lib.objectInit ⟨#[0xb1]⟩ 1 none ∈ gw := ⟨gm2 (i := 139) (by decide +kernel) rfl, gm1 (i := 32) (by decide +kernel) rfl, cw_JObject_init⟩
theorem ay_State_15 : Cond.methodLink "CascadeBus$State" 15 arraycopyName ∈ gw ∧ Cond.native arraycopyName ∈ gw ∧ Cond.static arraycopyName ∈ gw ∧ Cond.initialized "java/lang/System" ∈ gw := ⟨gm3 (i := 1) (by decide +kernel) rfl, gm3 (i := 3) (by decide +kernel) rfl, gm3 (i := 2) (by decide +kernel) rfl, ini_JSystem⟩
theorem ml_Cycle_112 : Cond.methodLink "CascadeBus$Cycle" 112 Lib.Math.min.name ∈ gw ∧ Cond.static Lib.Math.min.name ∈ gw ∧ Cond.initialized "java/lang/Math" ∈ gw ∧ Cond.code Lib.Math.min.name Lib.Math.min.code 2 (some .int) ∈ gw := ⟨gm3 (i := 63) (by decide +kernel) rfl, gm3 (i := 64) (by decide +kernel) rfl, ini_JMath, cw_JMath_min⟩
theorem ml_Cycle_155 : Cond.methodLink "CascadeBus$Cycle" 155 Lib.Math.max.name ∈ gw ∧ Cond.static Lib.Math.max.name ∈ gw ∧ Cond.initialized "java/lang/Math" ∈ gw ∧ Cond.code Lib.Math.max.name Lib.Math.max.code 2 (some .int) ∈ gw := ⟨gm3 (i := 66) (by decide +kernel) rfl, gm3 (i := 67) (by decide +kernel) rfl, ini_JMath, cw_JMath_max⟩
theorem ml_Noted_25 : Cond.methodLink "CascadeBus$Noted" 25 Lib.Math.max.name ∈ gw ∧ Cond.static Lib.Math.max.name ∈ gw ∧ Cond.initialized "java/lang/Math" ∈ gw ∧ Cond.code Lib.Math.max.name Lib.Math.max.code 2 (some .int) ∈ gw := ⟨gm3 (i := 155) (by decide +kernel) rfl, gm3 (i := 67) (by decide +kernel) rfl, ini_JMath, cw_JMath_max⟩
theorem cl_Law_13 : Cond.classLink "CascadeBusLaw" 13 "java/lang/IllegalArgumentException" ∈ gw := gm3 (i := 192) (by decide +kernel) rfl
theorem cl_Bus_87 : Cond.classLink "CascadeBus" 87 "java/lang/IllegalArgumentException" ∈ gw := gm3 (i := 197) (by decide +kernel) rfl
theorem in_JIae : Cond.instantiable "java/lang/IllegalArgumentException" 6 ∈ gw := gm3 (i := 198) (by decide +kernel) rfl
theorem in_JThrowable : Cond.instantiable "java/lang/Throwable" 6 ∈ gw := gm3 (i := 235) (by decide +kernel) rfl
theorem ml_Reader_51 : Cond.methodLink "CascadeBus$Reader" 51 Lib.Math.min.name ∈ gw ∧ Cond.static Lib.Math.min.name ∈ gw ∧ Cond.initialized "java/lang/Math" ∈ gw ∧ Cond.code Lib.Math.min.name Lib.Math.min.code 2 (some .int) ∈ gw := ⟨gm4 (i := 23) (by decide +kernel) rfl, gm3 (i := 64) (by decide +kernel) rfl, ini_JMath, cw_JMath_min⟩
theorem ml_Layout_94 : Cond.methodLink "CascadeBus$Layout" 94 Lib.Math.max.name ∈ gw ∧ Cond.static Lib.Math.max.name ∈ gw ∧ Cond.initialized "java/lang/Math" ∈ gw ∧ Cond.code Lib.Math.max.name Lib.Math.max.code 2 (some .int) ∈ gw := ⟨gm4 (i := 223) (by decide +kernel) rfl, gm3 (i := 67) (by decide +kernel) rfl, ini_JMath, cw_JMath_max⟩
theorem cl_Law_18 : Cond.classLink "CascadeBusLaw" 18 "java/util/NoSuchElementException" ∈ gw := gm4 (i := 231) (by decide +kernel) rfl
theorem cl_Bus_153 : Cond.classLink "CascadeBus" 153 "java/util/NoSuchElementException" ∈ gw := gm4 (i := 236) (by decide +kernel) rfl
theorem in_JNse : Cond.instantiable "java/util/NoSuchElementException" 6 ∈ gw := gm4 (i := 237) (by decide +kernel) rfl
theorem ml_Bus_278 : Cond.methodLink "CascadeBus" 278 Lib.Math.max.name ∈ gw ∧ Cond.static Lib.Math.max.name ∈ gw ∧ Cond.initialized "java/lang/Math" ∈ gw ∧ Cond.code Lib.Math.max.name Lib.Math.max.code 2 (some .int) ∈ gw := ⟨gm5 (i := 67) (by decide +kernel) rfl, gm3 (i := 67) (by decide +kernel) rfl, ini_JMath, cw_JMath_max⟩
theorem kc_JInteger_265 : Cond.constant "java/lang/Integer" 265 1431655765 ∈ gw := gm5 (i := 110) (by decide +kernel) rfl
theorem kc_JInteger_266 : Cond.constant "java/lang/Integer" 266 858993459 ∈ gw := gm5 (i := 111) (by decide +kernel) rfl
theorem kc_JInteger_267 : Cond.constant "java/lang/Integer" 267 252645135 ∈ gw := gm5 (i := 112) (by decide +kernel) rfl
theorem kc_Years_67 : Cond.constant "CascadeBus$Years" 67 1103515245 ∈ gw := gm5 (i := 128) (by decide +kernel) rfl
theorem cl_Law_56 : Cond.classLink "CascadeBusLaw" 56 "CascadeBusModel" ∈ gw := gm5 (i := 147) (by decide +kernel) rfl
theorem in_Mod : Cond.instantiable "CascadeBusModel" 76 ∈ gw := gm5 (i := 148) (by decide +kernel) rfl
theorem oi_Mod_3 : Cond.methodLink "CascadeBusModel" 3 Lib.objectInit ∈ gw ∧ Cond.instanceMethod Lib.objectInit ∈ gw ∧ Cond.code Lib.objectInit ⟨#[0xb1]⟩ 1 none ∈ gw := ⟨gm5 (i := 152) (by decide +kernel) rfl, gm1 (i := 32) (by decide +kernel) rfl, cw_JObject_init⟩
theorem kc_Mod_304 : Cond.constant "CascadeBusModel" 304 99999 ∈ gw := gm6 (i := 212) (by decide +kernel) rfl
theorem kc_Mod_456 : Cond.constant "CascadeBusModel" 456 1103515245 ∈ gw := gm8 (i := 42) (by decide +kernel) rfl
theorem ac_long : Cond.arrayClass .long ∈ gw := gm8 (i := 51) (by decide +kernel) rfl
