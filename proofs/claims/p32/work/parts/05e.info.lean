/-! ===== words by their places in the chunks of the tables ===== -/
theorem uwt {w : Cond} (h : w ∈ tables_1) (g : goodWord w = true) : w ∈ UW := List.mem_filter.mpr ⟨List.mem_append_right _ h, g⟩
theorem uwp {w : Cond} (h : w ∈ k2_sels lw_privs) (g : goodWord w = true) : w ∈ UW := List.mem_filter.mpr ⟨List.mem_append_left _ h, g⟩
theorem uw1 {w : Cond} (h : w ∈ tables_1_1) (g : goodWord w = true) : w ∈ UW := uwt (List.mem_append_left _ h) g
theorem uw2 {w : Cond} (h : w ∈ tables_1_2) (g : goodWord w = true) : w ∈ UW := uwt (List.mem_append_right _ (List.mem_append_left _ h)) g
theorem uw3 {w : Cond} (h : w ∈ tables_1_3) (g : goodWord w = true) : w ∈ UW := uwt (List.mem_append_right _ (List.mem_append_right _ (List.mem_append_left _ h))) g
theorem uw4 {w : Cond} (h : w ∈ tables_1_4) (g : goodWord w = true) : w ∈ UW := uwt (List.mem_append_right _ (List.mem_append_right _ (List.mem_append_right _ (h)))) g
/-! ===== the methods: name, code, locals, answer, room ===== -/
def iX0_aimAt : MI := (yX0_aimAt, cX0_aimAt, 5, none, 0, 1, 21)
-- no selects: X0_aimAt
def iX2_keep : MI := (yX2_keep, cX2_keep, 8, none, 0, 1, 21)
theorem kX2_keep : mOKv iX2_keep 6 := ⟨⟨uw3 (List.mem_of_getElem? (i := 153) rfl) rfl, uw1 (List.mem_of_getElem? (i := 10) rfl) rfl, by decide +kernel⟩, uw3 (List.mem_of_getElem? (i := 151) rfl) rfl, uw3 (List.mem_of_getElem? (i := 152) rfl) rfl⟩
def iX3_copyFrom : MI := (yX3_copyFrom, cX3_copyFrom, 3, none, 0, 1, 60)
theorem kX3_copyFrom : mOKv iX3_copyFrom 1 := ⟨⟨uw3 (List.mem_of_getElem? (i := 19) rfl) rfl, uw1 (List.mem_of_getElem? (i := 9) rfl) rfl, by decide +kernel⟩, uw3 (List.mem_of_getElem? (i := 17) rfl) rfl, uw3 (List.mem_of_getElem? (i := 18) rfl) rfl⟩
def iX3_isWanted : MI := (yX3_isWanted, cX3_isWanted, 3, (some .boolean), 2, 2, 45)
theorem kX3_isWanted : mOKv iX3_isWanted 2 := ⟨⟨uw3 (List.mem_of_getElem? (i := 118) rfl) rfl, uw1 (List.mem_of_getElem? (i := 9) rfl) rfl, by decide +kernel⟩, uw3 (List.mem_of_getElem? (i := 116) rfl) rfl, uw3 (List.mem_of_getElem? (i := 117) rfl) rfl⟩
def iX3_openPhase : MI := (yX3_openPhase, cX3_openPhase, 5, (some .int), 1, 1, 21)
theorem kX3_openPhase : mOKv iX3_openPhase 2 := ⟨⟨uw3 (List.mem_of_getElem? (i := 122) rfl) rfl, uw1 (List.mem_of_getElem? (i := 9) rfl) rfl, by decide +kernel⟩, uw3 (List.mem_of_getElem? (i := 120) rfl) rfl, uw3 (List.mem_of_getElem? (i := 121) rfl) rfl⟩
def iX3_addGood : MI := (yX3_addGood, cX3_addGood, 4, none, 0, 2, 45)
theorem kX3_addGood : mOKv iX3_addGood 2 := ⟨⟨uw3 (List.mem_of_getElem? (i := 157) rfl) rfl, uw1 (List.mem_of_getElem? (i := 9) rfl) rfl, by decide +kernel⟩, uw3 (List.mem_of_getElem? (i := 155) rfl) rfl, uw3 (List.mem_of_getElem? (i := 156) rfl) rfl⟩
def iX3_allCounted : MI := (yX3_allCounted, cX3_allCounted, 3, (some .int), 1, 1, 21)
theorem kX3_allCounted : mOKv iX3_allCounted 0 := ⟨⟨uw3 (List.mem_of_getElem? (i := 135) rfl) rfl, uw1 (List.mem_of_getElem? (i := 9) rfl) rfl, by decide +kernel⟩, uw3 (List.mem_of_getElem? (i := 133) rfl) rfl, uw3 (List.mem_of_getElem? (i := 134) rfl) rfl⟩
def iX4_restart : MI := (yX4_restart, cX4_restart, 3, none, 0, 2, 82)
theorem kX4_restart : mOKv iX4_restart 2 := ⟨⟨uw4 (List.mem_of_getElem? (i := 10) rfl) rfl, uw1 (List.mem_of_getElem? (i := 8) rfl) rfl, by decide +kernel⟩, uw4 (List.mem_of_getElem? (i := 8) rfl) rfl, uw4 (List.mem_of_getElem? (i := 9) rfl) rfl⟩
def iX4_runSlot : MI := (yX4_runSlot, cX4_runSlot, 3, none, 0, 6, 149)
theorem kX4_runSlot : mOKv iX4_runSlot 0 := ⟨⟨uw3 (List.mem_of_getElem? (i := 26) rfl) rfl, uw1 (List.mem_of_getElem? (i := 8) rfl) rfl, by decide +kernel⟩, uw3 (List.mem_of_getElem? (i := 24) rfl) rfl, uw3 (List.mem_of_getElem? (i := 25) rfl) rfl⟩
def iX4_breakOff : MI := (yX4_breakOff, cX4_breakOff, 3, none, 0, 4, 84)
theorem kX4_breakOff : mOKv iX4_breakOff 1 := ⟨⟨uw3 (List.mem_of_getElem? (i := 34) rfl) rfl, uw1 (List.mem_of_getElem? (i := 8) rfl) rfl, by decide +kernel⟩, uw3 (List.mem_of_getElem? (i := 32) rfl) rfl, uw3 (List.mem_of_getElem? (i := 33) rfl) rfl⟩
def iX4_lose : MI := (yX4_lose, cX4_lose, 2, none, 0, 3, 63)
theorem kX4_lose : mOKv iX4_lose 1 := ⟨⟨uw3 (List.mem_of_getElem? (i := 50) rfl) rfl, uw1 (List.mem_of_getElem? (i := 8) rfl) rfl, by decide +kernel⟩, uw3 (List.mem_of_getElem? (i := 48) rfl) rfl, uw3 (List.mem_of_getElem? (i := 49) rfl) rfl⟩
def iX4_aimOf : MI := (yX4_aimOf, cX4_aimOf, 2, (some (.object "Cloudseed$Aim")), 3, 1, 21)
theorem kX4_aimOf : mOKv iX4_aimOf 1 := ⟨⟨uw3 (List.mem_of_getElem? (i := 54) rfl) rfl, uw1 (List.mem_of_getElem? (i := 8) rfl) rfl, by decide +kernel⟩, uw3 (List.mem_of_getElem? (i := 52) rfl) rfl, uw3 (List.mem_of_getElem? (i := 53) rfl) rfl⟩
def iX4_isObserved : MI := (yX4_isObserved, cX4_isObserved, 4, (some .boolean), 2, 1, 21)
theorem kX4_isObserved : mOKv iX4_isObserved 2 := ⟨⟨uw3 (List.mem_of_getElem? (i := 63) rfl) rfl, uw1 (List.mem_of_getElem? (i := 8) rfl) rfl, by decide +kernel⟩, uw3 (List.mem_of_getElem? (i := 61) rfl) rfl, uw3 (List.mem_of_getElem? (i := 62) rfl) rfl⟩
def iX4_beginAlert : MI := (yX4_beginAlert, cX4_beginAlert, 7, none, 0, 5, 121)
theorem kX4_beginAlert : mOKv iX4_beginAlert 2 := ⟨⟨uw3 (List.mem_of_getElem? (i := 59) rfl) rfl, uw1 (List.mem_of_getElem? (i := 8) rfl) rfl, by decide +kernel⟩, uw3 (List.mem_of_getElem? (i := 57) rfl) rfl, uw3 (List.mem_of_getElem? (i := 58) rfl) rfl⟩
def iX4_resume : MI := (yX4_resume, cX4_resume, 7, none, 0, 5, 121)
theorem kX4_resume : mOKv iX4_resume 2 := ⟨⟨uw3 (List.mem_of_getElem? (i := 110) rfl) rfl, uw1 (List.mem_of_getElem? (i := 8) rfl) rfl, by decide +kernel⟩, uw3 (List.mem_of_getElem? (i := 108) rfl) rfl, uw3 (List.mem_of_getElem? (i := 109) rfl) rfl⟩
def iX4_beginTarget : MI := (yX4_beginTarget, cX4_beginTarget, 9, none, 0, 5, 121)
theorem kX4_beginTarget : mOKv iX4_beginTarget 2 := ⟨⟨uw3 (List.mem_of_getElem? (i := 114) rfl) rfl, uw1 (List.mem_of_getElem? (i := 8) rfl) rfl, by decide +kernel⟩, uw3 (List.mem_of_getElem? (i := 112) rfl) rfl, uw3 (List.mem_of_getElem? (i := 113) rfl) rfl⟩
def iX4_compare : MI := (yX4_compare, cX4_compare, 6, (some .int), 1, 3, 64)
theorem kX4_compare : mOKv iX4_compare 2 := ⟨⟨uw3 (List.mem_of_getElem? (i := 127) rfl) rfl, uw1 (List.mem_of_getElem? (i := 8) rfl) rfl, by decide +kernel⟩, uw3 (List.mem_of_getElem? (i := 125) rfl) rfl, uw3 (List.mem_of_getElem? (i := 126) rfl) rfl⟩
def iX4_arrears : MI := (yX4_arrears, cX4_arrears, 2, (some .int), 1, 2, 43)
theorem kX4_arrears : mOKv iX4_arrears 1 := ⟨⟨uw3 (List.mem_of_getElem? (i := 131) rfl) rfl, uw1 (List.mem_of_getElem? (i := 8) rfl) rfl, by decide +kernel⟩, uw3 (List.mem_of_getElem? (i := 129) rfl) rfl, uw3 (List.mem_of_getElem? (i := 130) rfl) rfl⟩
def iX4_observe : MI := (yX4_observe, cX4_observe, 3, none, 0, 4, 95)
theorem kX4_observe : mOKv iX4_observe 2 := ⟨⟨uw3 (List.mem_of_getElem? (i := 143) rfl) rfl, uw1 (List.mem_of_getElem? (i := 8) rfl) rfl, by decide +kernel⟩, uw3 (List.mem_of_getElem? (i := 141) rfl) rfl, uw3 (List.mem_of_getElem? (i := 142) rfl) rfl⟩
def iX4_finish : MI := (yX4_finish, cX4_finish, 8, none, 0, 3, 68)
theorem kX4_finish : mOKv iX4_finish 2 := ⟨⟨uw3 (List.mem_of_getElem? (i := 148) rfl) rfl, uw1 (List.mem_of_getElem? (i := 8) rfl) rfl, by decide +kernel⟩, uw3 (List.mem_of_getElem? (i := 146) rfl) rfl, uw3 (List.mem_of_getElem? (i := 147) rfl) rfl⟩
def iX4_endNight : MI := (yX4_endNight, cX4_endNight, 2, none, 0, 4, 84)
theorem kX4_endNight : mOKv iX4_endNight 0 := ⟨⟨uw3 (List.mem_of_getElem? (i := 161) rfl) rfl, uw1 (List.mem_of_getElem? (i := 8) rfl) rfl, by decide +kernel⟩, uw3 (List.mem_of_getElem? (i := 159) rfl) rfl, uw3 (List.mem_of_getElem? (i := 160) rfl) rfl⟩
def iX5_moonLight : MI := (yX5_moonLight, cX5_moonLight, 3, (some .int), 1, 1, 21)
theorem kX5_moonLight : mOKv iX5_moonLight 1 := ⟨⟨uw3 (List.mem_of_getElem? (i := 76) rfl) rfl, uw1 (List.mem_of_getElem? (i := 2) rfl) rfl, by decide +kernel⟩, uw3 (List.mem_of_getElem? (i := 74) rfl) rfl, uw3 (List.mem_of_getElem? (i := 75) rfl) rfl⟩
def iX5_isFarFromMoon : MI := (yX5_isFarFromMoon, cX5_isFarFromMoon, 4, (some .boolean), 2, 2, 43)
theorem kX5_isFarFromMoon : mOKv iX5_isFarFromMoon 2 := ⟨⟨uw3 (List.mem_of_getElem? (i := 83) rfl) rfl, uw1 (List.mem_of_getElem? (i := 2) rfl) rfl, by decide +kernel⟩, uw3 (List.mem_of_getElem? (i := 81) rfl) rfl, uw3 (List.mem_of_getElem? (i := 82) rfl) rfl⟩
def iX5_suits : MI := (yX5_suits, cX5_suits, 8, (some .boolean), 2, 4, 94)
theorem kX5_suits : mOKv iX5_suits 4 := ⟨⟨uw3 (List.mem_of_getElem? (i := 67) rfl) rfl, uw1 (List.mem_of_getElem? (i := 2) rfl) rfl, by decide +kernel⟩, uw3 (List.mem_of_getElem? (i := 65) rfl) rfl, uw3 (List.mem_of_getElem? (i := 66) rfl) rfl⟩
def iX5_firstBegin : MI := (yX5_firstBegin, cX5_firstBegin, 6, (some .int), 1, 5, 121)
theorem kX5_firstBegin : mOKv iX5_firstBegin 4 := ⟨⟨uw4 (List.mem_of_getElem? (i := 81) rfl) rfl, uw1 (List.mem_of_getElem? (i := 2) rfl) rfl, by decide +kernel⟩, uw4 (List.mem_of_getElem? (i := 79) rfl) rfl, uw4 (List.mem_of_getElem? (i := 80) rfl) rfl⟩
def iX7_useFrom : MI := (yX7_useFrom, cX7_useFrom, 4, none, 0, 1, 21)
theorem kX7_useFrom : mOKv iX7_useFrom 2 := ⟨⟨uw3 (List.mem_of_getElem? (i := 239) rfl) rfl, uw1 (List.mem_of_getElem? (i := 3) rfl) rfl, by decide +kernel⟩, uw3 (List.mem_of_getElem? (i := 237) rfl) rfl, uw3 (List.mem_of_getElem? (i := 238) rfl) rfl⟩
def iX7_seeingAt : MI := (yX7_seeingAt, cX7_seeingAt, 2, (some .int), 1, 1, 21)
theorem kX7_seeingAt : mOKv iX7_seeingAt 1 := ⟨⟨uw3 (List.mem_of_getElem? (i := 30) rfl) rfl, uw1 (List.mem_of_getElem? (i := 3) rfl) rfl, by decide +kernel⟩, uw3 (List.mem_of_getElem? (i := 28) rfl) rfl, uw3 (List.mem_of_getElem? (i := 29) rfl) rfl⟩
def iX7_newestCalibration : MI := (yX7_newestCalibration, cX7_newestCalibration, 4, (some .int), 1, 1, 21)
theorem kX7_newestCalibration : mOKv iX7_newestCalibration 2 := ⟨⟨uw3 (List.mem_of_getElem? (i := 72) rfl) rfl, uw1 (List.mem_of_getElem? (i := 3) rfl) rfl, by decide +kernel⟩, uw3 (List.mem_of_getElem? (i := 70) rfl) rfl, uw3 (List.mem_of_getElem? (i := 71) rfl) rfl⟩
def iX7_heightAt : MI := (yX7_heightAt, cX7_heightAt, 7, (some .int), 1, 2, 43)
theorem kX7_heightAt : mOKv iX7_heightAt 3 := ⟨⟨uw3 (List.mem_of_getElem? (i := 101) rfl) rfl, uw1 (List.mem_of_getElem? (i := 3) rfl) rfl, by decide +kernel⟩, uw3 (List.mem_of_getElem? (i := 99) rfl) rfl, uw3 (List.mem_of_getElem? (i := 100) rfl) rfl⟩
def iX7_highSlots : MI := (yX7_highSlots, cX7_highSlots, 6, (some .int), 1, 3, 69)
theorem kX7_highSlots : mOKv iX7_highSlots 3 := ⟨⟨uw3 (List.mem_of_getElem? (i := 97) rfl) rfl, uw1 (List.mem_of_getElem? (i := 3) rfl) rfl, by decide +kernel⟩, uw3 (List.mem_of_getElem? (i := 95) rfl) rfl, uw3 (List.mem_of_getElem? (i := 96) rfl) rfl⟩
def iX9_begin : MI := (yX9_begin, cX9_begin, 3, none, 0, 1, 21)
theorem kX9_begin : mOKv iX9_begin 2 := ⟨⟨uw3 (List.mem_of_getElem? (i := 46) rfl) rfl, uw1 (List.mem_of_getElem? (i := 11) rfl) rfl, by decide +kernel⟩, uw3 (List.mem_of_getElem? (i := 44) rfl) rfl, uw3 (List.mem_of_getElem? (i := 45) rfl) rfl⟩
def iX9_clear : MI := (yX9_clear, cX9_clear, 1, none, 0, 2, 43)
theorem kX9_clear : mOKv iX9_clear 0 := ⟨⟨uw3 (List.mem_of_getElem? (i := 42) rfl) rfl, uw1 (List.mem_of_getElem? (i := 11) rfl) rfl, by decide +kernel⟩, uw3 (List.mem_of_getElem? (i := 40) rfl) rfl, uw3 (List.mem_of_getElem? (i := 41) rfl) rfl⟩
def iX9_takeOver : MI := (yX9_takeOver, cX9_takeOver, 2, none, 0, 3, 63)
theorem kX9_takeOver : mOKv iX9_takeOver 1 := ⟨⟨uw3 (List.mem_of_getElem? (i := 38) rfl) rfl, uw1 (List.mem_of_getElem? (i := 11) rfl) rfl, by decide +kernel⟩, uw3 (List.mem_of_getElem? (i := 36) rfl) rfl, uw3 (List.mem_of_getElem? (i := 37) rfl) rfl⟩
def iX10_weather : MI := (yX10_weather, cX10_weather, 8, none, 0, 8, 134)
def iX10_fault : MI := (yX10_fault, cX10_fault, 7, none, 0, 8, 134)
def iX10_mount : MI := (yX10_mount, cX10_mount, 5, (some .int), 1, 7, 111)
def iX10_calibrate : MI := (yX10_calibrate, cX10_calibrate, 6, (some .boolean), 2, 7, 111)
def iX10_light : MI := (yX10_light, cX10_light, 2, (some .int), 1, 7, 111)
def iX10_seeing : MI := (yX10_seeing, cX10_seeing, 4, (some .int), 1, 8, 134)
def iX10_share : MI := (yX10_share, cX10_share, 4, (some .int), 1, 7, 112)
def iX10_proposal : MI := (yX10_proposal, cX10_proposal, 7, (some .int), 1, 7, 112)
def iX10_target : MI := (yX10_target, cX10_target, 12, (some .int), 1, 8, 133)
def iX10_series : MI := (yX10_series, cX10_series, 6, none, 0, 7, 112)
def iX10_alert : MI := (yX10_alert, cX10_alert, 12, (some .int), 1, 8, 133)
def iX10_wants : MI := (yX10_wants, cX10_wants, 3, (some .boolean), 2, 7, 111)
def iX10_chances : MI := (yX10_chances, cX10_chances, 7, (some .int), 1, 7, 121)
def iX10_run : MI := (yX10_run, cX10_run, 3, (some .int), 1, 7, 171)
def iX10_now : MI := (yX10_now, cX10_now, 1, (some .int), 1, 1, 21)
theorem kX10_now : mOKv iX10_now 0 := ⟨⟨uw4 (List.mem_of_getElem? (i := 50) rfl) rfl, uw1 (List.mem_of_getElem? (i := 1) rfl) rfl, by decide +kernel⟩, uw4 (List.mem_of_getElem? (i := 48) rfl) rfl, uw4 (List.mem_of_getElem? (i := 49) rfl) rfl⟩
def iX10_goingOn : MI := (yX10_goingOn, cX10_goingOn, 4, (some .int), 1, 7, 112)
def iX10_waiting : MI := (yX10_waiting, cX10_waiting, 3, (some .int), 1, 1, 21)
theorem kX10_waiting : mOKv iX10_waiting 0 := ⟨⟨uw4 (List.mem_of_getElem? (i := 46) rfl) rfl, uw1 (List.mem_of_getElem? (i := 1) rfl) rfl, by decide +kernel⟩, uw4 (List.mem_of_getElem? (i := 44) rfl) rfl, uw4 (List.mem_of_getElem? (i := 45) rfl) rfl⟩
def iX10_visits : MI := (yX10_visits, cX10_visits, 2, (some .int), 1, 7, 111)
def iX10_slots : MI := (yX10_slots, cX10_slots, 3, (some .int), 1, 7, 111)
def iX10_lost : MI := (yX10_lost, cX10_lost, 3, (some .int), 1, 7, 111)
def iX10_data : MI := (yX10_data, cX10_data, 1, (some .int), 1, 1, 21)
theorem kX10_data : mOKv iX10_data 0 := ⟨⟨uw4 (List.mem_of_getElem? (i := 54) rfl) rfl, uw1 (List.mem_of_getElem? (i := 1) rfl) rfl, by decide +kernel⟩, uw4 (List.mem_of_getElem? (i := 52) rfl) rfl, uw4 (List.mem_of_getElem? (i := 53) rfl) rfl⟩
def iX10_datum : MI := (yX10_datum, cX10_datum, 3, (some .int), 1, 7, 112)
def iX10_reads : MI := (yX10_reads, cX10_reads, 7, (some .boolean), 2, 7, 111)
def iX10_replay : MI := (yX10_replay, cX10_replay, 3, (some .int), 1, 7, 171)
def iX10_bestOrder : MI := (yX10_bestOrder, cX10_bestOrder, 6, (some .int), 1, 7, 177)
def iX10_mostFilled : MI := (yX10_mostFilled, cX10_mostFilled, 12, (some .int), 1, 6, 146)
theorem kX10_mostFilled : mOKv iX10_mostFilled 3 := ⟨⟨uw4 (List.mem_of_getElem? (i := 86) rfl) rfl, uw1 (List.mem_of_getElem? (i := 1) rfl) rfl, by decide +kernel⟩, uw4 (List.mem_of_getElem? (i := 85) rfl) rfl, uwp (List.mem_of_getElem? (i := 1) rfl) rfl⟩
def iX10_angle : MI := (yX10_angle, cX10_angle, 3, (some .int), 1, 1, 21)
theorem kX10_angle : mOKs iX10_angle 2 := ⟨⟨uw3 (List.mem_of_getElem? (i := 86) rfl) rfl, uw1 (List.mem_of_getElem? (i := 1) rfl) rfl, by decide +kernel⟩, uw3 (List.mem_of_getElem? (i := 85) rfl) rfl⟩
def iX10_needIndex : MI := (yX10_needIndex, cX10_needIndex, 2, none, 0, 6, 90)
def iX10_needSlots : MI := (yX10_needSlots, cX10_needSlots, 4, none, 0, 7, 111)
def iX10_needRange : MI := (yX10_needRange, cX10_needRange, 3, none, 0, 6, 90)
def iX10_needOrder : MI := (yX10_needOrder, cX10_needOrder, 2, none, 0, 6, 90)
def iX10_needSky : MI := (yX10_needSky, cX10_needSky, 2, none, 0, 7, 112)
def iX10_needState : MI := (yX10_needState, cX10_needState, 1, none, 0, 6, 90)
def iJ6_compare_7cf53 : MI := (yJ6_compare_7cf53, cJ6_compare_7cf53, 2, (some .int), 1, 1, 21)
theorem kJ6_compare_7cf53 : mOKs iJ6_compare_7cf53 2 := ⟨⟨uw3 (List.mem_of_getElem? (i := 138) rfl) rfl, uw1 (List.mem_of_getElem? (i := 20) rfl) rfl, by decide +kernel⟩, uw3 (List.mem_of_getElem? (i := 137) rfl) rfl⟩
def iJ9_abs_0f7a4 : MI := (yJ9_abs_0f7a4, cJ9_abs_0f7a4, 1, (some .int), 1, 1, 21)
theorem kJ9_abs_0f7a4 : mOKs iJ9_abs_0f7a4 1 := ⟨⟨uw3 (List.mem_of_getElem? (i := 79) rfl) rfl, uw1 (List.mem_of_getElem? (i := 18) rfl) rfl, by decide +kernel⟩, uw3 (List.mem_of_getElem? (i := 78) rfl) rfl⟩
def iJ9_max_7cf53 : MI := (yJ9_max_7cf53, cJ9_max_7cf53, 2, (some .int), 1, 1, 21)
theorem kJ9_max_7cf53 : mOKs iJ9_max_7cf53 2 := ⟨⟨uw3 (List.mem_of_getElem? (i := 93) rfl) rfl, uw1 (List.mem_of_getElem? (i := 18) rfl) rfl, by decide +kernel⟩, uw3 (List.mem_of_getElem? (i := 92) rfl) rfl⟩
def iJ9_min_7cf53 : MI := (yJ9_min_7cf53, cJ9_min_7cf53, 2, (some .int), 1, 1, 21)
theorem kJ9_min_7cf53 : mOKs iJ9_min_7cf53 2 := ⟨⟨uw3 (List.mem_of_getElem? (i := 90) rfl) rfl, uw1 (List.mem_of_getElem? (i := 18) rfl) rfl, by decide +kernel⟩, uw3 (List.mem_of_getElem? (i := 89) rfl) rfl⟩
def iL_cell : MI := (yL_cell, cL_cell, 2, (some .int), 1, 1, 21)
theorem kL_cell : mOKs iL_cell 2 := ⟨⟨uw3 (List.mem_of_getElem? (i := 164) rfl) rfl, uw1 (List.mem_of_getElem? (i := 0) rfl) rfl, by decide +kernel⟩, uw3 (List.mem_of_getElem? (i := 163) rfl) rfl⟩
def iL_low : MI := (yL_low, cL_low, 2, (some .int), 1, 1, 21)
theorem kL_low : mOKs iL_low 2 := ⟨⟨uw3 (List.mem_of_getElem? (i := 168) rfl) rfl, uw1 (List.mem_of_getElem? (i := 0) rfl) rfl, by decide +kernel⟩, uw3 (List.mem_of_getElem? (i := 167) rfl) rfl⟩
def iL_targets : MI := (yL_targets, cL_targets, 4, (some .int), 1, 9, 164)
def iL_rows : MI := (yL_rows, cL_rows, 6, (some .int), 1, 8, 137)
def iL_alarms : MI := (yL_alarms, cL_alarms, 8, (some .int), 1, 9, 164)
def iL_mounts : MI := (yL_mounts, cL_mounts, 5, (some .int), 1, 8, 135)
def iL_replays : MI := (yL_replays, cL_replays, 3, (some .int), 1, 8, 193)
def iL_proposals : MI := (yL_proposals, cL_proposals, 6, (some .int), 1, 8, 138)
def iL_tell : MI := (yL_tell, cL_tell, 4, (some (.array .int)), 3, 8, 135)
theorem kL_tell : mOKs iL_tell 2 := ⟨⟨uw4 (List.mem_of_getElem? (i := 21) rfl) rfl, uw1 (List.mem_of_getElem? (i := 0) rfl) rfl, by decide +kernel⟩, uw4 (List.mem_of_getElem? (i := 20) rfl) rfl⟩
def iL_same : MI := (yL_same, cL_same, 3, (some .boolean), 2, 1, 21)
theorem kL_same : mOKs iL_same 2 := ⟨⟨uw4 (List.mem_of_getElem? (i := 57) rfl) rfl, uw1 (List.mem_of_getElem? (i := 0) rfl) rfl, by decide +kernel⟩, uw4 (List.mem_of_getElem? (i := 56) rfl) rfl⟩
def iL_asks : MI := (yL_asks, cL_asks, 11, (some .boolean), 2, 9, 202)
theorem kL_asks : mOKs iL_asks 3 := ⟨⟨uw4 (List.mem_of_getElem? (i := 60) rfl) rfl, uw1 (List.mem_of_getElem? (i := 0) rfl) rfl, by decide +kernel⟩, uw4 (List.mem_of_getElem? (i := 59) rfl) rfl⟩
def iL_act : MI := (yL_act, cL_act, 6, (some .int), 1, 10, 215)
theorem kL_act : mOKs iL_act 4 := ⟨⟨uw4 (List.mem_of_getElem? (i := 102) rfl) rfl, uw1 (List.mem_of_getElem? (i := 0) rfl) rfl, by decide +kernel⟩, uw4 (List.mem_of_getElem? (i := 101) rfl) rfl⟩
