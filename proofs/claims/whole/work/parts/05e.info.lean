/-! ===== words by their places in the chunks of the tables ===== -/
theorem uwt {w : Cond} (h : w ∈ tables_1) (g : goodWord w = true) : w ∈ UW := List.mem_filter.mpr ⟨List.mem_append_right _ h, g⟩
theorem uwp {w : Cond} (h : w ∈ k2_sels lw_privs) (g : goodWord w = true) : w ∈ UW := List.mem_filter.mpr ⟨List.mem_append_left _ h, g⟩
theorem uw1 {w : Cond} (h : w ∈ tables_1_1) (g : goodWord w = true) : w ∈ UW := uwt (List.mem_append_left _ h) g
theorem uw2 {w : Cond} (h : w ∈ tables_1_2) (g : goodWord w = true) : w ∈ UW := uwt (List.mem_append_right _ (List.mem_append_left _ h)) g
theorem uw3 {w : Cond} (h : w ∈ tables_1_3) (g : goodWord w = true) : w ∈ UW := uwt (List.mem_append_right _ (List.mem_append_right _ (List.mem_append_left _ h))) g
theorem uw4 {w : Cond} (h : w ∈ tables_1_4) (g : goodWord w = true) : w ∈ UW := uwt (List.mem_append_right _ (List.mem_append_right _ (List.mem_append_right _ (List.mem_append_left _ h)))) g
theorem uw5 {w : Cond} (h : w ∈ tables_1_5) (g : goodWord w = true) : w ∈ UW := uwt (List.mem_append_right _ (List.mem_append_right _ (List.mem_append_right _ (List.mem_append_right _ (List.mem_append_left _ h))))) g
theorem uw6 {w : Cond} (h : w ∈ tables_1_6) (g : goodWord w = true) : w ∈ UW := uwt (List.mem_append_right _ (List.mem_append_right _ (List.mem_append_right _ (List.mem_append_right _ (List.mem_append_right _ (h)))))) g
/-! ===== the methods: name, code, locals, answer, room ===== -/
def iX0_aimAt : MI := (yX0_aimAt, cX0_aimAt, 5, none, 0, 1, 21)
-- no selects: X0_aimAt
def iX2_keep : MI := (yX2_keep, cX2_keep, 8, none, 0, 1, 21)
theorem kX2_keep : mOKv iX2_keep 6 := ⟨⟨uw4 (List.mem_of_getElem? (i := 91) rfl) rfl, uw1 (List.mem_of_getElem? (i := 10) rfl) rfl, by decide +kernel⟩, uw4 (List.mem_of_getElem? (i := 89) rfl) rfl, uw4 (List.mem_of_getElem? (i := 90) rfl) rfl⟩
def iX3_copyFrom : MI := (yX3_copyFrom, cX3_copyFrom, 3, none, 0, 1, 60)
theorem kX3_copyFrom : mOKv iX3_copyFrom 1 := ⟨⟨uw4 (List.mem_of_getElem? (i := 9) rfl) rfl, uw1 (List.mem_of_getElem? (i := 9) rfl) rfl, by decide +kernel⟩, uw4 (List.mem_of_getElem? (i := 7) rfl) rfl, uw4 (List.mem_of_getElem? (i := 8) rfl) rfl⟩
def iX3_isWanted : MI := (yX3_isWanted, cX3_isWanted, 3, (some .boolean), 2, 2, 45)
theorem kX3_isWanted : mOKv iX3_isWanted 2 := ⟨⟨uw3 (List.mem_of_getElem? (i := 205) rfl) rfl, uw1 (List.mem_of_getElem? (i := 9) rfl) rfl, by decide +kernel⟩, uw3 (List.mem_of_getElem? (i := 203) rfl) rfl, uw3 (List.mem_of_getElem? (i := 204) rfl) rfl⟩
def iX3_openPhase : MI := (yX3_openPhase, cX3_openPhase, 5, (some .int), 1, 1, 21)
theorem kX3_openPhase : mOKv iX3_openPhase 2 := ⟨⟨uw3 (List.mem_of_getElem? (i := 209) rfl) rfl, uw1 (List.mem_of_getElem? (i := 9) rfl) rfl, by decide +kernel⟩, uw3 (List.mem_of_getElem? (i := 207) rfl) rfl, uw3 (List.mem_of_getElem? (i := 208) rfl) rfl⟩
def iX3_addGood : MI := (yX3_addGood, cX3_addGood, 4, none, 0, 2, 45)
theorem kX3_addGood : mOKv iX3_addGood 2 := ⟨⟨uw4 (List.mem_of_getElem? (i := 95) rfl) rfl, uw1 (List.mem_of_getElem? (i := 9) rfl) rfl, by decide +kernel⟩, uw4 (List.mem_of_getElem? (i := 93) rfl) rfl, uw4 (List.mem_of_getElem? (i := 94) rfl) rfl⟩
def iX3_allCounted : MI := (yX3_allCounted, cX3_allCounted, 3, (some .int), 1, 1, 21)
theorem kX3_allCounted : mOKv iX3_allCounted 0 := ⟨⟨uw4 (List.mem_of_getElem? (i := 73) rfl) rfl, uw1 (List.mem_of_getElem? (i := 9) rfl) rfl, by decide +kernel⟩, uw4 (List.mem_of_getElem? (i := 71) rfl) rfl, uw4 (List.mem_of_getElem? (i := 72) rfl) rfl⟩
def iX4_restart : MI := (yX4_restart, cX4_restart, 3, none, 0, 2, 82)
theorem kX4_restart : mOKv iX4_restart 2 := ⟨⟨uw4 (List.mem_of_getElem? (i := 159) rfl) rfl, uw1 (List.mem_of_getElem? (i := 8) rfl) rfl, by decide +kernel⟩, uw4 (List.mem_of_getElem? (i := 157) rfl) rfl, uw4 (List.mem_of_getElem? (i := 158) rfl) rfl⟩
def iX4_runSlot : MI := (yX4_runSlot, cX4_runSlot, 3, none, 0, 6, 149)
theorem kX4_runSlot : mOKv iX4_runSlot 0 := ⟨⟨uw4 (List.mem_of_getElem? (i := 16) rfl) rfl, uw1 (List.mem_of_getElem? (i := 8) rfl) rfl, by decide +kernel⟩, uw4 (List.mem_of_getElem? (i := 14) rfl) rfl, uw4 (List.mem_of_getElem? (i := 15) rfl) rfl⟩
def iX4_breakOff : MI := (yX4_breakOff, cX4_breakOff, 3, none, 0, 4, 84)
theorem kX4_breakOff : mOKv iX4_breakOff 1 := ⟨⟨uw4 (List.mem_of_getElem? (i := 21) rfl) rfl, uw1 (List.mem_of_getElem? (i := 8) rfl) rfl, by decide +kernel⟩, uw4 (List.mem_of_getElem? (i := 19) rfl) rfl, uw4 (List.mem_of_getElem? (i := 20) rfl) rfl⟩
def iX4_lose : MI := (yX4_lose, cX4_lose, 2, none, 0, 3, 63)
theorem kX4_lose : mOKv iX4_lose 1 := ⟨⟨uw4 (List.mem_of_getElem? (i := 37) rfl) rfl, uw1 (List.mem_of_getElem? (i := 8) rfl) rfl, by decide +kernel⟩, uw4 (List.mem_of_getElem? (i := 35) rfl) rfl, uw4 (List.mem_of_getElem? (i := 36) rfl) rfl⟩
def iX4_aimOf : MI := (yX4_aimOf, cX4_aimOf, 2, (some (.object "Cloudseed$Aim")), 3, 1, 21)
theorem kX4_aimOf : mOKv iX4_aimOf 1 := ⟨⟨uw4 (List.mem_of_getElem? (i := 41) rfl) rfl, uw1 (List.mem_of_getElem? (i := 8) rfl) rfl, by decide +kernel⟩, uw4 (List.mem_of_getElem? (i := 39) rfl) rfl, uw4 (List.mem_of_getElem? (i := 40) rfl) rfl⟩
def iX4_isObserved : MI := (yX4_isObserved, cX4_isObserved, 4, (some .boolean), 2, 1, 21)
theorem kX4_isObserved : mOKv iX4_isObserved 2 := ⟨⟨uw4 (List.mem_of_getElem? (i := 50) rfl) rfl, uw1 (List.mem_of_getElem? (i := 8) rfl) rfl, by decide +kernel⟩, uw4 (List.mem_of_getElem? (i := 48) rfl) rfl, uw4 (List.mem_of_getElem? (i := 49) rfl) rfl⟩
def iX4_beginAlert : MI := (yX4_beginAlert, cX4_beginAlert, 7, none, 0, 5, 121)
theorem kX4_beginAlert : mOKv iX4_beginAlert 2 := ⟨⟨uw4 (List.mem_of_getElem? (i := 46) rfl) rfl, uw1 (List.mem_of_getElem? (i := 8) rfl) rfl, by decide +kernel⟩, uw4 (List.mem_of_getElem? (i := 44) rfl) rfl, uw4 (List.mem_of_getElem? (i := 45) rfl) rfl⟩
def iX4_resume : MI := (yX4_resume, cX4_resume, 7, none, 0, 5, 121)
theorem kX4_resume : mOKv iX4_resume 2 := ⟨⟨uw4 (List.mem_of_getElem? (i := 56) rfl) rfl, uw1 (List.mem_of_getElem? (i := 8) rfl) rfl, by decide +kernel⟩, uw4 (List.mem_of_getElem? (i := 54) rfl) rfl, uw4 (List.mem_of_getElem? (i := 55) rfl) rfl⟩
def iX4_beginTarget : MI := (yX4_beginTarget, cX4_beginTarget, 9, none, 0, 5, 121)
theorem kX4_beginTarget : mOKv iX4_beginTarget 2 := ⟨⟨uw4 (List.mem_of_getElem? (i := 60) rfl) rfl, uw1 (List.mem_of_getElem? (i := 8) rfl) rfl, by decide +kernel⟩, uw4 (List.mem_of_getElem? (i := 58) rfl) rfl, uw4 (List.mem_of_getElem? (i := 59) rfl) rfl⟩
def iX4_compare : MI := (yX4_compare, cX4_compare, 6, (some .int), 1, 3, 64)
theorem kX4_compare : mOKv iX4_compare 2 := ⟨⟨uw4 (List.mem_of_getElem? (i := 65) rfl) rfl, uw1 (List.mem_of_getElem? (i := 8) rfl) rfl, by decide +kernel⟩, uw4 (List.mem_of_getElem? (i := 63) rfl) rfl, uw4 (List.mem_of_getElem? (i := 64) rfl) rfl⟩
def iX4_arrears : MI := (yX4_arrears, cX4_arrears, 2, (some .int), 1, 2, 43)
theorem kX4_arrears : mOKv iX4_arrears 1 := ⟨⟨uw4 (List.mem_of_getElem? (i := 69) rfl) rfl, uw1 (List.mem_of_getElem? (i := 8) rfl) rfl, by decide +kernel⟩, uw4 (List.mem_of_getElem? (i := 67) rfl) rfl, uw4 (List.mem_of_getElem? (i := 68) rfl) rfl⟩
def iX4_observe : MI := (yX4_observe, cX4_observe, 3, none, 0, 4, 95)
theorem kX4_observe : mOKv iX4_observe 2 := ⟨⟨uw4 (List.mem_of_getElem? (i := 81) rfl) rfl, uw1 (List.mem_of_getElem? (i := 8) rfl) rfl, by decide +kernel⟩, uw4 (List.mem_of_getElem? (i := 79) rfl) rfl, uw4 (List.mem_of_getElem? (i := 80) rfl) rfl⟩
def iX4_finish : MI := (yX4_finish, cX4_finish, 8, none, 0, 3, 68)
theorem kX4_finish : mOKv iX4_finish 2 := ⟨⟨uw4 (List.mem_of_getElem? (i := 86) rfl) rfl, uw1 (List.mem_of_getElem? (i := 8) rfl) rfl, by decide +kernel⟩, uw4 (List.mem_of_getElem? (i := 84) rfl) rfl, uw4 (List.mem_of_getElem? (i := 85) rfl) rfl⟩
def iX4_endNight : MI := (yX4_endNight, cX4_endNight, 2, none, 0, 4, 84)
theorem kX4_endNight : mOKv iX4_endNight 0 := ⟨⟨uw4 (List.mem_of_getElem? (i := 99) rfl) rfl, uw1 (List.mem_of_getElem? (i := 8) rfl) rfl, by decide +kernel⟩, uw4 (List.mem_of_getElem? (i := 97) rfl) rfl, uw4 (List.mem_of_getElem? (i := 98) rfl) rfl⟩
def iX5_moonLight : MI := (yX5_moonLight, cX5_moonLight, 3, (some .int), 1, 1, 21)
theorem kX5_moonLight : mOKv iX5_moonLight 1 := ⟨⟨uw3 (List.mem_of_getElem? (i := 138) rfl) rfl, uw1 (List.mem_of_getElem? (i := 2) rfl) rfl, by decide +kernel⟩, uw3 (List.mem_of_getElem? (i := 136) rfl) rfl, uw3 (List.mem_of_getElem? (i := 137) rfl) rfl⟩
def iX5_isFarFromMoon : MI := (yX5_isFarFromMoon, cX5_isFarFromMoon, 4, (some .boolean), 2, 2, 43)
theorem kX5_isFarFromMoon : mOKv iX5_isFarFromMoon 2 := ⟨⟨uw3 (List.mem_of_getElem? (i := 231) rfl) rfl, uw1 (List.mem_of_getElem? (i := 2) rfl) rfl, by decide +kernel⟩, uw3 (List.mem_of_getElem? (i := 229) rfl) rfl, uw3 (List.mem_of_getElem? (i := 230) rfl) rfl⟩
def iX5_suits : MI := (yX5_suits, cX5_suits, 8, (some .boolean), 2, 4, 94)
theorem kX5_suits : mOKv iX5_suits 4 := ⟨⟨uw3 (List.mem_of_getElem? (i := 221) rfl) rfl, uw1 (List.mem_of_getElem? (i := 2) rfl) rfl, by decide +kernel⟩, uw3 (List.mem_of_getElem? (i := 219) rfl) rfl, uw3 (List.mem_of_getElem? (i := 220) rfl) rfl⟩
def iX5_firstBegin : MI := (yX5_firstBegin, cX5_firstBegin, 6, (some .int), 1, 5, 121)
theorem kX5_firstBegin : mOKv iX5_firstBegin 4 := ⟨⟨uw4 (List.mem_of_getElem? (i := 171) rfl) rfl, uw1 (List.mem_of_getElem? (i := 2) rfl) rfl, by decide +kernel⟩, uw4 (List.mem_of_getElem? (i := 169) rfl) rfl, uw4 (List.mem_of_getElem? (i := 170) rfl) rfl⟩
def iX7_useFrom : MI := (yX7_useFrom, cX7_useFrom, 4, none, 0, 1, 21)
theorem kX7_useFrom : mOKv iX7_useFrom 2 := ⟨⟨uw3 (List.mem_of_getElem? (i := 92) rfl) rfl, uw1 (List.mem_of_getElem? (i := 3) rfl) rfl, by decide +kernel⟩, uw3 (List.mem_of_getElem? (i := 90) rfl) rfl, uw3 (List.mem_of_getElem? (i := 91) rfl) rfl⟩
def iX7_seeingAt : MI := (yX7_seeingAt, cX7_seeingAt, 2, (some .int), 1, 1, 21)
theorem kX7_seeingAt : mOKv iX7_seeingAt 1 := ⟨⟨uw3 (List.mem_of_getElem? (i := 150) rfl) rfl, uw1 (List.mem_of_getElem? (i := 3) rfl) rfl, by decide +kernel⟩, uw3 (List.mem_of_getElem? (i := 148) rfl) rfl, uw3 (List.mem_of_getElem? (i := 149) rfl) rfl⟩
def iX7_newestCalibration : MI := (yX7_newestCalibration, cX7_newestCalibration, 4, (some .int), 1, 1, 21)
theorem kX7_newestCalibration : mOKv iX7_newestCalibration 2 := ⟨⟨uw3 (List.mem_of_getElem? (i := 226) rfl) rfl, uw1 (List.mem_of_getElem? (i := 3) rfl) rfl, by decide +kernel⟩, uw3 (List.mem_of_getElem? (i := 224) rfl) rfl, uw3 (List.mem_of_getElem? (i := 225) rfl) rfl⟩
def iX7_heightAt : MI := (yX7_heightAt, cX7_heightAt, 7, (some .int), 1, 2, 43)
theorem kX7_heightAt : mOKv iX7_heightAt 3 := ⟨⟨uw3 (List.mem_of_getElem? (i := 113) rfl) rfl, uw1 (List.mem_of_getElem? (i := 3) rfl) rfl, by decide +kernel⟩, uw3 (List.mem_of_getElem? (i := 111) rfl) rfl, uw3 (List.mem_of_getElem? (i := 112) rfl) rfl⟩
def iX7_highSlots : MI := (yX7_highSlots, cX7_highSlots, 6, (some .int), 1, 3, 69)
theorem kX7_highSlots : mOKv iX7_highSlots 3 := ⟨⟨uw3 (List.mem_of_getElem? (i := 237) rfl) rfl, uw1 (List.mem_of_getElem? (i := 3) rfl) rfl, by decide +kernel⟩, uw3 (List.mem_of_getElem? (i := 235) rfl) rfl, uw3 (List.mem_of_getElem? (i := 236) rfl) rfl⟩
def iX9_begin : MI := (yX9_begin, cX9_begin, 3, none, 0, 1, 21)
theorem kX9_begin : mOKv iX9_begin 2 := ⟨⟨uw4 (List.mem_of_getElem? (i := 33) rfl) rfl, uw1 (List.mem_of_getElem? (i := 11) rfl) rfl, by decide +kernel⟩, uw4 (List.mem_of_getElem? (i := 31) rfl) rfl, uw4 (List.mem_of_getElem? (i := 32) rfl) rfl⟩
def iX9_clear : MI := (yX9_clear, cX9_clear, 1, none, 0, 2, 43)
theorem kX9_clear : mOKv iX9_clear 0 := ⟨⟨uw4 (List.mem_of_getElem? (i := 29) rfl) rfl, uw1 (List.mem_of_getElem? (i := 11) rfl) rfl, by decide +kernel⟩, uw4 (List.mem_of_getElem? (i := 27) rfl) rfl, uw4 (List.mem_of_getElem? (i := 28) rfl) rfl⟩
def iX9_takeOver : MI := (yX9_takeOver, cX9_takeOver, 2, none, 0, 3, 63)
theorem kX9_takeOver : mOKv iX9_takeOver 1 := ⟨⟨uw4 (List.mem_of_getElem? (i := 25) rfl) rfl, uw1 (List.mem_of_getElem? (i := 11) rfl) rfl, by decide +kernel⟩, uw4 (List.mem_of_getElem? (i := 23) rfl) rfl, uw4 (List.mem_of_getElem? (i := 24) rfl) rfl⟩
def iX10_place : MI := (yX10_place, cX10_place, 4, none, 0, 7, 112)
def iX10_moon : MI := (yX10_moon, cX10_moon, 3, (some .int), 1, 7, 112)
def iX10_weather : MI := (yX10_weather, cX10_weather, 8, none, 0, 8, 134)
def iX10_fault : MI := (yX10_fault, cX10_fault, 7, none, 0, 8, 134)
def iX10_mount : MI := (yX10_mount, cX10_mount, 5, (some .int), 1, 7, 111)
def iX10_calibrate : MI := (yX10_calibrate, cX10_calibrate, 6, (some .boolean), 2, 7, 111)
def iX10_height : MI := (yX10_height, cX10_height, 6, (some .int), 1, 8, 134)
def iX10_light : MI := (yX10_light, cX10_light, 2, (some .int), 1, 7, 111)
def iX10_seeing : MI := (yX10_seeing, cX10_seeing, 4, (some .int), 1, 8, 134)
def iX10_share : MI := (yX10_share, cX10_share, 4, (some .int), 1, 7, 112)
def iX10_proposal : MI := (yX10_proposal, cX10_proposal, 7, (some .int), 1, 7, 112)
def iX10_target : MI := (yX10_target, cX10_target, 12, (some .int), 1, 8, 133)
def iX10_series : MI := (yX10_series, cX10_series, 6, none, 0, 7, 112)
def iX10_alert : MI := (yX10_alert, cX10_alert, 12, (some .int), 1, 8, 133)
def iX10_wants : MI := (yX10_wants, cX10_wants, 3, (some .boolean), 2, 7, 111)
def iX10_chances : MI := (yX10_chances, cX10_chances, 7, (some .int), 1, 7, 121)
def iX10_run : MI := (yX10_run, cX10_run, 3, (some .int), 1, 7, 171)
def iX10_now : MI := (yX10_now, cX10_now, 1, (some .int), 1, 1, 21)
theorem kX10_now : mOKv iX10_now 0 := ⟨⟨uw2 (List.mem_of_getElem? (i := 166) rfl) rfl, uw1 (List.mem_of_getElem? (i := 1) rfl) rfl, by decide +kernel⟩, uw2 (List.mem_of_getElem? (i := 164) rfl) rfl, uw2 (List.mem_of_getElem? (i := 165) rfl) rfl⟩
def iX10_goingOn : MI := (yX10_goingOn, cX10_goingOn, 4, (some .int), 1, 7, 112)
def iX10_waiting : MI := (yX10_waiting, cX10_waiting, 3, (some .int), 1, 1, 21)
theorem kX10_waiting : mOKv iX10_waiting 0 := ⟨⟨uw2 (List.mem_of_getElem? (i := 170) rfl) rfl, uw1 (List.mem_of_getElem? (i := 1) rfl) rfl, by decide +kernel⟩, uw2 (List.mem_of_getElem? (i := 168) rfl) rfl, uw2 (List.mem_of_getElem? (i := 169) rfl) rfl⟩
def iX10_visits : MI := (yX10_visits, cX10_visits, 2, (some .int), 1, 7, 111)
def iX10_served : MI := (yX10_served, cX10_served, 2, (some .boolean), 2, 7, 111)
def iX10_slots : MI := (yX10_slots, cX10_slots, 3, (some .int), 1, 7, 111)
def iX10_lost : MI := (yX10_lost, cX10_lost, 3, (some .int), 1, 7, 111)
def iX10_data : MI := (yX10_data, cX10_data, 1, (some .int), 1, 1, 21)
theorem kX10_data : mOKv iX10_data 0 := ⟨⟨uw2 (List.mem_of_getElem? (i := 174) rfl) rfl, uw1 (List.mem_of_getElem? (i := 1) rfl) rfl, by decide +kernel⟩, uw2 (List.mem_of_getElem? (i := 172) rfl) rfl, uw2 (List.mem_of_getElem? (i := 173) rfl) rfl⟩
def iX10_datum : MI := (yX10_datum, cX10_datum, 3, (some .int), 1, 7, 112)
def iX10_reads : MI := (yX10_reads, cX10_reads, 7, (some .boolean), 2, 7, 111)
def iX10_replay : MI := (yX10_replay, cX10_replay, 3, (some .int), 1, 7, 171)
def iX10_bestOrder : MI := (yX10_bestOrder, cX10_bestOrder, 6, (some .int), 1, 7, 177)
def iX10_mostFilled : MI := (yX10_mostFilled, cX10_mostFilled, 12, (some .int), 1, 6, 146)
theorem kX10_mostFilled : mOKv iX10_mostFilled 3 := ⟨⟨uw4 (List.mem_of_getElem? (i := 176) rfl) rfl, uw1 (List.mem_of_getElem? (i := 1) rfl) rfl, by decide +kernel⟩, uw4 (List.mem_of_getElem? (i := 175) rfl) rfl, uwp (List.mem_of_getElem? (i := 1) rfl) rfl⟩
def iX10_angle : MI := (yX10_angle, cX10_angle, 3, (some .int), 1, 1, 21)
theorem kX10_angle : mOKs iX10_angle 2 := ⟨⟨uw3 (List.mem_of_getElem? (i := 116) rfl) rfl, uw1 (List.mem_of_getElem? (i := 1) rfl) rfl, by decide +kernel⟩, uw3 (List.mem_of_getElem? (i := 115) rfl) rfl⟩
def iX10_needIndex : MI := (yX10_needIndex, cX10_needIndex, 2, none, 0, 6, 90)
def iX10_needSlots : MI := (yX10_needSlots, cX10_needSlots, 4, none, 0, 7, 111)
def iX10_needRange : MI := (yX10_needRange, cX10_needRange, 3, none, 0, 6, 90)
def iX10_needOrder : MI := (yX10_needOrder, cX10_needOrder, 2, none, 0, 6, 90)
def iX10_needSky : MI := (yX10_needSky, cX10_needSky, 2, none, 0, 7, 112)
def iX10_needState : MI := (yX10_needState, cX10_needState, 1, none, 0, 6, 90)
def iX11_thrown : MI := (yX11_thrown, cX11_thrown, 1, (some .int), 1, 1, 21)
theorem kX11_thrown : mOKv iX11_thrown 0 := ⟨⟨uw5 (List.mem_of_getElem? (i := 130) rfl) rfl, uw1 (List.mem_of_getElem? (i := 12) rfl) rfl, by decide +kernel⟩, uw5 (List.mem_of_getElem? (i := 128) rfl) rfl, uw5 (List.mem_of_getElem? (i := 129) rfl) rfl⟩
def iX11_holds : MI := (yX11_holds, cX11_holds, 2, (some .boolean), 2, 1, 21)
theorem kX11_holds : mOKv iX11_holds 1 := ⟨⟨uw5 (List.mem_of_getElem? (i := 146) rfl) rfl, uw1 (List.mem_of_getElem? (i := 12) rfl) rfl, by decide +kernel⟩, uw5 (List.mem_of_getElem? (i := 145) rfl) rfl, uwp (List.mem_of_getElem? (i := 4) rfl) rfl⟩
def iX11_in : MI := (yX11_in, cX11_in, 4, (some .boolean), 2, 1, 21)
theorem kX11_in : mOKv iX11_in 3 := ⟨⟨uw5 (List.mem_of_getElem? (i := 142) rfl) rfl, uw1 (List.mem_of_getElem? (i := 12) rfl) rfl, by decide +kernel⟩, uw5 (List.mem_of_getElem? (i := 141) rfl) rfl, uwp (List.mem_of_getElem? (i := 3) rfl) rfl⟩
def iX11_isSite : MI := (yX11_isSite, cX11_isSite, 2, (some .boolean), 2, 2, 44)
theorem kX11_isSite : mOKv iX11_isSite 1 := ⟨⟨uw5 (List.mem_of_getElem? (i := 138) rfl) rfl, uw1 (List.mem_of_getElem? (i := 12) rfl) rfl, by decide +kernel⟩, uw5 (List.mem_of_getElem? (i := 137) rfl) rfl, uwp (List.mem_of_getElem? (i := 2) rfl) rfl⟩
def iX11_isNight : MI := (yX11_isNight, cX11_isNight, 2, (some .boolean), 2, 2, 44)
theorem kX11_isNight : mOKv iX11_isNight 1 := ⟨⟨uw5 (List.mem_of_getElem? (i := 162) rfl) rfl, uw1 (List.mem_of_getElem? (i := 12) rfl) rfl, by decide +kernel⟩, uw5 (List.mem_of_getElem? (i := 161) rfl) rfl, uwp (List.mem_of_getElem? (i := 6) rfl) rfl⟩
def iX11_isSlot : MI := (yX11_isSlot, cX11_isSlot, 2, (some .boolean), 2, 2, 44)
theorem kX11_isSlot : mOKv iX11_isSlot 1 := ⟨⟨uw5 (List.mem_of_getElem? (i := 166) rfl) rfl, uw1 (List.mem_of_getElem? (i := 12) rfl) rfl, by decide +kernel⟩, uw5 (List.mem_of_getElem? (i := 165) rfl) rfl, uwp (List.mem_of_getElem? (i := 7) rfl) rfl⟩
def iX11_isGroup : MI := (yX11_isGroup, cX11_isGroup, 2, (some .boolean), 2, 2, 44)
theorem kX11_isGroup : mOKv iX11_isGroup 1 := ⟨⟨uw5 (List.mem_of_getElem? (i := 226) rfl) rfl, uw1 (List.mem_of_getElem? (i := 12) rfl) rfl, by decide +kernel⟩, uw5 (List.mem_of_getElem? (i := 225) rfl) rfl, uwp (List.mem_of_getElem? (i := 15) rfl) rfl⟩
def iX11_isTarget : MI := (yX11_isTarget, cX11_isTarget, 2, (some .boolean), 2, 2, 44)
theorem kX11_isTarget : mOKv iX11_isTarget 1 := ⟨⟨uw6 (List.mem_of_getElem? (i := 6) rfl) rfl, uw1 (List.mem_of_getElem? (i := 12) rfl) rfl, by decide +kernel⟩, uw6 (List.mem_of_getElem? (i := 5) rfl) rfl, uwp (List.mem_of_getElem? (i := 17) rfl) rfl⟩
def iX11_isData : MI := (yX11_isData, cX11_isData, 2, (some .boolean), 2, 2, 44)
theorem kX11_isData : mOKv iX11_isData 1 := ⟨⟨uw6 (List.mem_of_getElem? (i := 142) rfl) rfl, uw1 (List.mem_of_getElem? (i := 12) rfl) rfl, by decide +kernel⟩, uw6 (List.mem_of_getElem? (i := 141) rfl) rfl, uwp (List.mem_of_getElem? (i := 38) rfl) rfl⟩
def iX11_isPlace : MI := (yX11_isPlace, cX11_isPlace, 3, (some .boolean), 2, 2, 44)
theorem kX11_isPlace : mOKv iX11_isPlace 2 := ⟨⟨uw5 (List.mem_of_getElem? (i := 190) rfl) rfl, uw1 (List.mem_of_getElem? (i := 12) rfl) rfl, by decide +kernel⟩, uw5 (List.mem_of_getElem? (i := 189) rfl) rfl, uwp (List.mem_of_getElem? (i := 9) rfl) rfl⟩
def iX11_size : MI := (yX11_size, cX11_size, 2, (some .int), 1, 1, 21)
theorem kX11_size : mOKv iX11_size 1 := ⟨⟨uw5 (List.mem_of_getElem? (i := 202) rfl) rfl, uw1 (List.mem_of_getElem? (i := 12) rfl) rfl, by decide +kernel⟩, uw5 (List.mem_of_getElem? (i := 201) rfl) rfl, uwp (List.mem_of_getElem? (i := 12) rfl) rfl⟩
def iX11_angle : MI := (yX11_angle, cX11_angle, 4, (some .int), 1, 2, 42)
theorem kX11_angle : mOKv iX11_angle 2 := ⟨⟨uw5 (List.mem_of_getElem? (i := 198) rfl) rfl, uw1 (List.mem_of_getElem? (i := 12) rfl) rfl, by decide +kernel⟩, uw5 (List.mem_of_getElem? (i := 197) rfl) rfl, uwp (List.mem_of_getElem? (i := 11) rfl) rfl⟩
def iX11_place : MI := (yX11_place, cX11_place, 4, none, 0, 3, 65)
theorem kX11_place : mOKv iX11_place 3 := ⟨⟨uw5 (List.mem_of_getElem? (i := 134) rfl) rfl, uw1 (List.mem_of_getElem? (i := 12) rfl) rfl, by decide +kernel⟩, uw5 (List.mem_of_getElem? (i := 132) rfl) rfl, uw5 (List.mem_of_getElem? (i := 133) rfl) rfl⟩
def iX11_moon : MI := (yX11_moon, cX11_moon, 3, (some .int), 1, 2, 44)
theorem kX11_moon : mOKv iX11_moon 1 := ⟨⟨uw5 (List.mem_of_getElem? (i := 150) rfl) rfl, uw1 (List.mem_of_getElem? (i := 12) rfl) rfl, by decide +kernel⟩, uw5 (List.mem_of_getElem? (i := 148) rfl) rfl, uw5 (List.mem_of_getElem? (i := 149) rfl) rfl⟩
def iX11_isSpan : MI := (yX11_isSpan, cX11_isSpan, 5, (some .boolean), 2, 3, 65)
theorem kX11_isSpan : mOKv iX11_isSpan 4 := ⟨⟨uw5 (List.mem_of_getElem? (i := 158) rfl) rfl, uw1 (List.mem_of_getElem? (i := 12) rfl) rfl, by decide +kernel⟩, uw5 (List.mem_of_getElem? (i := 157) rfl) rfl, uwp (List.mem_of_getElem? (i := 5) rfl) rfl⟩
def iX11_weather : MI := (yX11_weather, cX11_weather, 7, none, 0, 4, 89)
theorem kX11_weather : mOKv iX11_weather 5 := ⟨⟨uw5 (List.mem_of_getElem? (i := 154) rfl) rfl, uw1 (List.mem_of_getElem? (i := 12) rfl) rfl, by decide +kernel⟩, uw5 (List.mem_of_getElem? (i := 152) rfl) rfl, uw5 (List.mem_of_getElem? (i := 153) rfl) rfl⟩
def iX11_fault : MI := (yX11_fault, cX11_fault, 6, none, 0, 4, 89)
theorem kX11_fault : mOKv iX11_fault 4 := ⟨⟨uw5 (List.mem_of_getElem? (i := 170) rfl) rfl, uw1 (List.mem_of_getElem? (i := 12) rfl) rfl, by decide +kernel⟩, uw5 (List.mem_of_getElem? (i := 168) rfl) rfl, uw5 (List.mem_of_getElem? (i := 169) rfl) rfl⟩
def iX11_mounted : MI := (yX11_mounted, cX11_mounted, 4, (some .int), 1, 1, 21)
theorem kX11_mounted : mOKv iX11_mounted 2 := ⟨⟨uw5 (List.mem_of_getElem? (i := 178) rfl) rfl, uw1 (List.mem_of_getElem? (i := 12) rfl) rfl, by decide +kernel⟩, uw5 (List.mem_of_getElem? (i := 177) rfl) rfl, uwp (List.mem_of_getElem? (i := 8) rfl) rfl⟩
def iX11_mount : MI := (yX11_mount, cX11_mount, 6, (some .int), 1, 3, 65)
theorem kX11_mount : mOKv iX11_mount 3 := ⟨⟨uw5 (List.mem_of_getElem? (i := 174) rfl) rfl, uw1 (List.mem_of_getElem? (i := 12) rfl) rfl, by decide +kernel⟩, uw5 (List.mem_of_getElem? (i := 172) rfl) rfl, uw5 (List.mem_of_getElem? (i := 173) rfl) rfl⟩
def iX11_calibrate : MI := (yX11_calibrate, cX11_calibrate, 6, (some .boolean), 2, 3, 65)
theorem kX11_calibrate : mOKv iX11_calibrate 3 := ⟨⟨uw5 (List.mem_of_getElem? (i := 182) rfl) rfl, uw1 (List.mem_of_getElem? (i := 12) rfl) rfl, by decide +kernel⟩, uw5 (List.mem_of_getElem? (i := 180) rfl) rfl, uw5 (List.mem_of_getElem? (i := 181) rfl) rfl⟩
def iX11_newest : MI := (yX11_newest, cX11_newest, 5, (some .int), 1, 1, 21)
theorem kX11_newest : mOKv iX11_newest 3 := ⟨⟨uw6 (List.mem_of_getElem? (i := 38) rfl) rfl, uw1 (List.mem_of_getElem? (i := 12) rfl) rfl, by decide +kernel⟩, uw6 (List.mem_of_getElem? (i := 37) rfl) rfl, uwp (List.mem_of_getElem? (i := 22) rfl) rfl⟩
def iX11_heightOf : MI := (yX11_heightOf, cX11_heightOf, 8, (some .int), 1, 3, 65)
theorem kX11_heightOf : mOKv iX11_heightOf 5 := ⟨⟨uw5 (List.mem_of_getElem? (i := 194) rfl) rfl, uw1 (List.mem_of_getElem? (i := 12) rfl) rfl, by decide +kernel⟩, uw5 (List.mem_of_getElem? (i := 193) rfl) rfl, uwp (List.mem_of_getElem? (i := 10) rfl) rfl⟩
def iX11_height : MI := (yX11_height, cX11_height, 7, (some .int), 1, 4, 92)
theorem kX11_height : mOKv iX11_height 5 := ⟨⟨uw5 (List.mem_of_getElem? (i := 186) rfl) rfl, uw1 (List.mem_of_getElem? (i := 12) rfl) rfl, by decide +kernel⟩, uw5 (List.mem_of_getElem? (i := 184) rfl) rfl, uw5 (List.mem_of_getElem? (i := 185) rfl) rfl⟩
def iX11_lightOf : MI := (yX11_lightOf, cX11_lightOf, 2, (some .int), 1, 2, 42)
theorem kX11_lightOf : mOKv iX11_lightOf 1 := ⟨⟨uw5 (List.mem_of_getElem? (i := 210) rfl) rfl, uw1 (List.mem_of_getElem? (i := 12) rfl) rfl, by decide +kernel⟩, uw5 (List.mem_of_getElem? (i := 209) rfl) rfl, uwp (List.mem_of_getElem? (i := 13) rfl) rfl⟩
def iX11_light : MI := (yX11_light, cX11_light, 2, (some .int), 1, 3, 65)
theorem kX11_light : mOKv iX11_light 1 := ⟨⟨uw5 (List.mem_of_getElem? (i := 206) rfl) rfl, uw1 (List.mem_of_getElem? (i := 12) rfl) rfl, by decide +kernel⟩, uw5 (List.mem_of_getElem? (i := 204) rfl) rfl, uw5 (List.mem_of_getElem? (i := 205) rfl) rfl⟩
def iX11_seen : MI := (yX11_seen, cX11_seen, 4, (some .int), 1, 1, 21)
theorem kX11_seen : mOKv iX11_seen 3 := ⟨⟨uw5 (List.mem_of_getElem? (i := 218) rfl) rfl, uw1 (List.mem_of_getElem? (i := 12) rfl) rfl, by decide +kernel⟩, uw5 (List.mem_of_getElem? (i := 217) rfl) rfl, uwp (List.mem_of_getElem? (i := 14) rfl) rfl⟩
def iX11_seeing : MI := (yX11_seeing, cX11_seeing, 4, (some .int), 1, 3, 65)
theorem kX11_seeing : mOKv iX11_seeing 3 := ⟨⟨uw5 (List.mem_of_getElem? (i := 214) rfl) rfl, uw1 (List.mem_of_getElem? (i := 12) rfl) rfl, by decide +kernel⟩, uw5 (List.mem_of_getElem? (i := 212) rfl) rfl, uw5 (List.mem_of_getElem? (i := 213) rfl) rfl⟩
def iX11_share : MI := (yX11_share, cX11_share, 4, (some .int), 1, 3, 65)
theorem kX11_share : mOKv iX11_share 2 := ⟨⟨uw5 (List.mem_of_getElem? (i := 222) rfl) rfl, uw1 (List.mem_of_getElem? (i := 12) rfl) rfl, by decide +kernel⟩, uw5 (List.mem_of_getElem? (i := 220) rfl) rfl, uw5 (List.mem_of_getElem? (i := 221) rfl) rfl⟩
def iX11_proposal : MI := (yX11_proposal, cX11_proposal, 6, (some .int), 1, 3, 65)
theorem kX11_proposal : mOKv iX11_proposal 4 := ⟨⟨uw5 (List.mem_of_getElem? (i := 230) rfl) rfl, uw1 (List.mem_of_getElem? (i := 12) rfl) rfl, by decide +kernel⟩, uw5 (List.mem_of_getElem? (i := 228) rfl) rfl, uw5 (List.mem_of_getElem? (i := 229) rfl) rfl⟩
def iX11_lay : MI := (yX11_lay, cX11_lay, 7, none, 0, 1, 21)
theorem kX11_lay : mOKv iX11_lay 6 := ⟨⟨uw5 (List.mem_of_getElem? (i := 238) rfl) rfl, uw1 (List.mem_of_getElem? (i := 12) rfl) rfl, by decide +kernel⟩, uw5 (List.mem_of_getElem? (i := 237) rfl) rfl, uwp (List.mem_of_getElem? (i := 16) rfl) rfl⟩
def iX11_target : MI := (yX11_target, cX11_target, 12, (some .int), 1, 3, 66)
theorem kX11_target : mOKv iX11_target 9 := ⟨⟨uw5 (List.mem_of_getElem? (i := 234) rfl) rfl, uw1 (List.mem_of_getElem? (i := 12) rfl) rfl, by decide +kernel⟩, uw5 (List.mem_of_getElem? (i := 232) rfl) rfl, uw5 (List.mem_of_getElem? (i := 233) rfl) rfl⟩
def iX11_series : MI := (yX11_series, cX11_series, 7, none, 0, 3, 65)
theorem kX11_series : mOKv iX11_series 4 := ⟨⟨uw6 (List.mem_of_getElem? (i := 2) rfl) rfl, uw1 (List.mem_of_getElem? (i := 12) rfl) rfl, by decide +kernel⟩, uw6 (List.mem_of_getElem? (i := 0) rfl) rfl, uw6 (List.mem_of_getElem? (i := 1) rfl) rfl⟩
def iX11_alert : MI := (yX11_alert, cX11_alert, 12, (some .int), 1, 3, 66)
theorem kX11_alert : mOKv iX11_alert 9 := ⟨⟨uw6 (List.mem_of_getElem? (i := 10) rfl) rfl, uw1 (List.mem_of_getElem? (i := 12) rfl) rfl, by decide +kernel⟩, uw6 (List.mem_of_getElem? (i := 8) rfl) rfl, uw6 (List.mem_of_getElem? (i := 9) rfl) rfl⟩
def iX11_turn : MI := (yX11_turn, cX11_turn, 6, (some .int), 1, 2, 42)
theorem kX11_turn : mOKv iX11_turn 2 := ⟨⟨uw6 (List.mem_of_getElem? (i := 22) rfl) rfl, uw1 (List.mem_of_getElem? (i := 12) rfl) rfl, by decide +kernel⟩, uw6 (List.mem_of_getElem? (i := 21) rfl) rfl, uwp (List.mem_of_getElem? (i := 19) rfl) rfl⟩
def iX11_wanting : MI := (yX11_wanting, cX11_wanting, 3, (some .boolean), 2, 3, 67)
theorem kX11_wanting : mOKv iX11_wanting 2 := ⟨⟨uw6 (List.mem_of_getElem? (i := 18) rfl) rfl, uw1 (List.mem_of_getElem? (i := 12) rfl) rfl, by decide +kernel⟩, uw6 (List.mem_of_getElem? (i := 17) rfl) rfl, uwp (List.mem_of_getElem? (i := 18) rfl) rfl⟩
def iX11_wants : MI := (yX11_wants, cX11_wants, 3, (some .boolean), 2, 4, 89)
theorem kX11_wants : mOKv iX11_wants 2 := ⟨⟨uw6 (List.mem_of_getElem? (i := 14) rfl) rfl, uw1 (List.mem_of_getElem? (i := 12) rfl) rfl, by decide +kernel⟩, uw6 (List.mem_of_getElem? (i := 12) rfl) rfl, uw6 (List.mem_of_getElem? (i := 13) rfl) rfl⟩
def iX11_isHigh : MI := (yX11_isHigh, cX11_isHigh, 8, (some .boolean), 2, 4, 92)
theorem kX11_isHigh : mOKv iX11_isHigh 5 := ⟨⟨uw6 (List.mem_of_getElem? (i := 42) rfl) rfl, uw1 (List.mem_of_getElem? (i := 12) rfl) rfl, by decide +kernel⟩, uw6 (List.mem_of_getElem? (i := 41) rfl) rfl, uwp (List.mem_of_getElem? (i := 23) rfl) rfl⟩
def iX11_suits : MI := (yX11_suits, cX11_suits, 11, (some .boolean), 2, 5, 119)
theorem kX11_suits : mOKv iX11_suits 5 := ⟨⟨uw6 (List.mem_of_getElem? (i := 34) rfl) rfl, uw1 (List.mem_of_getElem? (i := 12) rfl) rfl, by decide +kernel⟩, uw6 (List.mem_of_getElem? (i := 33) rfl) rfl, uwp (List.mem_of_getElem? (i := 21) rfl) rfl⟩
def iX11_chances : MI := (yX11_chances, cX11_chances, 4, (some .int), 1, 7, 174)
theorem kX11_chances : mOKv iX11_chances 3 := ⟨⟨uw6 (List.mem_of_getElem? (i := 26) rfl) rfl, uw1 (List.mem_of_getElem? (i := 12) rfl) rfl, by decide +kernel⟩, uw6 (List.mem_of_getElem? (i := 24) rfl) rfl, uw6 (List.mem_of_getElem? (i := 25) rfl) rfl⟩
def iX11_many : MI := (yX11_many, cX11_many, 6, (some .int), 1, 6, 149)
theorem kX11_many : mOKv iX11_many 3 := ⟨⟨uw6 (List.mem_of_getElem? (i := 30) rfl) rfl, uw1 (List.mem_of_getElem? (i := 12) rfl) rfl, by decide +kernel⟩, uw6 (List.mem_of_getElem? (i := 29) rfl) rfl, uwp (List.mem_of_getElem? (i := 20) rfl) rfl⟩
def iX11_groupOf : MI := (yX11_groupOf, cX11_groupOf, 2, (some .int), 1, 1, 21)
theorem kX11_groupOf : mOKv iX11_groupOf 1 := ⟨⟨uw6 (List.mem_of_getElem? (i := 70) rfl) rfl, uw1 (List.mem_of_getElem? (i := 12) rfl) rfl, by decide +kernel⟩, uw6 (List.mem_of_getElem? (i := 69) rfl) rfl, uwp (List.mem_of_getElem? (i := 29) rfl) rfl⟩
def iX11_goesOn : MI := (yX11_goesOn, cX11_goesOn, 2, (some .boolean), 2, 1, 21)
theorem kX11_goesOn : mOKv iX11_goesOn 1 := ⟨⟨uw6 (List.mem_of_getElem? (i := 78) rfl) rfl, uw1 (List.mem_of_getElem? (i := 12) rfl) rfl, by decide +kernel⟩, uw6 (List.mem_of_getElem? (i := 77) rfl) rfl, uwp (List.mem_of_getElem? (i := 31) rfl) rfl⟩
def iX11_begin : MI := (yX11_begin, cX11_begin, 3, none, 0, 1, 21)
theorem kX11_begin : mOKv iX11_begin 2 := ⟨⟨uw6 (List.mem_of_getElem? (i := 82) rfl) rfl, uw1 (List.mem_of_getElem? (i := 12) rfl) rfl, by decide +kernel⟩, uw6 (List.mem_of_getElem? (i := 81) rfl) rfl, uwp (List.mem_of_getElem? (i := 32) rfl) rfl⟩
def iX11_lose : MI := (yX11_lose, cX11_lose, 3, none, 0, 2, 42)
theorem kX11_lose : mOKv iX11_lose 2 := ⟨⟨uw6 (List.mem_of_getElem? (i := 66) rfl) rfl, uw1 (List.mem_of_getElem? (i := 12) rfl) rfl, by decide +kernel⟩, uw6 (List.mem_of_getElem? (i := 65) rfl) rfl, uwp (List.mem_of_getElem? (i := 28) rfl) rfl⟩
def iX11_close : MI := (yX11_close, cX11_close, 4, none, 0, 3, 64)
theorem kX11_close : mOKv iX11_close 2 := ⟨⟨uw6 (List.mem_of_getElem? (i := 62) rfl) rfl, uw1 (List.mem_of_getElem? (i := 12) rfl) rfl, by decide +kernel⟩, uw6 (List.mem_of_getElem? (i := 61) rfl) rfl, uwp (List.mem_of_getElem? (i := 27) rfl) rfl⟩
def iX11_alarm : MI := (yX11_alarm, cX11_alarm, 8, none, 0, 6, 149)
theorem kX11_alarm : mOKv iX11_alarm 3 := ⟨⟨uw6 (List.mem_of_getElem? (i := 74) rfl) rfl, uw1 (List.mem_of_getElem? (i := 12) rfl) rfl, by decide +kernel⟩, uw6 (List.mem_of_getElem? (i := 73) rfl) rfl, uwp (List.mem_of_getElem? (i := 30) rfl) rfl⟩
def iX11_resume : MI := (yX11_resume, cX11_resume, 7, none, 0, 6, 149)
theorem kX11_resume : mOKv iX11_resume 3 := ⟨⟨uw6 (List.mem_of_getElem? (i := 86) rfl) rfl, uw1 (List.mem_of_getElem? (i := 12) rfl) rfl, by decide +kernel⟩, uw6 (List.mem_of_getElem? (i := 85) rfl) rfl, uwp (List.mem_of_getElem? (i := 33) rfl) rfl⟩
def iX11_row : MI := (yX11_row, cX11_row, 6, (some .int), 1, 5, 119)
theorem kX11_row : mOKv iX11_row 4 := ⟨⟨uw6 (List.mem_of_getElem? (i := 98) rfl) rfl, uw1 (List.mem_of_getElem? (i := 12) rfl) rfl, by decide +kernel⟩, uw6 (List.mem_of_getElem? (i := 97) rfl) rfl, uwp (List.mem_of_getElem? (i := 36) rfl) rfl⟩
def iX11_better : MI := (yX11_better, cX11_better, 13, (some .boolean), 2, 6, 144)
theorem kX11_better : mOKv iX11_better 5 := ⟨⟨uw6 (List.mem_of_getElem? (i := 94) rfl) rfl, uw1 (List.mem_of_getElem? (i := 12) rfl) rfl, by decide +kernel⟩, uw6 (List.mem_of_getElem? (i := 93) rfl) rfl, uwp (List.mem_of_getElem? (i := 35) rfl) rfl⟩
def iX11_choose : MI := (yX11_choose, cX11_choose, 7, none, 0, 7, 176)
theorem kX11_choose : mOKv iX11_choose 3 := ⟨⟨uw6 (List.mem_of_getElem? (i := 90) rfl) rfl, uw1 (List.mem_of_getElem? (i := 12) rfl) rfl, by decide +kernel⟩, uw6 (List.mem_of_getElem? (i := 89) rfl) rfl, uwp (List.mem_of_getElem? (i := 34) rfl) rfl⟩
def iX11_done : MI := (yX11_done, cX11_done, 8, none, 0, 3, 67)
theorem kX11_done : mOKv iX11_done 3 := ⟨⟨uw6 (List.mem_of_getElem? (i := 102) rfl) rfl, uw1 (List.mem_of_getElem? (i := 12) rfl) rfl, by decide +kernel⟩, uw6 (List.mem_of_getElem? (i := 101) rfl) rfl, uwp (List.mem_of_getElem? (i := 37) rfl) rfl⟩
def iX11_site : MI := (yX11_site, cX11_site, 5, none, 0, 8, 202)
theorem kX11_site : mOKv iX11_site 3 := ⟨⟨uw6 (List.mem_of_getElem? (i := 58) rfl) rfl, uw1 (List.mem_of_getElem? (i := 12) rfl) rfl, by decide +kernel⟩, uw6 (List.mem_of_getElem? (i := 57) rfl) rfl, uwp (List.mem_of_getElem? (i := 26) rfl) rfl⟩
def iX11_slot : MI := (yX11_slot, cX11_slot, 4, none, 0, 9, 226)
theorem kX11_slot : mOKv iX11_slot 2 := ⟨⟨uw6 (List.mem_of_getElem? (i := 54) rfl) rfl, uw1 (List.mem_of_getElem? (i := 12) rfl) rfl, by decide +kernel⟩, uw6 (List.mem_of_getElem? (i := 53) rfl) rfl, uwp (List.mem_of_getElem? (i := 25) rfl) rfl⟩
def iX11_note : MI := (yX11_note, cX11_note, 3, none, 0, 1, 21)
theorem kX11_note : mOKv iX11_note 1 := ⟨⟨uw6 (List.mem_of_getElem? (i := 50) rfl) rfl, uw1 (List.mem_of_getElem? (i := 12) rfl) rfl, by decide +kernel⟩, uw6 (List.mem_of_getElem? (i := 49) rfl) rfl, uwp (List.mem_of_getElem? (i := 24) rfl) rfl⟩
def iX11_run : MI := (yX11_run, cX11_run, 3, (some .int), 1, 10, 249)
theorem kX11_run : mOKv iX11_run 1 := ⟨⟨uw6 (List.mem_of_getElem? (i := 46) rfl) rfl, uw1 (List.mem_of_getElem? (i := 12) rfl) rfl, by decide +kernel⟩, uw6 (List.mem_of_getElem? (i := 44) rfl) rfl, uw6 (List.mem_of_getElem? (i := 45) rfl) rfl⟩
def iX11_now : MI := (yX11_now, cX11_now, 1, (some .int), 1, 2, 42)
theorem kX11_now : mOKv iX11_now 0 := ⟨⟨uw6 (List.mem_of_getElem? (i := 106) rfl) rfl, uw1 (List.mem_of_getElem? (i := 12) rfl) rfl, by decide +kernel⟩, uw6 (List.mem_of_getElem? (i := 104) rfl) rfl, uw6 (List.mem_of_getElem? (i := 105) rfl) rfl⟩
def iX11_goingOn : MI := (yX11_goingOn, cX11_goingOn, 4, (some .int), 1, 3, 65)
theorem kX11_goingOn : mOKv iX11_goingOn 2 := ⟨⟨uw6 (List.mem_of_getElem? (i := 110) rfl) rfl, uw1 (List.mem_of_getElem? (i := 12) rfl) rfl, by decide +kernel⟩, uw6 (List.mem_of_getElem? (i := 108) rfl) rfl, uw6 (List.mem_of_getElem? (i := 109) rfl) rfl⟩
def iX11_waiting : MI := (yX11_waiting, cX11_waiting, 3, (some .int), 1, 2, 42)
theorem kX11_waiting : mOKv iX11_waiting 0 := ⟨⟨uw6 (List.mem_of_getElem? (i := 114) rfl) rfl, uw1 (List.mem_of_getElem? (i := 12) rfl) rfl, by decide +kernel⟩, uw6 (List.mem_of_getElem? (i := 112) rfl) rfl, uw6 (List.mem_of_getElem? (i := 113) rfl) rfl⟩
def iX11_visits : MI := (yX11_visits, cX11_visits, 2, (some .int), 1, 3, 65)
theorem kX11_visits : mOKv iX11_visits 1 := ⟨⟨uw6 (List.mem_of_getElem? (i := 118) rfl) rfl, uw1 (List.mem_of_getElem? (i := 12) rfl) rfl, by decide +kernel⟩, uw6 (List.mem_of_getElem? (i := 116) rfl) rfl, uw6 (List.mem_of_getElem? (i := 117) rfl) rfl⟩
def iX11_served : MI := (yX11_served, cX11_served, 2, (some .boolean), 2, 2, 44)
theorem kX11_served : mOKv iX11_served 1 := ⟨⟨uw6 (List.mem_of_getElem? (i := 122) rfl) rfl, uw1 (List.mem_of_getElem? (i := 12) rfl) rfl, by decide +kernel⟩, uw6 (List.mem_of_getElem? (i := 120) rfl) rfl, uw6 (List.mem_of_getElem? (i := 121) rfl) rfl⟩
def iX11_slots : MI := (yX11_slots, cX11_slots, 3, (some .int), 1, 3, 65)
theorem kX11_slots : mOKv iX11_slots 2 := ⟨⟨uw6 (List.mem_of_getElem? (i := 126) rfl) rfl, uw1 (List.mem_of_getElem? (i := 12) rfl) rfl, by decide +kernel⟩, uw6 (List.mem_of_getElem? (i := 124) rfl) rfl, uw6 (List.mem_of_getElem? (i := 125) rfl) rfl⟩
def iX11_lost : MI := (yX11_lost, cX11_lost, 3, (some .int), 1, 3, 65)
theorem kX11_lost : mOKv iX11_lost 2 := ⟨⟨uw6 (List.mem_of_getElem? (i := 130) rfl) rfl, uw1 (List.mem_of_getElem? (i := 12) rfl) rfl, by decide +kernel⟩, uw6 (List.mem_of_getElem? (i := 128) rfl) rfl, uw6 (List.mem_of_getElem? (i := 129) rfl) rfl⟩
def iX11_data : MI := (yX11_data, cX11_data, 1, (some .int), 1, 2, 42)
theorem kX11_data : mOKv iX11_data 0 := ⟨⟨uw6 (List.mem_of_getElem? (i := 134) rfl) rfl, uw1 (List.mem_of_getElem? (i := 12) rfl) rfl, by decide +kernel⟩, uw6 (List.mem_of_getElem? (i := 132) rfl) rfl, uw6 (List.mem_of_getElem? (i := 133) rfl) rfl⟩
def iX11_datum : MI := (yX11_datum, cX11_datum, 3, (some .int), 1, 3, 65)
theorem kX11_datum : mOKv iX11_datum 2 := ⟨⟨uw6 (List.mem_of_getElem? (i := 138) rfl) rfl, uw1 (List.mem_of_getElem? (i := 12) rfl) rfl, by decide +kernel⟩, uw6 (List.mem_of_getElem? (i := 136) rfl) rfl, uw6 (List.mem_of_getElem? (i := 137) rfl) rfl⟩
def iX11_reads : MI := (yX11_reads, cX11_reads, 6, (some .boolean), 2, 3, 65)
theorem kX11_reads : mOKv iX11_reads 3 := ⟨⟨uw6 (List.mem_of_getElem? (i := 146) rfl) rfl, uw1 (List.mem_of_getElem? (i := 12) rfl) rfl, by decide +kernel⟩, uw6 (List.mem_of_getElem? (i := 144) rfl) rfl, uw6 (List.mem_of_getElem? (i := 145) rfl) rfl⟩
def iX11_keep : MI := (yX11_keep, cX11_keep, 3, none, 0, 1, 21)
theorem kX11_keep : mOKv iX11_keep 1 := ⟨⟨uw6 (List.mem_of_getElem? (i := 154) rfl) rfl, uw1 (List.mem_of_getElem? (i := 12) rfl) rfl, by decide +kernel⟩, uw6 (List.mem_of_getElem? (i := 153) rfl) rfl, uwp (List.mem_of_getElem? (i := 39) rfl) rfl⟩
def iX11_goBack : MI := (yX11_goBack, cX11_goBack, 3, none, 0, 1, 21)
theorem kX11_goBack : mOKv iX11_goBack 1 := ⟨⟨uw6 (List.mem_of_getElem? (i := 158) rfl) rfl, uw1 (List.mem_of_getElem? (i := 12) rfl) rfl, by decide +kernel⟩, uw6 (List.mem_of_getElem? (i := 157) rfl) rfl, uwp (List.mem_of_getElem? (i := 40) rfl) rfl⟩
def iX11_replay : MI := (yX11_replay, cX11_replay, 3, (some .int), 1, 10, 249)
theorem kX11_replay : mOKv iX11_replay 1 := ⟨⟨uw6 (List.mem_of_getElem? (i := 150) rfl) rfl, uw1 (List.mem_of_getElem? (i := 12) rfl) rfl, by decide +kernel⟩, uw6 (List.mem_of_getElem? (i := 148) rfl) rfl, uw6 (List.mem_of_getElem? (i := 149) rfl) rfl⟩
def iX11_filled : MI := (yX11_filled, cX11_filled, 14, (some .int), 1, 6, 149)
theorem kX11_filled : mOKv iX11_filled 4 := ⟨⟨uw6 (List.mem_of_getElem? (i := 166) rfl) rfl, uw1 (List.mem_of_getElem? (i := 12) rfl) rfl, by decide +kernel⟩, uw6 (List.mem_of_getElem? (i := 165) rfl) rfl, uwp (List.mem_of_getElem? (i := 41) rfl) rfl⟩
def iX11_bestOrder : MI := (yX11_bestOrder, cX11_bestOrder, 8, (some .int), 1, 7, 182)
theorem kX11_bestOrder : mOKv iX11_bestOrder 2 := ⟨⟨uw6 (List.mem_of_getElem? (i := 162) rfl) rfl, uw1 (List.mem_of_getElem? (i := 12) rfl) rfl, by decide +kernel⟩, uw6 (List.mem_of_getElem? (i := 160) rfl) rfl, uw6 (List.mem_of_getElem? (i := 161) rfl) rfl⟩
def iJ6_compare_7cf53 : MI := (yJ6_compare_7cf53, cJ6_compare_7cf53, 2, (some .int), 1, 1, 21)
theorem kJ6_compare_7cf53 : mOKs iJ6_compare_7cf53 2 := ⟨⟨uw4 (List.mem_of_getElem? (i := 76) rfl) rfl, uw1 (List.mem_of_getElem? (i := 21) rfl) rfl, by decide +kernel⟩, uw4 (List.mem_of_getElem? (i := 75) rfl) rfl⟩
def iJ9_abs_0f7a4 : MI := (yJ9_abs_0f7a4, cJ9_abs_0f7a4, 1, (some .int), 1, 1, 21)
theorem kJ9_abs_0f7a4 : mOKs iJ9_abs_0f7a4 1 := ⟨⟨uw3 (List.mem_of_getElem? (i := 119) rfl) rfl, uw1 (List.mem_of_getElem? (i := 19) rfl) rfl, by decide +kernel⟩, uw3 (List.mem_of_getElem? (i := 118) rfl) rfl⟩
def iJ9_max_7cf53 : MI := (yJ9_max_7cf53, cJ9_max_7cf53, 2, (some .int), 1, 1, 21)
theorem kJ9_max_7cf53 : mOKs iJ9_max_7cf53 2 := ⟨⟨uw3 (List.mem_of_getElem? (i := 126) rfl) rfl, uw1 (List.mem_of_getElem? (i := 19) rfl) rfl, by decide +kernel⟩, uw3 (List.mem_of_getElem? (i := 125) rfl) rfl⟩
def iJ9_min_7cf53 : MI := (yJ9_min_7cf53, cJ9_min_7cf53, 2, (some .int), 1, 1, 21)
theorem kJ9_min_7cf53 : mOKs iJ9_min_7cf53 2 := ⟨⟨uw3 (List.mem_of_getElem? (i := 122) rfl) rfl, uw1 (List.mem_of_getElem? (i := 19) rfl) rfl, by decide +kernel⟩, uw3 (List.mem_of_getElem? (i := 121) rfl) rfl⟩
def iL_place : MI := (yL_place, cL_place, 5, (some .int), 1, 8, 135)
def iL_moon : MI := (yL_moon, cL_moon, 4, (some .int), 1, 8, 134)
def iL_weather : MI := (yL_weather, cL_weather, 7, (some .int), 1, 9, 161)
def iL_fault : MI := (yL_fault, cL_fault, 6, (some .int), 1, 9, 160)
def iL_mount : MI := (yL_mount, cL_mount, 6, (some .int), 1, 8, 135)
def iL_calibrate : MI := (yL_calibrate, cL_calibrate, 6, (some .int), 1, 8, 136)
def iL_height : MI := (yL_height, cL_height, 8, (some .int), 1, 9, 159)
def iL_light : MI := (yL_light, cL_light, 4, (some .int), 1, 8, 132)
def iL_seeing : MI := (yL_seeing, cL_seeing, 6, (some .int), 1, 9, 157)
def iL_share : MI := (yL_share, cL_share, 5, (some .int), 1, 8, 135)
def iL_proposal : MI := (yL_proposal, cL_proposal, 7, (some .int), 1, 8, 138)
def iL_target : MI := (yL_target, cL_target, 12, (some .int), 1, 9, 164)
def iL_series : MI := (yL_series, cL_series, 6, (some .int), 1, 8, 137)
def iL_alert : MI := (yL_alert, cL_alert, 12, (some .int), 1, 9, 164)
def iL_wants : MI := (yL_wants, cL_wants, 5, (some .int), 1, 8, 133)
def iL_chances : MI := (yL_chances, cL_chances, 6, (some .int), 1, 8, 147)
def iL_run : MI := (yL_run, cL_run, 4, (some .int), 1, 8, 193)
def iL_goingOn : MI := (yL_goingOn, cL_goingOn, 5, (some .int), 1, 8, 135)
def iL_visits : MI := (yL_visits, cL_visits, 4, (some .int), 1, 8, 132)
def iL_served : MI := (yL_served, cL_served, 4, (some .int), 1, 8, 132)
def iL_slots : MI := (yL_slots, cL_slots, 5, (some .int), 1, 8, 133)
def iL_lost : MI := (yL_lost, cL_lost, 5, (some .int), 1, 8, 133)
def iL_datum : MI := (yL_datum, cL_datum, 5, (some .int), 1, 8, 134)
def iL_reads : MI := (yL_reads, cL_reads, 6, (some .int), 1, 8, 137)
def iL_replay : MI := (yL_replay, cL_replay, 4, (some .int), 1, 8, 193)
def iL_bestOrder : MI := (yL_bestOrder, cL_bestOrder, 5, (some .int), 1, 8, 202)
