/-! ===== the sorts of cells: tag (1 object, 2 ints, 3 booleans, 4 references, 5 longs), class position, fields or length, how many ===== -/
-- sort 1: Cloudseed (0 plan, 1 live, 2 again, 3 starts, 4 few, 5 ends)
-- sort 2: starts
-- sort 3: few
-- sort 4: ends
-- sort 5: Plan (0 sites, 1 shares, 2 proposals, 3 targets, 4 alerts, 5 phase, 6 proposalCount, 7 targetCount, 8 alertCount)
-- sort 6: sites
-- sort 7: shares
-- sort 8: proposals
-- sort 9: targets
-- sort 10: alerts
-- sort 11: Site (0 latitude, 1 longitude, 2 toldSeeing, 3 faulty, 4 instruments, 5 changed, 6 calibrated)
-- sort 12: toldSeeing
-- sort 13: faulty
-- sort 14: instruments
-- sort 15: changed
-- sort 16: calibrated
-- sort 17: Proposal (0 group, 1 rank, 2 leastQuality, 3 privateNights)
-- sort 18: Target (0 group, 1 ra, 2 dec, 3 length, 4 instrument, 5 leastHeight, 6 mostLight, 7 mostSeeing, 8 leastQuality, 9 number, 10 proposal, 11 visitsAsked, 12 isSeries, 13 firstNight, 14 period, 15 tolerance)
-- sort 19: Alert (0 group, 1 ra, 2 dec, 3 length, 4 instrument, 5 leastHeight, 6 mostLight, 7 mostSeeing, 8 leastQuality, 9 urgency, 10 firstTime, 11 lastTime)
-- sort 20: Book (0 goodVisits, 1 goodNights, 2 goodPhases, 3 servedAlerts, 4 countedSlots)
-- sort 21: goodVisits
-- sort 22: goodNights
-- sort 23: goodPhases
-- sort 24: servedAlerts
-- sort 25: countedSlots
-- sort 26: Course (0 plan, 1 book, 2 archive, 3 onSite, 4 broken, 5 givenBack, 6 closedSlots, 7 idleSlots, 8 now, 9 goodDone)
-- sort 27: Archive (0 parts, 1 count)
-- sort 28: parts
-- sort 29: onSite
-- sort 30: broken
-- sort 31: Visit (0 kind, 1 number, 2 had, 3 worstSeeing, 4 brokenOff)
-- sort 32: givenBack
-- sort 33: closedSlots
-- sort 34: idleSlots
-- sort 35: out
-- sort 40: Model (0 lat, 1 lon, 2 phase, 3 wx, 4 ft, 5 mt, 6 cal, 7 share, 8 pg, 9 pr, 10 pq, 11 pn, 12 proposals, 13 of, 14 ra, 15 dec, 16 len, 17 ins, 18 hgt, 19 lgt, 20 see, 21 num, 22 first, 23 per, 24 tol, 25 targets, 26 urge, 27 an, 28 af, 29 al, 30 alerts, 31 gv, 32 js, 33 gn, 34 an2, 35 cnt, 36 bk, 37 shut, 38 free, 39 vw, 40 vs, 41 vq, 42 ws, 43 wq, 44 wt, 45 now, 46 cnts, 47 gvs, 48 jss, 49 save, 50 replays, 51 goods, 52 dw, 53 ds, 54 dn, 55 dq, 56 dg, 57 dc, 58 data, 59 few, 60 thrown)
-- sort 41: m_lat
-- sort 42: m_lon
-- sort 44: m_wx
-- sort 45: m_ft
-- sort 46: m_mt
-- sort 47: m_cal
-- sort 48: m_share
-- sort 49: m_pg
-- sort 50: m_pr
-- sort 51: m_pq
-- sort 52: m_pn
-- sort 54: m_of
-- sort 55: m_ra
-- sort 56: m_dec
-- sort 57: m_len
-- sort 58: m_ins
-- sort 59: m_hgt
-- sort 60: m_lgt
-- sort 61: m_see
-- sort 62: m_num
-- sort 63: m_first
-- sort 64: m_per
-- sort 65: m_tol
-- sort 67: m_urge
-- sort 68: m_an
-- sort 69: m_af
-- sort 70: m_al
-- sort 72: m_gv
-- sort 73: m_js
-- sort 74: m_gn
-- sort 75: m_an2
-- sort 76: m_cnt
-- sort 77: m_bk
-- sort 78: m_shut
-- sort 79: m_free
-- sort 80: m_vw
-- sort 81: m_vs
-- sort 82: m_vq
-- sort 83: m_ws
-- sort 84: m_wq
-- sort 85: m_wt
-- sort 87: m_cnts
-- sort 88: m_gvs
-- sort 89: m_jss
-- sort 90: m_save
-- sort 93: m_dw
-- sort 94: m_ds
-- sort 95: m_dn
-- sort 96: m_dq
-- sort 97: m_dg
-- sort 98: m_dc
-- sort 100: m_few
def xCl : List vw_C := [(RX1, TX1, 12), (RX2, TX2, 2), (RX3, TX3, 5), (RX4, TX4, 10), (RX5, TX5, 9), (RX6, TX6, 4), (RX7, TX7, 7), (RX8, TX8, 16), (RX9, TX9, 5), (RX10, TX10, 6), (RX11, TX11, 61)]
def cNm : List String := [RX1, RX2, RX3, RX4, RX5, RX6, RX7, RX8, RX9, RX10, RX11, RX0]
def ktL : List Nat := [0, 1, 4, 2, 2, 1, 4, 2, 4, 4, 4, 1, 2, 3, 2, 3, 3, 1, 1, 1, 1, 2, 2, 2, 3, 2, 1, 1, 2, 4, 4, 1, 2, 2, 2, 5, 0, 0, 0, 0, 1, 2, 2, 0, 2, 2, 2, 2, 2, 2, 2, 2, 2, 0, 2, 2, 2, 2, 2, 2, 2, 2, 2, 2, 2, 2, 0, 2, 2, 2, 2, 0, 2, 2, 2, 2, 2, 2, 2, 2, 2, 2, 2, 2, 2, 2, 0, 2, 2, 2, 2, 0, 0, 2, 2, 2, 2, 2, 2, 0, 2, 0]
def kcL : List Nat := [0, 9, 2, 0, 0, 4, 6, 0, 5, 7, 0, 6, 0, 0, 0, 0, 0, 5, 7, 0, 2, 0, 0, 0, 0, 0, 3, 1, 0, 8, 8, 8, 0, 0, 0, 0, 0, 0, 0, 0, 10, 0, 0, 0, 0, 0, 0, 0, 0, 0, 0, 0, 0, 0, 0, 0, 0, 0, 0, 0, 0, 0, 0, 0, 0, 0, 0, 0, 0, 0, 0, 0, 0, 0, 0, 0, 0, 0, 0, 0, 0, 0, 0, 0, 0, 0, 0, 0, 0, 0, 0, 0, 0, 0, 0, 0, 0, 0, 0, 0, 0, 0]
def knL : List Nat := [0, 6, 30, 5, 32, 9, 3, 4, 8, 24, 10, 7, 720, 720, 30, 30, 90, 4, 16, 12, 5, 24, 24, 24, 10, 4, 10, 2, 700, 3, 24, 5, 4, 3, 3, 1, 0, 0, 0, 0, 61, 3, 3, 0, 2160, 2160, 90, 270, 4, 8, 8, 8, 8, 0, 34, 34, 34, 34, 34, 34, 34, 34, 24, 24, 24, 24, 0, 10, 10, 10, 10, 0, 24, 24, 24, 10, 4, 4, 3, 3, 3, 3, 3, 24, 24, 24, 0, 120, 720, 720, 200, 0, 0, 100, 100, 100, 100, 100, 100, 0, 5, 0]
def kmL : List Nat := [0, 1, 1, 1, 1, 1, 1, 1, 1, 1, 1, 3, 3, 3, 3, 3, 3, 8, 24, 10, 32, 32, 32, 32, 32, 32, 2, 2, 2, 2, 2, 54, 2, 2, 2, 1, 0, 0, 0, 0, 1, 1, 1, 0, 1, 1, 1, 1, 1, 1, 1, 1, 1, 0, 1, 1, 1, 1, 1, 1, 1, 1, 1, 1, 1, 1, 0, 1, 1, 1, 1, 0, 1, 1, 1, 1, 1, 1, 1, 1, 1, 1, 1, 1, 1, 1, 0, 1, 1, 1, 1, 0, 0, 1, 1, 1, 1, 1, 1, 0, 1, 0]
def kt (k : Nat) : Nat := ktL.getD k 0
def kc (k : Nat) : Nat := kcL.getD k 0
def kn (k : Nat) : Nat := knL.getD k 0
def km (k : Nat) : Nat := kmL.getD k 0
def rfo (k : Nat) (i : Int) (s : Nat) : Option (Nat × Int) :=
  bif Nat.beq k 1 then ([some (5, 0), some (26, 0), some (26, 1), some (2, 0), some (3, 0), some (4, 0)] : List (Option (Nat × Int))).getD s none else
  bif Nat.beq k 5 then ([some (6, 0), some (7, 0), some (8, 0), some (9, 0), some (10, 0), none, none, none, none] : List (Option (Nat × Int))).getD s none else
  bif Nat.beq k 11 then ([none, none, some (12, i), some (13, i), some (14, i), some (15, i), some (16, i)] : List (Option (Nat × Int))).getD s none else
  bif Nat.beq k 20 then ([some (21, i), some (22, i), some (23, i), some (24, i), some (25, i)] : List (Option (Nat × Int))).getD s none else
  bif Nat.beq k 26 then ([some (5, 0), some (20, 30 + i), some (27, i), some (29, i), some (30, i), some (32, i), some (33, i), some (34, i), none, none] : List (Option (Nat × Int))).getD s none else
  bif Nat.beq k 27 then ([some (28, i), none] : List (Option (Nat × Int))).getD s none else
  bif Nat.beq k 40 then ([some (41, 0), some (42, 0), none, some (44, 0), some (45, 0), some (46, 0), some (47, 0), some (48, 0), some (49, 0), some (50, 0), some (51, 0), some (52, 0), none, some (54, 0), some (55, 0), some (56, 0), some (57, 0), some (58, 0), some (59, 0), some (60, 0), some (61, 0), some (62, 0), some (63, 0), some (64, 0), some (65, 0), none, some (67, 0), some (68, 0), some (69, 0), some (70, 0), none, some (72, 0), some (73, 0), some (74, 0), some (75, 0), some (76, 0), some (77, 0), some (78, 0), some (79, 0), some (80, 0), some (81, 0), some (82, 0), some (83, 0), some (84, 0), some (85, 0), none, some (87, 0), some (88, 0), some (89, 0), some (90, 0), none, none, some (93, 0), some (94, 0), some (95, 0), some (96, 0), some (97, 0), some (98, 0), none, some (100, 0), none] : List (Option (Nat × Int))).getD s none else
  none
def rfa (k : Nat) (i z : Int) : Option (Nat × Int) :=
  bif Nat.beq k 2 then some (20, z) else
  bif Nat.beq k 6 then some (11, z) else
  bif Nat.beq k 8 then some (17, z) else
  bif Nat.beq k 9 then some (18, z) else
  bif Nat.beq k 10 then some (19, z) else
  bif Nat.beq k 29 then some (31, 27 * i + z) else
  bif Nat.beq k 30 then some (31, 27 * i + 3 + z) else
  none
/-! ===== the methods by numbers ===== -/
def mNm0 : MethodName := ⟨"", "", ""⟩
def mNm : List MethodName := [mNm0, yX0_aimAt, yX2_keep, yX3_copyFrom, yX3_isWanted, yX3_openPhase, yX3_addGood, yX3_allCounted, yX4_restart, yX4_runSlot, yX4_breakOff, yX4_lose, yX4_aimOf, yX4_isObserved, yX4_beginAlert, yX4_resume, yX4_beginTarget, yX4_compare, yX4_arrears, yX4_observe, yX4_finish, yX4_endNight, yX5_moonLight, yX5_isFarFromMoon, yX5_suits, yX5_firstBegin, yX7_useFrom, yX7_seeingAt, yX7_newestCalibration, yX7_heightAt, yX7_highSlots, yX9_begin, yX9_clear, yX9_takeOver, yX10_place, yX10_moon, yX10_weather, yX10_fault, yX10_mount, yX10_calibrate, yX10_height, yX10_light, yX10_seeing, yX10_share, yX10_proposal, yX10_target, yX10_series, yX10_alert, yX10_wants, yX10_chances, yX10_run, yX10_now, yX10_goingOn, yX10_waiting, yX10_visits, yX10_served, yX10_slots, yX10_lost, yX10_data, yX10_datum, yX10_reads, yX10_replay, yX10_bestOrder, yX10_mostFilled, yX10_angle, yX10_needIndex, yX10_needSlots, yX10_needRange, yX10_needOrder, yX10_needSky, yX10_needState, yX11_thrown, yX11_holds, yX11_in, yX11_isSite, yX11_isNight, yX11_isSlot, yX11_isGroup, yX11_isTarget, yX11_isData, yX11_isPlace, yX11_size, yX11_angle, yX11_place, yX11_moon, yX11_isSpan, yX11_weather, yX11_fault, yX11_mounted, yX11_mount, yX11_calibrate, yX11_newest, yX11_heightOf, yX11_height, yX11_lightOf, yX11_light, yX11_seen, yX11_seeing, yX11_share, yX11_proposal, yX11_lay, yX11_target, yX11_series, yX11_alert, yX11_turn, yX11_wanting, yX11_wants, yX11_isHigh, yX11_suits, yX11_chances, yX11_many, yX11_groupOf, yX11_goesOn, yX11_begin, yX11_lose, yX11_close, yX11_alarm, yX11_resume, yX11_row, yX11_better, yX11_choose, yX11_done, yX11_site, yX11_slot, yX11_note, yX11_run, yX11_now, yX11_goingOn, yX11_waiting, yX11_visits, yX11_served, yX11_slots, yX11_lost, yX11_data, yX11_datum, yX11_reads, yX11_keep, yX11_goBack, yX11_replay, yX11_filled, yX11_bestOrder, yJ6_compare_7cf53, yJ9_abs_0f7a4, yJ9_max_7cf53, yJ9_min_7cf53, yL_place, yL_moon, yL_weather, yL_fault, yL_mount, yL_calibrate, yL_height, yL_light, yL_seeing, yL_share, yL_proposal, yL_target, yL_series, yL_alert, yL_wants, yL_chances, yL_run, yL_goingOn, yL_visits, yL_served, yL_slots, yL_lost, yL_datum, yL_reads, yL_replay, yL_bestOrder, ⟨RX8, "aimAt", "(IIII)V"⟩, ⟨RX1, "aimAt", "(IIII)V"⟩]
-- method 1: X0_aimAt
-- method 2: X2_keep
-- method 3: X3_copyFrom
-- method 4: X3_isWanted
-- method 5: X3_openPhase
-- method 6: X3_addGood
-- method 7: X3_allCounted
-- method 8: X4_restart
-- method 9: X4_runSlot
-- method 10: X4_breakOff
-- method 11: X4_lose
-- method 12: X4_aimOf
-- method 13: X4_isObserved
-- method 14: X4_beginAlert
-- method 15: X4_resume
-- method 16: X4_beginTarget
-- method 17: X4_compare
-- method 18: X4_arrears
-- method 19: X4_observe
-- method 20: X4_finish
-- method 21: X4_endNight
-- method 22: X5_moonLight
-- method 23: X5_isFarFromMoon
-- method 24: X5_suits
-- method 25: X5_firstBegin
-- method 26: X7_useFrom
-- method 27: X7_seeingAt
-- method 28: X7_newestCalibration
-- method 29: X7_heightAt
-- method 30: X7_highSlots
-- method 31: X9_begin
-- method 32: X9_clear
-- method 33: X9_takeOver
-- method 34: X10_place
-- method 35: X10_moon
-- method 36: X10_weather
-- method 37: X10_fault
-- method 38: X10_mount
-- method 39: X10_calibrate
-- method 40: X10_height
-- method 41: X10_light
-- method 42: X10_seeing
-- method 43: X10_share
-- method 44: X10_proposal
-- method 45: X10_target
-- method 46: X10_series
-- method 47: X10_alert
-- method 48: X10_wants
-- method 49: X10_chances
-- method 50: X10_run
-- method 51: X10_now
-- method 52: X10_goingOn
-- method 53: X10_waiting
-- method 54: X10_visits
-- method 55: X10_served
-- method 56: X10_slots
-- method 57: X10_lost
-- method 58: X10_data
-- method 59: X10_datum
-- method 60: X10_reads
-- method 61: X10_replay
-- method 62: X10_bestOrder
-- method 63: X10_mostFilled
-- method 64: X10_angle
-- method 65: X10_needIndex
-- method 66: X10_needSlots
-- method 67: X10_needRange
-- method 68: X10_needOrder
-- method 69: X10_needSky
-- method 70: X10_needState
-- method 71: X11_thrown
-- method 72: X11_holds
-- method 73: X11_in
-- method 74: X11_isSite
-- method 75: X11_isNight
-- method 76: X11_isSlot
-- method 77: X11_isGroup
-- method 78: X11_isTarget
-- method 79: X11_isData
-- method 80: X11_isPlace
-- method 81: X11_size
-- method 82: X11_angle
-- method 83: X11_place
-- method 84: X11_moon
-- method 85: X11_isSpan
-- method 86: X11_weather
-- method 87: X11_fault
-- method 88: X11_mounted
-- method 89: X11_mount
-- method 90: X11_calibrate
-- method 91: X11_newest
-- method 92: X11_heightOf
-- method 93: X11_height
-- method 94: X11_lightOf
-- method 95: X11_light
-- method 96: X11_seen
-- method 97: X11_seeing
-- method 98: X11_share
-- method 99: X11_proposal
-- method 100: X11_lay
-- method 101: X11_target
-- method 102: X11_series
-- method 103: X11_alert
-- method 104: X11_turn
-- method 105: X11_wanting
-- method 106: X11_wants
-- method 107: X11_isHigh
-- method 108: X11_suits
-- method 109: X11_chances
-- method 110: X11_many
-- method 111: X11_groupOf
-- method 112: X11_goesOn
-- method 113: X11_begin
-- method 114: X11_lose
-- method 115: X11_close
-- method 116: X11_alarm
-- method 117: X11_resume
-- method 118: X11_row
-- method 119: X11_better
-- method 120: X11_choose
-- method 121: X11_done
-- method 122: X11_site
-- method 123: X11_slot
-- method 124: X11_note
-- method 125: X11_run
-- method 126: X11_now
-- method 127: X11_goingOn
-- method 128: X11_waiting
-- method 129: X11_visits
-- method 130: X11_served
-- method 131: X11_slots
-- method 132: X11_lost
-- method 133: X11_data
-- method 134: X11_datum
-- method 135: X11_reads
-- method 136: X11_keep
-- method 137: X11_goBack
-- method 138: X11_replay
-- method 139: X11_filled
-- method 140: X11_bestOrder
-- method 141: J6_compare_7cf53
-- method 142: J9_abs_0f7a4
-- method 143: J9_max_7cf53
-- method 144: J9_min_7cf53
-- method 145: L_place
-- method 146: L_moon
-- method 147: L_weather
-- method 148: L_fault
-- method 149: L_mount
-- method 150: L_calibrate
-- method 151: L_height
-- method 152: L_light
-- method 153: L_seeing
-- method 154: L_share
-- method 155: L_proposal
-- method 156: L_target
-- method 157: L_series
-- method 158: L_alert
-- method 159: L_wants
-- method 160: L_chances
-- method 161: L_run
-- method 162: L_goingOn
-- method 163: L_visits
-- method 164: L_served
-- method 165: L_slots
-- method 166: L_lost
-- method 167: L_datum
-- method 168: L_reads
-- method 169: L_replay
-- method 170: L_bestOrder
