/-! ===== the sorts of cells: tag (1 object, 2 ints, 3 booleans, 4 references, 5 longs), class position, fields or length, how many ===== -/
-- sort 1: Cloudseed (0 plan, 1 live, 2 again, 3 starts, 4 few, 5 ends)
-- sort 2: starts
-- sort 3: few
-- sort 4: ends
-- sort 5: Plan (0 sites, 1 shares, 2 proposals, 3 targets, 4 alerts, 5 phase, 6 proposalCount, 7 targetCount, 8 alertCount)
-- sort 6: sites
-- sort 7: shares
-- sort 8: proposals
-- sort 9: targets
-- sort 10: alerts
-- sort 11: Site (0 latitude, 1 longitude, 2 toldSeeing, 3 faulty, 4 instruments, 5 changed, 6 calibrated)
-- sort 12: toldSeeing
-- sort 13: faulty
-- sort 14: instruments
-- sort 15: changed
-- sort 16: calibrated
-- sort 17: Proposal (0 group, 1 rank, 2 leastQuality, 3 privateNights)
-- sort 18: Target (0 group, 1 ra, 2 dec, 3 length, 4 instrument, 5 leastHeight, 6 mostLight, 7 mostSeeing, 8 leastQuality, 9 number, 10 proposal, 11 visitsAsked, 12 isSeries, 13 firstNight, 14 period, 15 tolerance)
-- sort 19: Alert (0 group, 1 ra, 2 dec, 3 length, 4 instrument, 5 leastHeight, 6 mostLight, 7 mostSeeing, 8 leastQuality, 9 urgency, 10 firstTime, 11 lastTime)
-- sort 20: Book (0 goodVisits, 1 goodNights, 2 goodPhases, 3 servedAlerts, 4 countedSlots)
-- sort 21: goodVisits
-- sort 22: goodNights
-- sort 23: goodPhases
-- sort 24: servedAlerts
-- sort 25: countedSlots
-- sort 26: Course (0 plan, 1 book, 2 archive, 3 onSite, 4 broken, 5 givenBack, 6 closedSlots, 7 idleSlots, 8 now, 9 goodDone)
-- sort 27: Archive (0 parts, 1 count)
-- sort 28: parts
-- sort 29: onSite
-- sort 30: broken
-- sort 31: Visit (0 kind, 1 number, 2 had, 3 worstSeeing, 4 brokenOff)
-- sort 32: givenBack
-- sort 33: closedSlots
-- sort 34: idleSlots
-- sort 40: numbers
-- sort 41: told
def xCl : List vw_C := [(RX1, TX1, 12), (RX2, TX2, 2), (RX3, TX3, 5), (RX4, TX4, 10), (RX5, TX5, 9), (RX6, TX6, 4), (RX7, TX7, 7), (RX8, TX8, 16), (RX9, TX9, 5), (RX10, TX10, 6), (RX10, TX10, 6)]
def cNm : List String := [RX1, RX2, RX3, RX4, RX5, RX6, RX7, RX8, RX9, RX10, RX10, RX0]
def ktL : List Nat := [0, 1, 4, 2, 2, 1, 4, 2, 4, 4, 4, 1, 2, 3, 2, 3, 3, 1, 1, 1, 1, 2, 2, 2, 3, 2, 1, 1, 2, 4, 4, 1, 2, 2, 2, 0, 0, 0, 0, 0, 2, 2, 0, 0, 0, 0, 0, 0, 0, 0, 0, 0, 0, 0, 0, 0, 0, 0, 0, 0, 0, 0, 0, 0, 0, 0, 0, 0, 0, 0, 0, 0, 0, 0, 0, 0, 0, 0, 0, 0, 0, 0, 0, 0, 0, 0, 0, 0, 0, 0, 0, 0, 0, 0, 0, 0, 0, 0, 0, 0, 0, 0]
def kcL : List Nat := [0, 9, 2, 0, 0, 4, 6, 0, 5, 7, 0, 6, 0, 0, 0, 0, 0, 5, 7, 0, 2, 0, 0, 0, 0, 0, 3, 1, 0, 8, 8, 8, 0, 0, 0, 0, 0, 0, 0, 0, 0, 0, 0, 0, 0, 0, 0, 0, 0, 0, 0, 0, 0, 0, 0, 0, 0, 0, 0, 0, 0, 0, 0, 0, 0, 0, 0, 0, 0, 0, 0, 0, 0, 0, 0, 0, 0, 0, 0, 0, 0, 0, 0, 0, 0, 0, 0, 0, 0, 0, 0, 0, 0, 0, 0, 0, 0, 0, 0, 0, 0, 0]
def knL : List Nat := [0, 6, 30, 5, 32, 9, 3, 4, 8, 24, 10, 7, 720, 720, 30, 30, 90, 4, 16, 12, 5, 24, 24, 24, 10, 4, 10, 2, 700, 3, 24, 5, 4, 3, 3, 0, 0, 0, 0, 0, 28, 40, 0, 0, 0, 0, 0, 0, 0, 0, 0, 0, 0, 0, 0, 0, 0, 0, 0, 0, 0, 0, 0, 0, 0, 0, 0, 0, 0, 0, 0, 0, 0, 0, 0, 0, 0, 0, 0, 0, 0, 0, 0, 0, 0, 0, 0, 0, 0, 0, 0, 0, 0, 0, 0, 0, 0, 0, 0, 0, 0, 0]
def kmL : List Nat := [0, 1, 1, 1, 1, 1, 1, 1, 1, 1, 1, 3, 3, 3, 3, 3, 3, 8, 24, 10, 32, 32, 32, 32, 32, 32, 2, 2, 2, 2, 2, 54, 2, 2, 2, 0, 0, 0, 0, 0, 1, 2, 0, 0, 0, 0, 0, 0, 0, 0, 0, 0, 0, 0, 0, 0, 0, 0, 0, 0, 0, 0, 0, 0, 0, 0, 0, 0, 0, 0, 0, 0, 0, 0, 0, 0, 0, 0, 0, 0, 0, 0, 0, 0, 0, 0, 0, 0, 0, 0, 0, 0, 0, 0, 0, 0, 0, 0, 0, 0, 0, 0]
def kt (k : Nat) : Nat := ktL.getD k 0
def kc (k : Nat) : Nat := kcL.getD k 0
def kn (k : Nat) : Nat := knL.getD k 0
def km (k : Nat) : Nat := kmL.getD k 0
def rfo (k : Nat) (i : Int) (s : Nat) : Option (Nat × Int) :=
  bif Nat.beq k 1 then ([some (5, 0), some (26, 0), some (26, 1), some (2, 0), some (3, 0), some (4, 0)] : List (Option (Nat × Int))).getD s none else
  bif Nat.beq k 5 then ([some (6, 0), some (7, 0), some (8, 0), some (9, 0), some (10, 0), none, none, none, none] : List (Option (Nat × Int))).getD s none else
  bif Nat.beq k 11 then ([none, none, some (12, i), some (13, i), some (14, i), some (15, i), some (16, i)] : List (Option (Nat × Int))).getD s none else
  bif Nat.beq k 20 then ([some (21, i), some (22, i), some (23, i), some (24, i), some (25, i)] : List (Option (Nat × Int))).getD s none else
  bif Nat.beq k 26 then ([some (5, 0), some (20, 30 + i), some (27, i), some (29, i), some (30, i), some (32, i), some (33, i), some (34, i), none, none] : List (Option (Nat × Int))).getD s none else
  bif Nat.beq k 27 then ([some (28, i), none] : List (Option (Nat × Int))).getD s none else
  none
def rfa (k : Nat) (i z : Int) : Option (Nat × Int) :=
  bif Nat.beq k 2 then some (20, z) else
  bif Nat.beq k 6 then some (11, z) else
  bif Nat.beq k 8 then some (17, z) else
  bif Nat.beq k 9 then some (18, z) else
  bif Nat.beq k 10 then some (19, z) else
  bif Nat.beq k 29 then some (31, 27 * i + z) else
  bif Nat.beq k 30 then some (31, 27 * i + 3 + z) else
  none
/-! ===== the methods by numbers ===== -/
def mNm0 : MethodName := ⟨"", "", ""⟩
def mNm : List MethodName := [mNm0, yX0_aimAt, yX2_keep, yX3_copyFrom, yX3_isWanted, yX3_openPhase, yX3_addGood, yX3_allCounted, yX4_restart, yX4_runSlot, yX4_breakOff, yX4_lose, yX4_aimOf, yX4_isObserved, yX4_beginAlert, yX4_resume, yX4_beginTarget, yX4_compare, yX4_arrears, yX4_observe, yX4_finish, yX4_endNight, yX5_moonLight, yX5_isFarFromMoon, yX5_suits, yX5_firstBegin, yX7_useFrom, yX7_seeingAt, yX7_newestCalibration, yX7_heightAt, yX7_highSlots, yX9_begin, yX9_clear, yX9_takeOver, yX10_weather, yX10_fault, yX10_mount, yX10_calibrate, yX10_light, yX10_seeing, yX10_share, yX10_proposal, yX10_target, yX10_series, yX10_alert, yX10_wants, yX10_chances, yX10_run, yX10_now, yX10_goingOn, yX10_waiting, yX10_visits, yX10_slots, yX10_lost, yX10_data, yX10_datum, yX10_reads, yX10_replay, yX10_bestOrder, yX10_mostFilled, yX10_angle, yX10_needIndex, yX10_needSlots, yX10_needRange, yX10_needOrder, yX10_needSky, yX10_needState, yJ6_compare_7cf53, yJ9_abs_0f7a4, yJ9_max_7cf53, yJ9_min_7cf53, yL_cell, yL_low, yL_targets, yL_rows, yL_alarms, yL_mounts, yL_replays, yL_proposals, yL_tell, yL_same, yL_asks, yL_act, ⟨RX8, "aimAt", "(IIII)V"⟩, ⟨RX1, "aimAt", "(IIII)V"⟩]
-- method 1: X0_aimAt
-- method 2: X2_keep
-- method 3: X3_copyFrom
-- method 4: X3_isWanted
-- method 5: X3_openPhase
-- method 6: X3_addGood
-- method 7: X3_allCounted
-- method 8: X4_restart
-- method 9: X4_runSlot
-- method 10: X4_breakOff
-- method 11: X4_lose
-- method 12: X4_aimOf
-- method 13: X4_isObserved
-- method 14: X4_beginAlert
-- method 15: X4_resume
-- method 16: X4_beginTarget
-- method 17: X4_compare
-- method 18: X4_arrears
-- method 19: X4_observe
-- method 20: X4_finish
-- method 21: X4_endNight
-- method 22: X5_moonLight
-- method 23: X5_isFarFromMoon
-- method 24: X5_suits
-- method 25: X5_firstBegin
-- method 26: X7_useFrom
-- method 27: X7_seeingAt
-- method 28: X7_newestCalibration
-- method 29: X7_heightAt
-- method 30: X7_highSlots
-- method 31: X9_begin
-- method 32: X9_clear
-- method 33: X9_takeOver
-- method 34: X10_weather
-- method 35: X10_fault
-- method 36: X10_mount
-- method 37: X10_calibrate
-- method 38: X10_light
-- method 39: X10_seeing
-- method 40: X10_share
-- method 41: X10_proposal
-- method 42: X10_target
-- method 43: X10_series
-- method 44: X10_alert
-- method 45: X10_wants
-- method 46: X10_chances
-- method 47: X10_run
-- method 48: X10_now
-- method 49: X10_goingOn
-- method 50: X10_waiting
-- method 51: X10_visits
-- method 52: X10_slots
-- method 53: X10_lost
-- method 54: X10_data
-- method 55: X10_datum
-- method 56: X10_reads
-- method 57: X10_replay
-- method 58: X10_bestOrder
-- method 59: X10_mostFilled
-- method 60: X10_angle
-- method 61: X10_needIndex
-- method 62: X10_needSlots
-- method 63: X10_needRange
-- method 64: X10_needOrder
-- method 65: X10_needSky
-- method 66: X10_needState
-- method 67: J6_compare_7cf53
-- method 68: J9_abs_0f7a4
-- method 69: J9_max_7cf53
-- method 70: J9_min_7cf53
-- method 71: L_cell
-- method 72: L_low
-- method 73: L_targets
-- method 74: L_rows
-- method 75: L_alarms
-- method 76: L_mounts
-- method 77: L_replays
-- method 78: L_proposals
-- method 79: L_tell
-- method 80: L_same
-- method 81: L_asks
-- method 82: L_act
