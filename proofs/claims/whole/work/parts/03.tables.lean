/-! ===== the sorts of cells: tag (1 object, 2 ints, 3 booleans, 4 references, 5 longs), class position, fields or length, how many ===== -/
-- sort 1: Cloudseed (0 plan, 1 live, 2 again, 3 starts, 4 few, 5 ends)
-- sort 2: starts
-- sort 3: few
-- sort 4: ends
-- sort 5: Plan (0 sites, 1 shares, 2 proposals, 3 targets, 4 alerts, 5 phase, 6 proposalCount, 7 targetCount, 8 alertCount)
-- sort 6: sites
-- sort 7: shares
-- sort 8: proposals
-- sort 9: targets
-- sort 10: alerts
-- sort 11: Site (0 latitude, 1 longitude, 2 toldSeeing, 3 faulty, 4 instruments, 5 changed, 6 calibrated)
-- sort 12: toldSeeing
-- sort 13: faulty
-- sort 14: instruments
-- sort 15: changed
-- sort 16: calibrated
-- sort 17: Proposal (0 group, 1 rank, 2 leastQuality, 3 privateNights)
-- sort 18: Target (0 group, 1 ra, 2 dec, 3 length, 4 instrument, 5 leastHeight, 6 mostLight, 7 mostSeeing, 8 leastQuality, 9 number, 10 proposal, 11 visitsAsked, 12 isSeries, 13 firstNight, 14 period, 15 tolerance)
-- sort 19: Alert (0 group, 1 ra, 2 dec, 3 length, 4 instrument, 5 leastHeight, 6 mostLight, 7 mostSeeing, 8 leastQuality, 9 urgency, 10 firstTime, 11 lastTime)
-- sort 20: Book (0 goodVisits, 1 goodNights, 2 goodPhases, 3 servedAlerts, 4 countedSlots)
-- sort 21: goodVisits
-- sort 22: goodNights
-- sort 23: goodPhases
-- sort 24: servedAlerts
-- sort 25: countedSlots
-- sort 26: Course (0 plan, 1 book, 2 archive, 3 onSite, 4 broken, 5 givenBack, 6 closedSlots, 7 idleSlots, 8 now, 9 goodDone)
-- sort 27: Archive (0 parts, 1 count)
-- sort 28: parts
-- sort 29: onSite
-- sort 30: broken
-- sort 31: Visit (0 kind, 1 number, 2 had, 3 worstSeeing, 4 brokenOff)
-- sort 32: givenBack
-- sort 33: closedSlots
-- sort 34: idleSlots
-- sort 35: out
-- sort 40: Model (0 lat, 1 lon, 2 phase, 3 wx, 4 ft, 5 mt, 6 cal, 7 share, 8 pg, 9 pr, 10 pq, 11 pn, 12 proposals, 13 of, 14 ra, 15 dec, 16 len, 17 ins, 18 hgt, 19 lgt, 20 see, 21 num, 22 first, 23 per, 24 tol, 25 targets, 26 urge, 27 an, 28 af, 29 al, 30 alerts, 31 gv, 32 js, 33 gn, 34 an2, 35 cnt, 36 bk, 37 shut, 38 free, 39 vw, 40 vs, 41 vq, 42 ws, 43 wq, 44 wt, 45 now, 46 cnts, 47 gvs, 48 jss, 49 save, 50 replays, 51 goods, 52 dw, 53 ds, 54 dn, 55 dq, 56 dg, 57 dc, 58 data, 59 few, 60 thrown)
-- sort 41: m_lat
-- sort 42: m_lon
-- sort 44: m_wx
-- sort 45: m_ft
-- sort 46: m_mt
-- sort 47: m_cal
-- sort 48: m_share
-- sort 49: m_pg
-- sort 50: m_pr
-- sort 51: m_pq
-- sort 52: m_pn
-- sort 54: m_of
-- sort 55: m_ra
-- sort 56: m_dec
-- sort 57: m_len
-- sort 58: m_ins
-- sort 59: m_hgt
-- sort 60: m_lgt
-- sort 61: m_see
-- sort 62: m_num
-- sort 63: m_first
-- sort 64: m_per
-- sort 65: m_tol
-- sort 67: m_urge
-- sort 68: m_an
-- sort 69: m_af
-- sort 70: m_al
-- sort 72: m_gv
-- sort 73: m_js
-- sort 74: m_gn
-- sort 75: m_an2
-- sort 76: m_cnt
-- sort 77: m_bk
-- sort 78: m_shut
-- sort 79: m_free
-- sort 80: m_vw
-- sort 81: m_vs
-- sort 82: m_vq
-- sort 83: m_ws
-- sort 84: m_wq
-- sort 85: m_wt
-- sort 87: m_cnts
-- sort 88: m_gvs
-- sort 89: m_jss
-- sort 90: m_save
-- sort 93: m_dw
-- sort 94: m_ds
-- sort 95: m_dn
-- sort 96: m_dq
-- sort 97: m_dg
-- sort 98: m_dc
-- sort 100: m_few
def xCl : List vw_C := [(RX1, TX1, 12), (RX2, TX2, 2), (RX3, TX3, 5), (RX4, TX4, 10), (RX5, TX5, 9), (RX6, TX6, 4), (RX7, TX7, 7), (RX8, TX8, 16), (RX9, TX9, 5), (RX10, TX10, 6), (RX11, TX11, 61)]
def cNm : List String := [RX1, RX2, RX3, RX4, RX5, RX6, RX7, RX8, RX9, RX10, RX11, RX0]
def ktL : List Nat := [0, 1, 4, 2, 2, 1, 4, 2, 4, 4, 4, 1, 2, 3, 2, 3, 3, 1, 1, 1, 1, 2, 2, 2, 3, 2, 1, 1, 2, 4, 4, 1, 2, 2, 2, 5, 0, 0, 0, 0, 1, 2, 2, 0, 2, 2, 2, 2, 2, 2, 2, 2, 2, 0, 2, 2, 2, 2, 2, 2, 2, 2, 2, 2, 2, 2, 0, 2, 2, 2, 2, 0, 2, 2, 2, 2, 2, 2, 2, 2, 2, 2, 2, 2, 2, 2, 0, 2, 2, 2, 2, 0, 0, 2, 2, 2, 2, 2, 2, 0, 2, 0]
def kcL : List Nat := [0, 9, 2, 0, 0, 4, 6, 0, 5, 7, 0, 6, 0, 0, 0, 0, 0, 5, 7, 0, 2, 0, 0, 0, 0, 0, 3, 1, 0, 8, 8, 8, 0, 0, 0, 0, 0, 0, 0, 0, 10, 0, 0, 0, 0, 0, 0, 0, 0, 0, 0, 0, 0, 0, 0, 0, 0, 0, 0, 0, 0, 0, 0, 0, 0, 0, 0, 0, 0, 0, 0, 0, 0, 0, 0, 0, 0, 0, 0, 0, 0, 0, 0, 0, 0, 0, 0, 0, 0, 0, 0, 0, 0, 0, 0, 0, 0, 0, 0, 0, 0, 0]
def knL : List Nat := [0, 6, 30, 5, 32, 9, 3, 4, 8, 24, 10, 7, 720, 720, 30, 30, 90, 4, 16, 12, 5, 24, 24, 24, 10, 4, 10, 2, 700, 3, 24, 5, 4, 3, 3, 1, 0, 0, 0, 0, 61, 3, 3, 0, 2160, 2160, 90, 270, 4, 8, 8, 8, 8, 0, 34, 34, 34, 34, 34, 34, 34, 34, 24, 24, 24, 24, 0, 10, 10, 10, 10, 0, 24, 24, 24, 10, 4, 4, 3, 3, 3, 3, 3, 24, 24, 24, 0, 120, 720, 720, 200, 0, 0, 100, 100, 100, 100, 100, 100, 0, 5, 0]
def kmL : List Nat := [0, 1, 1, 1, 1, 1, 1, 1, 1, 1, 1, 3, 3, 3, 3, 3, 3, 8, 24, 10, 32, 32, 32, 32, 32, 32, 2, 2, 2, 2, 2, 54, 2, 2, 2, 1, 0, 0, 0, 0, 1, 1, 1, 0, 1, 1, 1, 1, 1, 1, 1, 1, 1, 0, 1, 1, 1, 1, 1, 1, 1, 1, 1, 1, 1, 1, 0, 1, 1, 1, 1, 0, 1, 1, 1, 1, 1, 1, 1, 1, 1, 1, 1, 1, 1, 1, 0, 1, 1, 1, 1, 0, 0, 1, 1, 1, 1, 1, 1, 0, 1, 0]
def kt (k : Nat) : Nat := ktL.getD k 0
def kc (k : Nat) : Nat := kcL.getD k 0
def kn (k : Nat) : Nat := knL.getD k 0
def km (k : Nat) : Nat := kmL.getD k 0
def rfo (k : Nat) (i : Int) (s : Nat) : Option (Nat × Int) :=
  bif Nat.beq k 1 then ([some (5, 0), some (26, 0), some (26, 1), some (2, 0), some (3, 0), some (4, 0)] : List (Option (Nat × Int))).getD s none else
  bif Nat.beq k 5 then ([some (6, 0), some (7, 0), some (8, 0), some (9, 0), some (10, 0), none, none, none, none] : List (Option (Nat × Int))).getD s none else
  bif Nat.beq k 11 then ([none, none, some (12, i), some (13, i), some (14, i), some (15, i), some (16, i)] : List (Option (Nat × Int))).getD s none else
  bif Nat.beq k 20 then ([some (21, i), some (22, i), some (23, i), some (24, i), some (25, i)] : List (Option (Nat × Int))).getD s none else
  bif Nat.beq k 26 then ([some (5, 0), some (20, 30 + i), some (27, i), some (29, i), some (30, i), some (32, i), some (33, i), some (34, i), none, none] : List (Option (Nat × Int))).getD s none else
  bif Nat.beq k 27 then ([some (28, i), none] : List (Option (Nat × Int))).getD s none else
  bif Nat.beq k 40 then ([some (41, 0), some (42, 0), none, some (44, 0), some (45, 0), some (46, 0), some (47, 0), some (48, 0), some (49, 0), some (50, 0), some (51, 0), some (52, 0), none, some (54, 0), some (55, 0), some (56, 0), some (57, 0), some (58, 0), some (59, 0), some (60, 0), some (61, 0), some (62, 0), some (63, 0), some (64, 0), some (65, 0), none, some (67, 0), some (68, 0), some (69, 0), some (70, 0), none, some (72, 0), some (73, 0), some (74, 0), some (75, 0), some (76, 0), some (77, 0), some (78, 0), some (79, 0), some (80, 0), some (81, 0), some (82, 0), some (83, 0), some (84, 0), some (85, 0), none, some (87, 0), some (88, 0), some (89, 0), some (90, 0), none, none, some (93, 0), some (94, 0), some (95, 0), some (96, 0), some (97, 0), some (98, 0), none, some (100, 0), none] : List (Option (Nat × Int))).getD s none else
  none
def rfa (k : Nat) (i z : Int) : Option (Nat × Int) :=
  bif Nat.beq k 2 then some (20, z) else
  bif Nat.beq k 6 then some (11, z) else
  bif Nat.beq k 8 then some (17, z) else
  bif Nat.beq k 9 then some (18, z) else
  bif Nat.beq k 10 then some (19, z) else
  bif Nat.beq k 29 then some (31, 27 * i + z) else
  bif Nat.beq k 30 then some (31, 27 * i + 3 + z) else
  none
