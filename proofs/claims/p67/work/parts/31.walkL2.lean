/-! the law, a round of its loop (printed by walk.py) -/
def fL_body (V : VV) (x2 x5 : Int) : Option VV := bd (f6_read V) (fun W2 => bd (f6_agrees W2) (fun r4 => (if nrm r4 = 0 then none else ck (0 < nrm 8) (ck (0 < nrm x2) (ck (0 < nrm 64) (ck (0 < nrm 2) (bd ((if nrm ((nrm ((nrm x5).tdiv (nrm 64))).tmod (nrm 2)) = 0 then some (1) else some (0))) (fun y11 => ck (0 < nrm 128) (ck (0 < nrm 140) (ck (0 < nrm 32768) (ck (0 < nrm 30) ((if nrm 4 ≤ nrm ((nrm x5).tmod (nrm 8)) then (if nrm ((nrm x5).tmod (nrm 8)) = nrm 4 then (if nrm (W2 148 5) ≤ 0 then (if nrm ((nrm x5).tmod (nrm 8)) = nrm 5 then bd (f5_minute W2) (fun r23 => (if nrm ((nrm ((nrm x5).tdiv (nrm 128))).tmod (nrm 140)) < nrm r23 then bd (fL_act W2 ((nrm x5).tdiv (nrm 8))) (fun W26 => some W26) else (if nrm 20 ≤ nrm (W2 148 5) then bd (fL_act W2 ((nrm x5).tdiv (nrm 8))) (fun W29 => some W29) else bd (f5_transitTime W2 ((nrm ((nrm x5).tdiv (nrm 8))).tmod (nrm x2))) (fun r31 => bd (f6_isFree W2 y11 ((nrm ((nrm x5).tdiv (nrm 128))).tmod (nrm 140)) (((nrm ((nrm x5).tdiv (nrm 128))).tmod (nrm 140)) + r31)) (fun r33 => bd (f5_conflictCount W2 ((nrm ((nrm x5).tdiv (nrm 8))).tmod (nrm x2)) y11 ((nrm ((nrm x5).tdiv (nrm 128))).tmod (nrm 140))) (fun r35 => bd ((if nrm r35 = 0 then some (1) else some (0))) (fun y37 => (if nrm r33 = nrm y37 then bd (f5_transitTime W2 ((nrm ((nrm x5).tdiv (nrm 8))).tmod (nrm x2))) (fun r42 => bd (f6_isFree W2 y11 ((nrm ((nrm x5).tdiv (nrm 128))).tmod (nrm 140)) (((nrm ((nrm x5).tdiv (nrm 128))).tmod (nrm 140)) + r42)) (fun r44 => (if nrm r44 = 0 then some W2 else bd (f6_add W2 ((nrm ((nrm x5).tdiv (nrm 8))).tmod (nrm x2)) y11 ((nrm ((nrm x5).tdiv (nrm 128))).tmod (nrm 140))) (fun W47 => bd2 (f5_book W47 ((nrm ((nrm x5).tdiv (nrm 8))).tmod (nrm x2)) y11 ((nrm ((nrm x5).tdiv (nrm 128))).tmod (nrm 140))) (fun r49 W50 => bd (f5_transitTime W50 ((nrm ((nrm x5).tdiv (nrm 8))).tmod (nrm x2))) (fun r52 => (if nrm r49 = nrm (((nrm ((nrm x5).tdiv (nrm 128))).tmod (nrm 140)) + r52) then bd (f6_agrees W50) (fun r55 => (if nrm r55 = 0 then none else some W50)) else none))))))) else none)))))))) else bd (fL_act W2 ((nrm x5).tdiv (nrm 8))) (fun W58 => some W58)) else ck (0 < nrm 1048576) (ck (0 < nrm (W2 148 5)) (bd (f5_startMinute W2 ((nrm ((nrm x5).tdiv (nrm 1048576))).tmod (nrm (W2 148 5)))) (fun r62 => bd (f5_minute W2) (fun r64 => (if nrm r62 ≤ nrm r64 then (if nrm ((nrm x5).tmod (nrm 8)) = nrm 5 then bd (f5_minute W2) (fun r68 => (if nrm ((nrm ((nrm x5).tdiv (nrm 128))).tmod (nrm 140)) < nrm r68 then bd (fL_act W2 ((nrm x5).tdiv (nrm 8))) (fun W71 => some W71) else (if nrm 20 ≤ nrm (W2 148 5) then bd (fL_act W2 ((nrm x5).tdiv (nrm 8))) (fun W74 => some W74) else bd (f5_transitTime W2 ((nrm ((nrm x5).tdiv (nrm 8))).tmod (nrm x2))) (fun r76 => bd (f6_isFree W2 y11 ((nrm ((nrm x5).tdiv (nrm 128))).tmod (nrm 140)) (((nrm ((nrm x5).tdiv (nrm 128))).tmod (nrm 140)) + r76)) (fun r78 => bd (f5_conflictCount W2 ((nrm ((nrm x5).tdiv (nrm 8))).tmod (nrm x2)) y11 ((nrm ((nrm x5).tdiv (nrm 128))).tmod (nrm 140))) (fun r80 => bd ((if nrm r80 = 0 then some (1) else some (0))) (fun y82 => (if nrm r78 = nrm y82 then bd (f5_transitTime W2 ((nrm ((nrm x5).tdiv (nrm 8))).tmod (nrm x2))) (fun r87 => bd (f6_isFree W2 y11 ((nrm ((nrm x5).tdiv (nrm 128))).tmod (nrm 140)) (((nrm ((nrm x5).tdiv (nrm 128))).tmod (nrm 140)) + r87)) (fun r89 => (if nrm r89 = 0 then some W2 else bd (f6_add W2 ((nrm ((nrm x5).tdiv (nrm 8))).tmod (nrm x2)) y11 ((nrm ((nrm x5).tdiv (nrm 128))).tmod (nrm 140))) (fun W92 => bd2 (f5_book W92 ((nrm ((nrm x5).tdiv (nrm 8))).tmod (nrm x2)) y11 ((nrm ((nrm x5).tdiv (nrm 128))).tmod (nrm 140))) (fun r94 W95 => bd (f5_transitTime W95 ((nrm ((nrm x5).tdiv (nrm 8))).tmod (nrm x2))) (fun r97 => (if nrm r94 = nrm (((nrm ((nrm x5).tdiv (nrm 128))).tmod (nrm 140)) + r97) then bd (f6_agrees W95) (fun r100 => (if nrm r100 = 0 then none else some W95)) else none))))))) else none)))))))) else bd (fL_act W2 ((nrm x5).tdiv (nrm 8))) (fun W103 => some W103)) else bd (f6_remove W2 ((nrm ((nrm x5).tdiv (nrm 1048576))).tmod (nrm (W2 148 5)))) (fun W105 => bd2 (f6_process W105) (fun r107 W108 => bd (f5_bookingCount W108) (fun r110 => ck (0 < nrm r110) (bd2 (f5_cancel W108 ((nrm ((nrm x5).tdiv (nrm 1048576))).tmod (nrm r110))) (fun r113 W114 => (if nrm r113 = nrm r107 then bd (f6_agrees W114) (fun r117 => (if nrm r117 = 0 then none else some W114)) else none)))))))))))) else (if nrm ((nrm x5).tmod (nrm 8)) = nrm 5 then bd (f5_minute W2) (fun r121 => (if nrm ((nrm ((nrm x5).tdiv (nrm 128))).tmod (nrm 140)) < nrm r121 then bd (fL_act W2 ((nrm x5).tdiv (nrm 8))) (fun W124 => some W124) else (if nrm 20 ≤ nrm (W2 148 5) then bd (fL_act W2 ((nrm x5).tdiv (nrm 8))) (fun W127 => some W127) else bd (f5_transitTime W2 ((nrm ((nrm x5).tdiv (nrm 8))).tmod (nrm x2))) (fun r129 => bd (f6_isFree W2 y11 ((nrm ((nrm x5).tdiv (nrm 128))).tmod (nrm 140)) (((nrm ((nrm x5).tdiv (nrm 128))).tmod (nrm 140)) + r129)) (fun r131 => bd (f5_conflictCount W2 ((nrm ((nrm x5).tdiv (nrm 8))).tmod (nrm x2)) y11 ((nrm ((nrm x5).tdiv (nrm 128))).tmod (nrm 140))) (fun r133 => bd ((if nrm r133 = 0 then some (1) else some (0))) (fun y135 => (if nrm r131 = nrm y135 then bd (f5_transitTime W2 ((nrm ((nrm x5).tdiv (nrm 8))).tmod (nrm x2))) (fun r140 => bd (f6_isFree W2 y11 ((nrm ((nrm x5).tdiv (nrm 128))).tmod (nrm 140)) (((nrm ((nrm x5).tdiv (nrm 128))).tmod (nrm 140)) + r140)) (fun r142 => (if nrm r142 = 0 then some W2 else bd (f6_add W2 ((nrm ((nrm x5).tdiv (nrm 8))).tmod (nrm x2)) y11 ((nrm ((nrm x5).tdiv (nrm 128))).tmod (nrm 140))) (fun W145 => bd2 (f5_book W145 ((nrm ((nrm x5).tdiv (nrm 8))).tmod (nrm x2)) y11 ((nrm ((nrm x5).tdiv (nrm 128))).tmod (nrm 140))) (fun r147 W148 => bd (f5_transitTime W148 ((nrm ((nrm x5).tdiv (nrm 8))).tmod (nrm x2))) (fun r150 => (if nrm r147 = nrm (((nrm ((nrm x5).tdiv (nrm 128))).tmod (nrm 140)) + r150) then bd (f6_agrees W148) (fun r153 => (if nrm r153 = 0 then none else some W148)) else none))))))) else none)))))))) else bd (fL_act W2 ((nrm x5).tdiv (nrm 8))) (fun W156 => some W156))) else (if nrm 8 ≤ nrm (W2 148 10) then (if nrm ((nrm x5).tmod (nrm 8)) = nrm 4 then (if nrm (W2 148 5) ≤ 0 then (if nrm ((nrm x5).tmod (nrm 8)) = nrm 5 then bd (f5_minute W2) (fun r162 => (if nrm ((nrm ((nrm x5).tdiv (nrm 128))).tmod (nrm 140)) < nrm r162 then bd (fL_act W2 ((nrm x5).tdiv (nrm 8))) (fun W165 => some W165) else (if nrm 20 ≤ nrm (W2 148 5) then bd (fL_act W2 ((nrm x5).tdiv (nrm 8))) (fun W168 => some W168) else bd (f5_transitTime W2 ((nrm ((nrm x5).tdiv (nrm 8))).tmod (nrm x2))) (fun r170 => bd (f6_isFree W2 y11 ((nrm ((nrm x5).tdiv (nrm 128))).tmod (nrm 140)) (((nrm ((nrm x5).tdiv (nrm 128))).tmod (nrm 140)) + r170)) (fun r172 => bd (f5_conflictCount W2 ((nrm ((nrm x5).tdiv (nrm 8))).tmod (nrm x2)) y11 ((nrm ((nrm x5).tdiv (nrm 128))).tmod (nrm 140))) (fun r174 => bd ((if nrm r174 = 0 then some (1) else some (0))) (fun y176 => (if nrm r172 = nrm y176 then bd (f5_transitTime W2 ((nrm ((nrm x5).tdiv (nrm 8))).tmod (nrm x2))) (fun r181 => bd (f6_isFree W2 y11 ((nrm ((nrm x5).tdiv (nrm 128))).tmod (nrm 140)) (((nrm ((nrm x5).tdiv (nrm 128))).tmod (nrm 140)) + r181)) (fun r183 => (if nrm r183 = 0 then some W2 else bd (f6_add W2 ((nrm ((nrm x5).tdiv (nrm 8))).tmod (nrm x2)) y11 ((nrm ((nrm x5).tdiv (nrm 128))).tmod (nrm 140))) (fun W186 => bd2 (f5_book W186 ((nrm ((nrm x5).tdiv (nrm 8))).tmod (nrm x2)) y11 ((nrm ((nrm x5).tdiv (nrm 128))).tmod (nrm 140))) (fun r188 W189 => bd (f5_transitTime W189 ((nrm ((nrm x5).tdiv (nrm 8))).tmod (nrm x2))) (fun r191 => (if nrm r188 = nrm (((nrm ((nrm x5).tdiv (nrm 128))).tmod (nrm 140)) + r191) then bd (f6_agrees W189) (fun r194 => (if nrm r194 = 0 then none else some W189)) else none))))))) else none)))))))) else bd (fL_act W2 ((nrm x5).tdiv (nrm 8))) (fun W197 => some W197)) else ck (0 < nrm 1048576) (ck (0 < nrm (W2 148 5)) (bd (f5_startMinute W2 ((nrm ((nrm x5).tdiv (nrm 1048576))).tmod (nrm (W2 148 5)))) (fun r201 => bd (f5_minute W2) (fun r203 => (if nrm r201 ≤ nrm r203 then (if nrm ((nrm x5).tmod (nrm 8)) = nrm 5 then bd (f5_minute W2) (fun r207 => (if nrm ((nrm ((nrm x5).tdiv (nrm 128))).tmod (nrm 140)) < nrm r207 then bd (fL_act W2 ((nrm x5).tdiv (nrm 8))) (fun W210 => some W210) else (if nrm 20 ≤ nrm (W2 148 5) then bd (fL_act W2 ((nrm x5).tdiv (nrm 8))) (fun W213 => some W213) else bd (f5_transitTime W2 ((nrm ((nrm x5).tdiv (nrm 8))).tmod (nrm x2))) (fun r215 => bd (f6_isFree W2 y11 ((nrm ((nrm x5).tdiv (nrm 128))).tmod (nrm 140)) (((nrm ((nrm x5).tdiv (nrm 128))).tmod (nrm 140)) + r215)) (fun r217 => bd (f5_conflictCount W2 ((nrm ((nrm x5).tdiv (nrm 8))).tmod (nrm x2)) y11 ((nrm ((nrm x5).tdiv (nrm 128))).tmod (nrm 140))) (fun r219 => bd ((if nrm r219 = 0 then some (1) else some (0))) (fun y221 => (if nrm r217 = nrm y221 then bd (f5_transitTime W2 ((nrm ((nrm x5).tdiv (nrm 8))).tmod (nrm x2))) (fun r226 => bd (f6_isFree W2 y11 ((nrm ((nrm x5).tdiv (nrm 128))).tmod (nrm 140)) (((nrm ((nrm x5).tdiv (nrm 128))).tmod (nrm 140)) + r226)) (fun r228 => (if nrm r228 = 0 then some W2 else bd (f6_add W2 ((nrm ((nrm x5).tdiv (nrm 8))).tmod (nrm x2)) y11 ((nrm ((nrm x5).tdiv (nrm 128))).tmod (nrm 140))) (fun W231 => bd2 (f5_book W231 ((nrm ((nrm x5).tdiv (nrm 8))).tmod (nrm x2)) y11 ((nrm ((nrm x5).tdiv (nrm 128))).tmod (nrm 140))) (fun r233 W234 => bd (f5_transitTime W234 ((nrm ((nrm x5).tdiv (nrm 8))).tmod (nrm x2))) (fun r236 => (if nrm r233 = nrm (((nrm ((nrm x5).tdiv (nrm 128))).tmod (nrm 140)) + r236) then bd (f6_agrees W234) (fun r239 => (if nrm r239 = 0 then none else some W234)) else none))))))) else none)))))))) else bd (fL_act W2 ((nrm x5).tdiv (nrm 8))) (fun W242 => some W242)) else bd (f6_remove W2 ((nrm ((nrm x5).tdiv (nrm 1048576))).tmod (nrm (W2 148 5)))) (fun W244 => bd2 (f6_process W244) (fun r246 W247 => bd (f5_bookingCount W247) (fun r249 => ck (0 < nrm r249) (bd2 (f5_cancel W247 ((nrm ((nrm x5).tdiv (nrm 1048576))).tmod (nrm r249))) (fun r252 W253 => (if nrm r252 = nrm r246 then bd (f6_agrees W253) (fun r256 => (if nrm r256 = 0 then none else some W253)) else none)))))))))))) else (if nrm ((nrm x5).tmod (nrm 8)) = nrm 5 then bd (f5_minute W2) (fun r260 => (if nrm ((nrm ((nrm x5).tdiv (nrm 128))).tmod (nrm 140)) < nrm r260 then bd (fL_act W2 ((nrm x5).tdiv (nrm 8))) (fun W263 => some W263) else (if nrm 20 ≤ nrm (W2 148 5) then bd (fL_act W2 ((nrm x5).tdiv (nrm 8))) (fun W266 => some W266) else bd (f5_transitTime W2 ((nrm ((nrm x5).tdiv (nrm 8))).tmod (nrm x2))) (fun r268 => bd (f6_isFree W2 y11 ((nrm ((nrm x5).tdiv (nrm 128))).tmod (nrm 140)) (((nrm ((nrm x5).tdiv (nrm 128))).tmod (nrm 140)) + r268)) (fun r270 => bd (f5_conflictCount W2 ((nrm ((nrm x5).tdiv (nrm 8))).tmod (nrm x2)) y11 ((nrm ((nrm x5).tdiv (nrm 128))).tmod (nrm 140))) (fun r272 => bd ((if nrm r272 = 0 then some (1) else some (0))) (fun y274 => (if nrm r270 = nrm y274 then bd (f5_transitTime W2 ((nrm ((nrm x5).tdiv (nrm 8))).tmod (nrm x2))) (fun r279 => bd (f6_isFree W2 y11 ((nrm ((nrm x5).tdiv (nrm 128))).tmod (nrm 140)) (((nrm ((nrm x5).tdiv (nrm 128))).tmod (nrm 140)) + r279)) (fun r281 => (if nrm r281 = 0 then some W2 else bd (f6_add W2 ((nrm ((nrm x5).tdiv (nrm 8))).tmod (nrm x2)) y11 ((nrm ((nrm x5).tdiv (nrm 128))).tmod (nrm 140))) (fun W284 => bd2 (f5_book W284 ((nrm ((nrm x5).tdiv (nrm 8))).tmod (nrm x2)) y11 ((nrm ((nrm x5).tdiv (nrm 128))).tmod (nrm 140))) (fun r286 W287 => bd (f5_transitTime W287 ((nrm ((nrm x5).tdiv (nrm 8))).tmod (nrm x2))) (fun r289 => (if nrm r286 = nrm (((nrm ((nrm x5).tdiv (nrm 128))).tmod (nrm 140)) + r289) then bd (f6_agrees W287) (fun r292 => (if nrm r292 = 0 then none else some W287)) else none))))))) else none)))))))) else bd (fL_act W2 ((nrm x5).tdiv (nrm 8))) (fun W295 => some W295))) else bd (f6_find W2 ((nrm ((nrm x5).tdiv (nrm 8))).tmod (nrm x2)) y11 ((nrm ((nrm x5).tdiv (nrm 128))).tmod (nrm 140)) (((nrm ((nrm x5).tdiv (nrm 128))).tmod (nrm 140)) + ((nrm ((nrm x5).tdiv (nrm 32768))).tmod (nrm 30)))) (fun r297 => bd ((if nrm r297 < 0 then ck ((0:Int) ≤ (W2 148 10) ∧ (W2 148 10) < 8) (ck ((0:Int) ≤ ((up2 W2 153 (Int.toNat (W2 148 10)) ((nrm ((nrm x5).tdiv (nrm 8))).tmod (nrm x2))) 148 10) ∧ ((up2 W2 153 (Int.toNat (W2 148 10)) ((nrm ((nrm x5).tdiv (nrm 8))).tmod (nrm x2))) 148 10) < 8) (ck (y11 = 0 ∨ y11 = 1) (ck ((0:Int) ≤ ((up2 (up2 W2 153 (Int.toNat (W2 148 10)) ((nrm ((nrm x5).tdiv (nrm 8))).tmod (nrm x2))) 154 (Int.toNat ((up2 W2 153 (Int.toNat (W2 148 10)) ((nrm ((nrm x5).tdiv (nrm 8))).tmod (nrm x2))) 148 10)) y11) 148 10) ∧ ((up2 (up2 W2 153 (Int.toNat (W2 148 10)) ((nrm ((nrm x5).tdiv (nrm 8))).tmod (nrm x2))) 154 (Int.toNat ((up2 W2 153 (Int.toNat (W2 148 10)) ((nrm ((nrm x5).tdiv (nrm 8))).tmod (nrm x2))) 148 10)) y11) 148 10) < 8) (ck ((0:Int) ≤ ((up2 (up2 (up2 W2 153 (Int.toNat (W2 148 10)) ((nrm ((nrm x5).tdiv (nrm 8))).tmod (nrm x2))) 154 (Int.toNat ((up2 W2 153 (Int.toNat (W2 148 10)) ((nrm ((nrm x5).tdiv (nrm 8))).tmod (nrm x2))) 148 10)) y11) 155 (Int.toNat ((up2 (up2 W2 153 (Int.toNat (W2 148 10)) ((nrm ((nrm x5).tdiv (nrm 8))).tmod (nrm x2))) 154 (Int.toNat ((up2 W2 153 (Int.toNat (W2 148 10)) ((nrm ((nrm x5).tdiv (nrm 8))).tmod (nrm x2))) 148 10)) y11) 148 10)) ((nrm ((nrm x5).tdiv (nrm 128))).tmod (nrm 140))) 148 10) ∧ ((up2 (up2 (up2 W2 153 (Int.toNat (W2 148 10)) ((nrm ((nrm x5).tdiv (nrm 8))).tmod (nrm x2))) 154 (Int.toNat ((up2 W2 153 (Int.toNat (W2 148 10)) ((nrm ((nrm x5).tdiv (nrm 8))).tmod (nrm x2))) 148 10)) y11) 155 (Int.toNat ((up2 (up2 W2 153 (Int.toNat (W2 148 10)) ((nrm ((nrm x5).tdiv (nrm 8))).tmod (nrm x2))) 154 (Int.toNat ((up2 W2 153 (Int.toNat (W2 148 10)) ((nrm ((nrm x5).tdiv (nrm 8))).tmod (nrm x2))) 148 10)) y11) 148 10)) ((nrm ((nrm x5).tdiv (nrm 128))).tmod (nrm 140))) 148 10) < 8) (some (up2 (up2 (up2 (up2 (up2 W2 153 (Int.toNat (W2 148 10)) ((nrm ((nrm x5).tdiv (nrm 8))).tmod (nrm x2))) 154 (Int.toNat ((up2 W2 153 (Int.toNat (W2 148 10)) ((nrm ((nrm x5).tdiv (nrm 8))).tmod (nrm x2))) 148 10)) y11) 155 (Int.toNat ((up2 (up2 W2 153 (Int.toNat (W2 148 10)) ((nrm ((nrm x5).tdiv (nrm 8))).tmod (nrm x2))) 154 (Int.toNat ((up2 W2 153 (Int.toNat (W2 148 10)) ((nrm ((nrm x5).tdiv (nrm 8))).tmod (nrm x2))) 148 10)) y11) 148 10)) ((nrm ((nrm x5).tdiv (nrm 128))).tmod (nrm 140))) 156 (Int.toNat ((up2 (up2 (up2 W2 153 (Int.toNat (W2 148 10)) ((nrm ((nrm x5).tdiv (nrm 8))).tmod (nrm x2))) 154 (Int.toNat ((up2 W2 153 (Int.toNat (W2 148 10)) ((nrm ((nrm x5).tdiv (nrm 8))).tmod (nrm x2))) 148 10)) y11) 155 (Int.toNat ((up2 (up2 W2 153 (Int.toNat (W2 148 10)) ((nrm ((nrm x5).tdiv (nrm 8))).tmod (nrm x2))) 154 (Int.toNat ((up2 W2 153 (Int.toNat (W2 148 10)) ((nrm ((nrm x5).tdiv (nrm 8))).tmod (nrm x2))) 148 10)) y11) 148 10)) ((nrm ((nrm x5).tdiv (nrm 128))).tmod (nrm 140))) 148 10)) (((nrm ((nrm x5).tdiv (nrm 128))).tmod (nrm 140)) + ((nrm ((nrm x5).tdiv (nrm 32768))).tmod (nrm 30)))) 148 10 (((up2 (up2 (up2 (up2 W2 153 (Int.toNat (W2 148 10)) ((nrm ((nrm x5).tdiv (nrm 8))).tmod (nrm x2))) 154 (Int.toNat ((up2 W2 153 (Int.toNat (W2 148 10)) ((nrm ((nrm x5).tdiv (nrm 8))).tmod (nrm x2))) 148 10)) y11) 155 (Int.toNat ((up2 (up2 W2 153 (Int.toNat (W2 148 10)) ((nrm ((nrm x5).tdiv (nrm 8))).tmod (nrm x2))) 154 (Int.toNat ((up2 W2 153 (Int.toNat (W2 148 10)) ((nrm ((nrm x5).tdiv (nrm 8))).tmod (nrm x2))) 148 10)) y11) 148 10)) ((nrm ((nrm x5).tdiv (nrm 128))).tmod (nrm 140))) 156 (Int.toNat ((up2 (up2 (up2 W2 153 (Int.toNat (W2 148 10)) ((nrm ((nrm x5).tdiv (nrm 8))).tmod (nrm x2))) 154 (Int.toNat ((up2 W2 153 (Int.toNat (W2 148 10)) ((nrm ((nrm x5).tdiv (nrm 8))).tmod (nrm x2))) 148 10)) y11) 155 (Int.toNat ((up2 (up2 W2 153 (Int.toNat (W2 148 10)) ((nrm ((nrm x5).tdiv (nrm 8))).tmod (nrm x2))) 154 (Int.toNat ((up2 W2 153 (Int.toNat (W2 148 10)) ((nrm ((nrm x5).tdiv (nrm 8))).tmod (nrm x2))) 148 10)) y11) 148 10)) ((nrm ((nrm x5).tdiv (nrm 128))).tmod (nrm 140))) 148 10)) (((nrm ((nrm x5).tdiv (nrm 128))).tmod (nrm 140)) + ((nrm ((nrm x5).tdiv (nrm 32768))).tmod (nrm 30)))) 148 10) + 1))))))) else bd (f6_add W2 ((nrm ((nrm x5).tdiv (nrm 8))).tmod (nrm x2)) y11 r297) (fun W305 => some (W305)))) (fun W306 => bd2 (f5_request W306 ((nrm ((nrm x5).tdiv (nrm 8))).tmod (nrm x2)) y11 ((nrm ((nrm x5).tdiv (nrm 128))).tmod (nrm 140)) (((nrm ((nrm x5).tdiv (nrm 128))).tmod (nrm 140)) + ((nrm ((nrm x5).tdiv (nrm 32768))).tmod (nrm 30)))) (fun r310 W311 => (if nrm r310 = nrm r297 then bd (f6_agrees W311) (fun r314 => (if nrm r314 = 0 then none else some W311)) else none))))))))))))))))))
theorem lw_body {G : GT} {X : CT} {cells slots : Nat} {V V1 : VV} {x2 x4 x5 : Int} (hN : 157 ≤ gN G) (hx : xN X = 11) (C : Cx G X "ChannelScheduleLaw" code) (hR : xR X = room_1) (hc : cells ≤ 600086) (hs : slots ≤ 7301442) (h : fL_body V x2 x5 = some V1) (K : At G X cells slots 52 [(0, .ref (gSa G)), (1, .ref (gB G + 0)), (2, vI x2), (3, .ref (gC G + 148)), (4, vI (x4 + 1))] [] V1) : At G X cells slots 72 [(0, .ref (gSa G)), (1, .ref (gB G + 0)), (2, vI x2), (3, .ref (gC G + 148)), (4, vI x4), (5, vI x5)] [] V := by
  unfold fL_body at h
  refine r_aload_n C dL_law_72 rfl ?_
  obtain ⟨W2, h1, h⟩ := bd_of h
  refine qV0_v C hR dL_law_73 lL_124 w6_read (rc_own hN) (ev6_read C.lt hN h1) rfl hc hs ?_
  refine r_aload_n C dL_law_76 rfl ?_
  obtain ⟨r4, h3, h⟩ := bd_of h
  refine qV0_i C hR dL_law_77 lL_127 w6_agrees (rc_own hN) (ev6_agrees C.lt hN h3) rfl hc hs ?_
  refine x_ifne (tgt := 85) C dL_law_80 rfl (fun c5 => ?_) (fun c5 => ?_)
  · replace h := ite_p c5 h
    refine r_iconst C dL_law_83 ?_
    exact nomatch h
  · replace h := ite_m c5 h
    refine r_iload C dL_law_85 rfl ?_
    refine r_bipush C dL_law_87 (by decide +kernel) ?_
    obtain ⟨c6, h⟩ := ck_of h
    refine x_idiv C dL_law_89 c6 ?_
    refine r_iload_n C dL_law_90 rfl ?_
    obtain ⟨c7, h⟩ := ck_of h
    refine x_irem C dL_law_91 c7 ?_
    refine x_istore hx C dL_law_92 rfl ?_
    refine r_iload C dL_law_94 rfl ?_
    refine r_bipush C dL_law_96 (by decide +kernel) ?_
    obtain ⟨c8, h⟩ := ck_of h
    refine x_idiv C dL_law_98 c8 ?_
    refine r_iconst C dL_law_99 ?_
    obtain ⟨c9, h⟩ := ck_of h
    refine x_irem C dL_law_100 c9 ?_
    obtain ⟨y11, h12, h⟩ := bd_of h
    suffices J13 : At G X cells slots 109 [(0, .ref (gSa G)), (1, .ref (gB G + 0)), (2, vI x2), (3, .ref (gC G + 148)), (4, vI x4), (5, vI x5), (6, vI ((nrm ((nrm x5).tdiv (nrm 8))).tmod (nrm x2)))] [vI y11] W2 by
      replace h := h12
      refine x_ifne (tgt := 108) C dL_law_101 rfl (fun c10 => ?_) (fun c10 => ?_)
      · replace h := ite_p c10 h
        refine r_iconst C dL_law_104 ?_
        refine r_goto (tgt := 109) C dL_law_105 rfl ?_
        cases h
        exact AtH.sw J13 ⟨rfl, rfl, rfl, rfl, rfl, rfl, rfl, trivial⟩
      · replace h := ite_m c10 h
        refine r_iconst C dL_law_108 ?_
        cases h
        exact AtH.sw J13 ⟨rfl, rfl, rfl, rfl, rfl, rfl, rfl, trivial⟩
    refine x_istore hx C dL_law_109 rfl ?_
    refine r_iload C dL_law_111 rfl ?_
    refine r_sipush C dL_law_113 (by decide +kernel) ?_
    obtain ⟨c14, h⟩ := ck_of h
    refine x_idiv C dL_law_116 c14 ?_
    refine r_sipush C dL_law_117 (by decide +kernel) ?_
    obtain ⟨c15, h⟩ := ck_of h
    refine x_irem C dL_law_120 c15 ?_
    refine x_istore hx C dL_law_121 rfl ?_
    refine r_iload C dL_law_123 rfl ?_
    refine r_iload C dL_law_125 rfl ?_
    refine r_ldci (z := 32768) C dL_law_127 kkL_131 (by decide +kernel) ?_
    obtain ⟨c16, h⟩ := ck_of h
    refine x_idiv C dL_law_129 c16 ?_
    refine r_bipush C dL_law_130 (by decide +kernel) ?_
    obtain ⟨c17, h⟩ := ck_of h
    refine x_irem C dL_law_132 c17 ?_
    refine r_iadd C dL_law_133 ?_
    refine x_istore hx C dL_law_134 rfl ?_
    refine r_iload C dL_law_136 rfl ?_
    refine r_bipush C dL_law_138 (by decide +kernel) ?_
    refine x_irem C dL_law_140 c6 ?_
    refine r_iconst C dL_law_141 ?_
    refine x_icmpge (tgt := 269) C dL_law_142 rfl (fun c18 => ?_) (fun c18 => ?_)
    · replace h := ite_p c18 h
      refine r_iload C dL_law_269 rfl ?_
      refine r_bipush C dL_law_271 (by decide +kernel) ?_
      refine x_irem C dL_law_273 c6 ?_
      refine r_iconst C dL_law_274 ?_
      refine x_icmpne (tgt := 357) C dL_law_275 rfl (fun c19 => ?_) (fun c19 => ?_)
      · replace h := ite_p c19 h
        refine r_aload_n C dL_law_278 rfl ?_
        refine g_own_5 C dL_law_279 fL_157 hN ?_
        refine x_ifle (tgt := 357) C dL_law_282 rfl (fun c20 => ?_) (fun c20 => ?_)
        · replace h := ite_p c20 h
          refine r_iload C dL_law_357 rfl ?_
          refine r_bipush C dL_law_359 (by decide +kernel) ?_
          refine x_irem C dL_law_361 c6 ?_
          refine r_iconst C dL_law_362 ?_
          refine x_icmpne (tgt := 485) C dL_law_363 rfl (fun c21 => ?_) (fun c21 => ?_)
          · replace h := ite_p c21 h
            refine r_iload C dL_law_366 rfl ?_
            refine r_aload_n C dL_law_368 rfl ?_
            obtain ⟨r23, h22, h⟩ := bd_of h
            refine qV0_i C hR dL_law_369 lL_70 w5_minute (rc_main (hN8 hN)) (ev5_minute C.lt (hN8 hN) h22) rfl hc hs ?_
            refine x_icmplt (tgt := 485) C dL_law_372 rfl (fun c24 => ?_) (fun c24 => ?_)
            · replace h := ite_p c24 h
              refine r_aload_n C dL_law_485 rfl ?_
              refine r_iload C dL_law_486 rfl ?_
              refine r_bipush C dL_law_488 (by decide +kernel) ?_
              refine x_idiv C dL_law_490 c6 ?_
              obtain ⟨W26, h25, h⟩ := bd_of h
              refine qS2_v C hR dL_law_491 lL_175 wL_act (evL_act C.lt (hN8 hN) h25) rfl hc hs ?_
              refine x_iinc hx C dL_law_494 rfl rfl ?_
              refine r_goto (tgt := 52) C dL_law_497 rfl ?_
              cases h
              exact AtH.sw K ⟨rfl, rfl, rfl, rfl, rfl, trivial⟩
            · replace h := ite_m c24 h
              refine r_aload_n C dL_law_375 rfl ?_
              refine g_own_5 C dL_law_376 fL_157 hN ?_
              refine r_bipush C dL_law_379 (by decide +kernel) ?_
              refine x_icmpge (tgt := 485) C dL_law_381 rfl (fun c27 => ?_) (fun c27 => ?_)
              · replace h := ite_p c27 h
                refine r_aload_n C dL_law_485 rfl ?_
                refine r_iload C dL_law_486 rfl ?_
                refine r_bipush C dL_law_488 (by decide +kernel) ?_
                refine x_idiv C dL_law_490 c6 ?_
                obtain ⟨W29, h28, h⟩ := bd_of h
                refine qS2_v C hR dL_law_491 lL_175 wL_act (evL_act C.lt (hN8 hN) h28) rfl hc hs ?_
                refine x_iinc hx C dL_law_494 rfl rfl ?_
                refine r_goto (tgt := 52) C dL_law_497 rfl ?_
                cases h
                exact AtH.sw K ⟨rfl, rfl, rfl, rfl, rfl, trivial⟩
              · replace h := ite_m c27 h
                refine r_aload_n C dL_law_384 rfl ?_
                refine r_iload C dL_law_385 rfl ?_
                refine r_iload C dL_law_387 rfl ?_
                refine r_iload C dL_law_389 rfl ?_
                refine r_aload_n C dL_law_391 rfl ?_
                refine r_iload C dL_law_392 rfl ?_
                obtain ⟨r31, h30, h⟩ := bd_of h
                refine qV1_i C hR dL_law_394 lL_168 w5_transitTime (rc_main (hN8 hN)) (ev5_transitTime C.lt (hN8 hN) h30) rfl hc hs ?_
                refine r_iadd C dL_law_397 ?_
                obtain ⟨r33, h32, h⟩ := bd_of h
                refine qV3_i C hR dL_law_398 lL_171 w6_isFree (rc_own hN) (ev6_isFree C.lt hN h32) rfl hc hs ?_
                refine r_aload_n C dL_law_401 rfl ?_
                refine r_iload C dL_law_402 rfl ?_
                refine r_iload C dL_law_404 rfl ?_
                refine r_iload C dL_law_406 rfl ?_
                obtain ⟨r35, h34, h⟩ := bd_of h
                refine qV3_i C hR dL_law_408 lL_76 w5_conflictCount (rc_main (hN8 hN)) (ev5_conflictCount C.lt (hN8 hN) h34) rfl hc hs ?_
                obtain ⟨y37, h38, h⟩ := bd_of h
                suffices J39 : At G X cells slots 419 [(0, .ref (gSa G)), (1, .ref (gB G + 0)), (2, vI x2), (3, .ref (gC G + 148)), (4, vI x4), (6, vI ((nrm ((nrm x5).tdiv (nrm 8))).tmod (nrm x2))), (7, vI y11), (8, vI ((nrm ((nrm x5).tdiv (nrm 128))).tmod (nrm 140)))] [vI y37, vI r33] W2 by
                  replace h := h38
                  refine x_ifne (tgt := 418) C dL_law_411 rfl (fun c36 => ?_) (fun c36 => ?_)
                  · replace h := ite_p c36 h
                    refine r_iconst C dL_law_414 ?_
                    refine r_goto (tgt := 419) C dL_law_415 rfl ?_
                    cases h
                    exact AtH.sw J39 ⟨rfl, rfl, rfl, rfl, rfl, rfl, rfl, rfl, trivial⟩
                  · replace h := ite_m c36 h
                    refine r_iconst C dL_law_418 ?_
                    cases h
                    exact AtH.sw J39 ⟨rfl, rfl, rfl, rfl, rfl, rfl, rfl, rfl, trivial⟩
                refine x_icmpeq (tgt := 424) C dL_law_419 rfl (fun c40 => ?_) (fun c40 => ?_)
                · replace h := ite_p c40 h
                  refine r_aload_n C dL_law_424 rfl ?_
                  refine r_iload C dL_law_425 rfl ?_
                  refine r_iload C dL_law_427 rfl ?_
                  refine r_iload C dL_law_429 rfl ?_
                  refine r_aload_n C dL_law_431 rfl ?_
                  refine r_iload C dL_law_432 rfl ?_
                  obtain ⟨r42, h41, h⟩ := bd_of h
                  refine qV1_i C hR dL_law_434 lL_168 w5_transitTime (rc_main (hN8 hN)) (ev5_transitTime C.lt (hN8 hN) h41) rfl hc hs ?_
                  refine r_iadd C dL_law_437 ?_
                  obtain ⟨r44, h43, h⟩ := bd_of h
                  refine qV3_i C hR dL_law_438 lL_171 w6_isFree (rc_own hN) (ev6_isFree C.lt hN h43) rfl hc hs ?_
                  refine x_ifeq (tgt := 494) C dL_law_441 rfl (fun c45 => ?_) (fun c45 => ?_)
                  · replace h := ite_p c45 h
                    refine x_iinc hx C dL_law_494 rfl rfl ?_
                    refine r_goto (tgt := 52) C dL_law_497 rfl ?_
                    cases h
                    exact AtH.sw K ⟨rfl, rfl, rfl, rfl, rfl, trivial⟩
                  · replace h := ite_m c45 h
                    refine r_aload_n C dL_law_444 rfl ?_
                    refine r_iload C dL_law_445 rfl ?_
                    refine r_iload C dL_law_447 rfl ?_
                    refine r_iload C dL_law_449 rfl ?_
                    obtain ⟨W47, h46, h⟩ := bd_of h
                    refine qV3_v C hR dL_law_451 lL_139 w6_add (rc_own hN) (ev6_add C.lt hN h46) rfl hc hs ?_
                    refine r_aload_n C dL_law_454 rfl ?_
                    refine r_iload C dL_law_455 rfl ?_
                    refine r_iload C dL_law_457 rfl ?_
                    refine r_iload C dL_law_459 rfl ?_
                    obtain ⟨r49, W50, h48, h⟩ := bd2_of h
                    refine qV3_i C hR dL_law_461 lL_80 w5_book (rc_main (hN8 hN)) (ev5_book C.lt (hN8 hN) h48) rfl hc hs ?_
                    refine r_iload C dL_law_464 rfl ?_
                    refine r_aload_n C dL_law_466 rfl ?_
                    refine r_iload C dL_law_467 rfl ?_
                    obtain ⟨r52, h51, h⟩ := bd_of h
                    refine qV1_i C hR dL_law_469 lL_168 w5_transitTime (rc_main (hN8 hN)) (ev5_transitTime C.lt (hN8 hN) h51) rfl hc hs ?_
                    refine r_iadd C dL_law_472 ?_
                    refine x_icmpne (tgt := 483) C dL_law_473 rfl (fun c53 => ?_) (fun c53 => ?_)
                    · replace h := ite_p c53 h
                      refine r_aload_n C dL_law_476 rfl ?_
                      obtain ⟨r55, h54, h⟩ := bd_of h
                      refine qV0_i C hR dL_law_477 lL_127 w6_agrees (rc_own hN) (ev6_agrees C.lt hN h54) rfl hc hs ?_
                      refine x_ifne (tgt := 494) C dL_law_480 rfl (fun c56 => ?_) (fun c56 => ?_)
                      · replace h := ite_p c56 h
                        refine r_iconst C dL_law_483 ?_
                        exact nomatch h
                      · replace h := ite_m c56 h
                        refine x_iinc hx C dL_law_494 rfl rfl ?_
                        refine r_goto (tgt := 52) C dL_law_497 rfl ?_
                        cases h
                        exact AtH.sw K ⟨rfl, rfl, rfl, rfl, rfl, trivial⟩
                    · replace h := ite_m c53 h
                      refine r_iconst C dL_law_483 ?_
                      exact nomatch h
                · replace h := ite_m c40 h
                  refine r_iconst C dL_law_422 ?_
                  exact nomatch h
          · replace h := ite_m c21 h
            refine r_aload_n C dL_law_485 rfl ?_
            refine r_iload C dL_law_486 rfl ?_
            refine r_bipush C dL_law_488 (by decide +kernel) ?_
            refine x_idiv C dL_law_490 c6 ?_
            obtain ⟨W58, h57, h⟩ := bd_of h
            refine qS2_v C hR dL_law_491 lL_175 wL_act (evL_act C.lt (hN8 hN) h57) rfl hc hs ?_
            refine x_iinc hx C dL_law_494 rfl rfl ?_
            refine r_goto (tgt := 52) C dL_law_497 rfl ?_
            cases h
            exact AtH.sw K ⟨rfl, rfl, rfl, rfl, rfl, trivial⟩
        · replace h := ite_m c20 h
          refine r_aload_n C dL_law_285 rfl ?_
          refine r_iload C dL_law_286 rfl ?_
          refine r_ldci (z := 1048576) C dL_law_288 kkL_160 (by decide +kernel) ?_
          obtain ⟨c59, h⟩ := ck_of h
          refine x_idiv C dL_law_290 c59 ?_
          refine r_aload_n C dL_law_291 rfl ?_
          refine g_own_5 C dL_law_292 fL_157 hN ?_
          obtain ⟨c60, h⟩ := ck_of h
          refine x_irem C dL_law_295 c60 ?_
          obtain ⟨r62, h61, h⟩ := bd_of h
          refine qV1_i C hR dL_law_296 lL_84 w5_startMinute (rc_main (hN8 hN)) (ev5_startMinute C.lt (hN8 hN) h61) rfl hc hs ?_
          refine r_aload_n C dL_law_299 rfl ?_
          obtain ⟨r64, h63, h⟩ := bd_of h
          refine qV0_i C hR dL_law_300 lL_70 w5_minute (rc_main (hN8 hN)) (ev5_minute C.lt (hN8 hN) h63) rfl hc hs ?_
          refine x_icmple (tgt := 357) C dL_law_303 rfl (fun c65 => ?_) (fun c65 => ?_)
          · replace h := ite_p c65 h
            refine r_iload C dL_law_357 rfl ?_
            refine r_bipush C dL_law_359 (by decide +kernel) ?_
            refine x_irem C dL_law_361 c6 ?_
            refine r_iconst C dL_law_362 ?_
            refine x_icmpne (tgt := 485) C dL_law_363 rfl (fun c66 => ?_) (fun c66 => ?_)
            · replace h := ite_p c66 h
              refine r_iload C dL_law_366 rfl ?_
              refine r_aload_n C dL_law_368 rfl ?_
              obtain ⟨r68, h67, h⟩ := bd_of h
              refine qV0_i C hR dL_law_369 lL_70 w5_minute (rc_main (hN8 hN)) (ev5_minute C.lt (hN8 hN) h67) rfl hc hs ?_
              refine x_icmplt (tgt := 485) C dL_law_372 rfl (fun c69 => ?_) (fun c69 => ?_)
              · replace h := ite_p c69 h
                refine r_aload_n C dL_law_485 rfl ?_
                refine r_iload C dL_law_486 rfl ?_
                refine r_bipush C dL_law_488 (by decide +kernel) ?_
                refine x_idiv C dL_law_490 c6 ?_
                obtain ⟨W71, h70, h⟩ := bd_of h
                refine qS2_v C hR dL_law_491 lL_175 wL_act (evL_act C.lt (hN8 hN) h70) rfl hc hs ?_
                refine x_iinc hx C dL_law_494 rfl rfl ?_
                refine r_goto (tgt := 52) C dL_law_497 rfl ?_
                cases h
                exact AtH.sw K ⟨rfl, rfl, rfl, rfl, rfl, trivial⟩
              · replace h := ite_m c69 h
                refine r_aload_n C dL_law_375 rfl ?_
                refine g_own_5 C dL_law_376 fL_157 hN ?_
                refine r_bipush C dL_law_379 (by decide +kernel) ?_
                refine x_icmpge (tgt := 485) C dL_law_381 rfl (fun c72 => ?_) (fun c72 => ?_)
                · replace h := ite_p c72 h
                  refine r_aload_n C dL_law_485 rfl ?_
                  refine r_iload C dL_law_486 rfl ?_
                  refine r_bipush C dL_law_488 (by decide +kernel) ?_
                  refine x_idiv C dL_law_490 c6 ?_
                  obtain ⟨W74, h73, h⟩ := bd_of h
                  refine qS2_v C hR dL_law_491 lL_175 wL_act (evL_act C.lt (hN8 hN) h73) rfl hc hs ?_
                  refine x_iinc hx C dL_law_494 rfl rfl ?_
                  refine r_goto (tgt := 52) C dL_law_497 rfl ?_
                  cases h
                  exact AtH.sw K ⟨rfl, rfl, rfl, rfl, rfl, trivial⟩
                · replace h := ite_m c72 h
                  refine r_aload_n C dL_law_384 rfl ?_
                  refine r_iload C dL_law_385 rfl ?_
                  refine r_iload C dL_law_387 rfl ?_
                  refine r_iload C dL_law_389 rfl ?_
                  refine r_aload_n C dL_law_391 rfl ?_
                  refine r_iload C dL_law_392 rfl ?_
                  obtain ⟨r76, h75, h⟩ := bd_of h
                  refine qV1_i C hR dL_law_394 lL_168 w5_transitTime (rc_main (hN8 hN)) (ev5_transitTime C.lt (hN8 hN) h75) rfl hc hs ?_
                  refine r_iadd C dL_law_397 ?_
                  obtain ⟨r78, h77, h⟩ := bd_of h
                  refine qV3_i C hR dL_law_398 lL_171 w6_isFree (rc_own hN) (ev6_isFree C.lt hN h77) rfl hc hs ?_
                  refine r_aload_n C dL_law_401 rfl ?_
                  refine r_iload C dL_law_402 rfl ?_
                  refine r_iload C dL_law_404 rfl ?_
                  refine r_iload C dL_law_406 rfl ?_
                  obtain ⟨r80, h79, h⟩ := bd_of h
                  refine qV3_i C hR dL_law_408 lL_76 w5_conflictCount (rc_main (hN8 hN)) (ev5_conflictCount C.lt (hN8 hN) h79) rfl hc hs ?_
                  obtain ⟨y82, h83, h⟩ := bd_of h
                  suffices J84 : At G X cells slots 419 [(0, .ref (gSa G)), (1, .ref (gB G + 0)), (2, vI x2), (3, .ref (gC G + 148)), (4, vI x4), (6, vI ((nrm ((nrm x5).tdiv (nrm 8))).tmod (nrm x2))), (7, vI y11), (8, vI ((nrm ((nrm x5).tdiv (nrm 128))).tmod (nrm 140)))] [vI y82, vI r78] W2 by
                    replace h := h83
                    refine x_ifne (tgt := 418) C dL_law_411 rfl (fun c81 => ?_) (fun c81 => ?_)
                    · replace h := ite_p c81 h
                      refine r_iconst C dL_law_414 ?_
                      refine r_goto (tgt := 419) C dL_law_415 rfl ?_
                      cases h
                      exact AtH.sw J84 ⟨rfl, rfl, rfl, rfl, rfl, rfl, rfl, rfl, trivial⟩
                    · replace h := ite_m c81 h
                      refine r_iconst C dL_law_418 ?_
                      cases h
                      exact AtH.sw J84 ⟨rfl, rfl, rfl, rfl, rfl, rfl, rfl, rfl, trivial⟩
                  refine x_icmpeq (tgt := 424) C dL_law_419 rfl (fun c85 => ?_) (fun c85 => ?_)
                  · replace h := ite_p c85 h
                    refine r_aload_n C dL_law_424 rfl ?_
                    refine r_iload C dL_law_425 rfl ?_
                    refine r_iload C dL_law_427 rfl ?_
                    refine r_iload C dL_law_429 rfl ?_
                    refine r_aload_n C dL_law_431 rfl ?_
                    refine r_iload C dL_law_432 rfl ?_
                    obtain ⟨r87, h86, h⟩ := bd_of h
                    refine qV1_i C hR dL_law_434 lL_168 w5_transitTime (rc_main (hN8 hN)) (ev5_transitTime C.lt (hN8 hN) h86) rfl hc hs ?_
                    refine r_iadd C dL_law_437 ?_
                    obtain ⟨r89, h88, h⟩ := bd_of h
                    refine qV3_i C hR dL_law_438 lL_171 w6_isFree (rc_own hN) (ev6_isFree C.lt hN h88) rfl hc hs ?_
                    refine x_ifeq (tgt := 494) C dL_law_441 rfl (fun c90 => ?_) (fun c90 => ?_)
                    · replace h := ite_p c90 h
                      refine x_iinc hx C dL_law_494 rfl rfl ?_
                      refine r_goto (tgt := 52) C dL_law_497 rfl ?_
                      cases h
                      exact AtH.sw K ⟨rfl, rfl, rfl, rfl, rfl, trivial⟩
                    · replace h := ite_m c90 h
                      refine r_aload_n C dL_law_444 rfl ?_
                      refine r_iload C dL_law_445 rfl ?_
                      refine r_iload C dL_law_447 rfl ?_
                      refine r_iload C dL_law_449 rfl ?_
                      obtain ⟨W92, h91, h⟩ := bd_of h
                      refine qV3_v C hR dL_law_451 lL_139 w6_add (rc_own hN) (ev6_add C.lt hN h91) rfl hc hs ?_
                      refine r_aload_n C dL_law_454 rfl ?_
                      refine r_iload C dL_law_455 rfl ?_
                      refine r_iload C dL_law_457 rfl ?_
                      refine r_iload C dL_law_459 rfl ?_
                      obtain ⟨r94, W95, h93, h⟩ := bd2_of h
                      refine qV3_i C hR dL_law_461 lL_80 w5_book (rc_main (hN8 hN)) (ev5_book C.lt (hN8 hN) h93) rfl hc hs ?_
                      refine r_iload C dL_law_464 rfl ?_
                      refine r_aload_n C dL_law_466 rfl ?_
                      refine r_iload C dL_law_467 rfl ?_
                      obtain ⟨r97, h96, h⟩ := bd_of h
                      refine qV1_i C hR dL_law_469 lL_168 w5_transitTime (rc_main (hN8 hN)) (ev5_transitTime C.lt (hN8 hN) h96) rfl hc hs ?_
                      refine r_iadd C dL_law_472 ?_
                      refine x_icmpne (tgt := 483) C dL_law_473 rfl (fun c98 => ?_) (fun c98 => ?_)
                      · replace h := ite_p c98 h
                        refine r_aload_n C dL_law_476 rfl ?_
                        obtain ⟨r100, h99, h⟩ := bd_of h
                        refine qV0_i C hR dL_law_477 lL_127 w6_agrees (rc_own hN) (ev6_agrees C.lt hN h99) rfl hc hs ?_
                        refine x_ifne (tgt := 494) C dL_law_480 rfl (fun c101 => ?_) (fun c101 => ?_)
                        · replace h := ite_p c101 h
                          refine r_iconst C dL_law_483 ?_
                          exact nomatch h
                        · replace h := ite_m c101 h
                          refine x_iinc hx C dL_law_494 rfl rfl ?_
                          refine r_goto (tgt := 52) C dL_law_497 rfl ?_
                          cases h
                          exact AtH.sw K ⟨rfl, rfl, rfl, rfl, rfl, trivial⟩
                      · replace h := ite_m c98 h
                        refine r_iconst C dL_law_483 ?_
                        exact nomatch h
                  · replace h := ite_m c85 h
                    refine r_iconst C dL_law_422 ?_
                    exact nomatch h
            · replace h := ite_m c66 h
              refine r_aload_n C dL_law_485 rfl ?_
              refine r_iload C dL_law_486 rfl ?_
              refine r_bipush C dL_law_488 (by decide +kernel) ?_
              refine x_idiv C dL_law_490 c6 ?_
              obtain ⟨W103, h102, h⟩ := bd_of h
              refine qS2_v C hR dL_law_491 lL_175 wL_act (evL_act C.lt (hN8 hN) h102) rfl hc hs ?_
              refine x_iinc hx C dL_law_494 rfl rfl ?_
              refine r_goto (tgt := 52) C dL_law_497 rfl ?_
              cases h
              exact AtH.sw K ⟨rfl, rfl, rfl, rfl, rfl, trivial⟩
          · replace h := ite_m c65 h
            refine r_aload_n C dL_law_306 rfl ?_
            refine r_iload C dL_law_307 rfl ?_
            refine r_ldci (z := 1048576) C dL_law_309 kkL_160 (by decide +kernel) ?_
            refine x_idiv C dL_law_311 c59 ?_
            refine r_aload_n C dL_law_312 rfl ?_
            refine g_own_5 C dL_law_313 fL_157 hN ?_
            refine x_irem C dL_law_316 c60 ?_
            obtain ⟨W105, h104, h⟩ := bd_of h
            refine qV1_v C hR dL_law_317 lL_161 w6_remove (rc_own hN) (ev6_remove C.lt hN h104) rfl hc hs ?_
            refine r_aload_n C dL_law_320 rfl ?_
            obtain ⟨r107, W108, h106, h⟩ := bd2_of h
            refine qV0_i C hR dL_law_321 lL_165 w6_process (rc_own hN) (ev6_process C.lt hN h106) rfl hc hs ?_
            refine x_istore hx C dL_law_324 rfl ?_
            refine r_aload_n C dL_law_326 rfl ?_
            refine r_iload C dL_law_327 rfl ?_
            refine r_ldci (z := 1048576) C dL_law_329 kkL_160 (by decide +kernel) ?_
            refine x_idiv C dL_law_331 c59 ?_
            refine r_aload_n C dL_law_332 rfl ?_
            obtain ⟨r110, h109, h⟩ := bd_of h
            refine qV0_i C hR dL_law_333 lL_73 w5_bookingCount (rc_main (hN8 hN)) (ev5_bookingCount C.lt (hN8 hN) h109) rfl hc hs ?_
            obtain ⟨c111, h⟩ := ck_of h
            refine x_irem C dL_law_336 c111 ?_
            obtain ⟨r113, W114, h112, h⟩ := bd2_of h
            refine qV1_i C hR dL_law_337 lL_87 w5_cancel (rc_main (hN8 hN)) (ev5_cancel C.lt (hN8 hN) h112) rfl hc hs ?_
            refine r_iload C dL_law_340 rfl ?_
            refine x_icmpne (tgt := 352) C dL_law_342 rfl (fun c115 => ?_) (fun c115 => ?_)
            · replace h := ite_p c115 h
              refine r_aload_n C dL_law_345 rfl ?_
              obtain ⟨r117, h116, h⟩ := bd_of h
              refine qV0_i C hR dL_law_346 lL_127 w6_agrees (rc_own hN) (ev6_agrees C.lt hN h116) rfl hc hs ?_
              refine x_ifne (tgt := 354) C dL_law_349 rfl (fun c118 => ?_) (fun c118 => ?_)
              · replace h := ite_p c118 h
                refine r_iconst C dL_law_352 ?_
                exact nomatch h
              · replace h := ite_m c118 h
                refine r_goto (tgt := 494) C dL_law_354 rfl ?_
                refine x_iinc hx C dL_law_494 rfl rfl ?_
                refine r_goto (tgt := 52) C dL_law_497 rfl ?_
                cases h
                exact AtH.sw K ⟨rfl, rfl, rfl, rfl, rfl, trivial⟩
            · replace h := ite_m c115 h
              refine r_iconst C dL_law_352 ?_
              exact nomatch h
      · replace h := ite_m c19 h
        refine r_iload C dL_law_357 rfl ?_
        refine r_bipush C dL_law_359 (by decide +kernel) ?_
        refine x_irem C dL_law_361 c6 ?_
        refine r_iconst C dL_law_362 ?_
        refine x_icmpne (tgt := 485) C dL_law_363 rfl (fun c119 => ?_) (fun c119 => ?_)
        · replace h := ite_p c119 h
          refine r_iload C dL_law_366 rfl ?_
          refine r_aload_n C dL_law_368 rfl ?_
          obtain ⟨r121, h120, h⟩ := bd_of h
          refine qV0_i C hR dL_law_369 lL_70 w5_minute (rc_main (hN8 hN)) (ev5_minute C.lt (hN8 hN) h120) rfl hc hs ?_
          refine x_icmplt (tgt := 485) C dL_law_372 rfl (fun c122 => ?_) (fun c122 => ?_)
          · replace h := ite_p c122 h
            refine r_aload_n C dL_law_485 rfl ?_
            refine r_iload C dL_law_486 rfl ?_
            refine r_bipush C dL_law_488 (by decide +kernel) ?_
            refine x_idiv C dL_law_490 c6 ?_
            obtain ⟨W124, h123, h⟩ := bd_of h
            refine qS2_v C hR dL_law_491 lL_175 wL_act (evL_act C.lt (hN8 hN) h123) rfl hc hs ?_
            refine x_iinc hx C dL_law_494 rfl rfl ?_
            refine r_goto (tgt := 52) C dL_law_497 rfl ?_
            cases h
            exact AtH.sw K ⟨rfl, rfl, rfl, rfl, rfl, trivial⟩
          · replace h := ite_m c122 h
            refine r_aload_n C dL_law_375 rfl ?_
            refine g_own_5 C dL_law_376 fL_157 hN ?_
            refine r_bipush C dL_law_379 (by decide +kernel) ?_
            refine x_icmpge (tgt := 485) C dL_law_381 rfl (fun c125 => ?_) (fun c125 => ?_)
            · replace h := ite_p c125 h
              refine r_aload_n C dL_law_485 rfl ?_
              refine r_iload C dL_law_486 rfl ?_
              refine r_bipush C dL_law_488 (by decide +kernel) ?_
              refine x_idiv C dL_law_490 c6 ?_
              obtain ⟨W127, h126, h⟩ := bd_of h
              refine qS2_v C hR dL_law_491 lL_175 wL_act (evL_act C.lt (hN8 hN) h126) rfl hc hs ?_
              refine x_iinc hx C dL_law_494 rfl rfl ?_
              refine r_goto (tgt := 52) C dL_law_497 rfl ?_
              cases h
              exact AtH.sw K ⟨rfl, rfl, rfl, rfl, rfl, trivial⟩
            · replace h := ite_m c125 h
              refine r_aload_n C dL_law_384 rfl ?_
              refine r_iload C dL_law_385 rfl ?_
              refine r_iload C dL_law_387 rfl ?_
              refine r_iload C dL_law_389 rfl ?_
              refine r_aload_n C dL_law_391 rfl ?_
              refine r_iload C dL_law_392 rfl ?_
              obtain ⟨r129, h128, h⟩ := bd_of h
              refine qV1_i C hR dL_law_394 lL_168 w5_transitTime (rc_main (hN8 hN)) (ev5_transitTime C.lt (hN8 hN) h128) rfl hc hs ?_
              refine r_iadd C dL_law_397 ?_
              obtain ⟨r131, h130, h⟩ := bd_of h
              refine qV3_i C hR dL_law_398 lL_171 w6_isFree (rc_own hN) (ev6_isFree C.lt hN h130) rfl hc hs ?_
              refine r_aload_n C dL_law_401 rfl ?_
              refine r_iload C dL_law_402 rfl ?_
              refine r_iload C dL_law_404 rfl ?_
              refine r_iload C dL_law_406 rfl ?_
              obtain ⟨r133, h132, h⟩ := bd_of h
              refine qV3_i C hR dL_law_408 lL_76 w5_conflictCount (rc_main (hN8 hN)) (ev5_conflictCount C.lt (hN8 hN) h132) rfl hc hs ?_
              obtain ⟨y135, h136, h⟩ := bd_of h
              suffices J137 : At G X cells slots 419 [(0, .ref (gSa G)), (1, .ref (gB G + 0)), (2, vI x2), (3, .ref (gC G + 148)), (4, vI x4), (6, vI ((nrm ((nrm x5).tdiv (nrm 8))).tmod (nrm x2))), (7, vI y11), (8, vI ((nrm ((nrm x5).tdiv (nrm 128))).tmod (nrm 140)))] [vI y135, vI r131] W2 by
                replace h := h136
                refine x_ifne (tgt := 418) C dL_law_411 rfl (fun c134 => ?_) (fun c134 => ?_)
                · replace h := ite_p c134 h
                  refine r_iconst C dL_law_414 ?_
                  refine r_goto (tgt := 419) C dL_law_415 rfl ?_
                  cases h
                  exact AtH.sw J137 ⟨rfl, rfl, rfl, rfl, rfl, rfl, rfl, rfl, trivial⟩
                · replace h := ite_m c134 h
                  refine r_iconst C dL_law_418 ?_
                  cases h
                  exact AtH.sw J137 ⟨rfl, rfl, rfl, rfl, rfl, rfl, rfl, rfl, trivial⟩
              refine x_icmpeq (tgt := 424) C dL_law_419 rfl (fun c138 => ?_) (fun c138 => ?_)
              · replace h := ite_p c138 h
                refine r_aload_n C dL_law_424 rfl ?_
                refine r_iload C dL_law_425 rfl ?_
                refine r_iload C dL_law_427 rfl ?_
                refine r_iload C dL_law_429 rfl ?_
                refine r_aload_n C dL_law_431 rfl ?_
                refine r_iload C dL_law_432 rfl ?_
                obtain ⟨r140, h139, h⟩ := bd_of h
                refine qV1_i C hR dL_law_434 lL_168 w5_transitTime (rc_main (hN8 hN)) (ev5_transitTime C.lt (hN8 hN) h139) rfl hc hs ?_
                refine r_iadd C dL_law_437 ?_
                obtain ⟨r142, h141, h⟩ := bd_of h
                refine qV3_i C hR dL_law_438 lL_171 w6_isFree (rc_own hN) (ev6_isFree C.lt hN h141) rfl hc hs ?_
                refine x_ifeq (tgt := 494) C dL_law_441 rfl (fun c143 => ?_) (fun c143 => ?_)
                · replace h := ite_p c143 h
                  refine x_iinc hx C dL_law_494 rfl rfl ?_
                  refine r_goto (tgt := 52) C dL_law_497 rfl ?_
                  cases h
                  exact AtH.sw K ⟨rfl, rfl, rfl, rfl, rfl, trivial⟩
                · replace h := ite_m c143 h
                  refine r_aload_n C dL_law_444 rfl ?_
                  refine r_iload C dL_law_445 rfl ?_
                  refine r_iload C dL_law_447 rfl ?_
                  refine r_iload C dL_law_449 rfl ?_
                  obtain ⟨W145, h144, h⟩ := bd_of h
                  refine qV3_v C hR dL_law_451 lL_139 w6_add (rc_own hN) (ev6_add C.lt hN h144) rfl hc hs ?_
                  refine r_aload_n C dL_law_454 rfl ?_
                  refine r_iload C dL_law_455 rfl ?_
                  refine r_iload C dL_law_457 rfl ?_
                  refine r_iload C dL_law_459 rfl ?_
                  obtain ⟨r147, W148, h146, h⟩ := bd2_of h
                  refine qV3_i C hR dL_law_461 lL_80 w5_book (rc_main (hN8 hN)) (ev5_book C.lt (hN8 hN) h146) rfl hc hs ?_
                  refine r_iload C dL_law_464 rfl ?_
                  refine r_aload_n C dL_law_466 rfl ?_
                  refine r_iload C dL_law_467 rfl ?_
                  obtain ⟨r150, h149, h⟩ := bd_of h
                  refine qV1_i C hR dL_law_469 lL_168 w5_transitTime (rc_main (hN8 hN)) (ev5_transitTime C.lt (hN8 hN) h149) rfl hc hs ?_
                  refine r_iadd C dL_law_472 ?_
                  refine x_icmpne (tgt := 483) C dL_law_473 rfl (fun c151 => ?_) (fun c151 => ?_)
                  · replace h := ite_p c151 h
                    refine r_aload_n C dL_law_476 rfl ?_
                    obtain ⟨r153, h152, h⟩ := bd_of h
                    refine qV0_i C hR dL_law_477 lL_127 w6_agrees (rc_own hN) (ev6_agrees C.lt hN h152) rfl hc hs ?_
                    refine x_ifne (tgt := 494) C dL_law_480 rfl (fun c154 => ?_) (fun c154 => ?_)
                    · replace h := ite_p c154 h
                      refine r_iconst C dL_law_483 ?_
                      exact nomatch h
                    · replace h := ite_m c154 h
                      refine x_iinc hx C dL_law_494 rfl rfl ?_
                      refine r_goto (tgt := 52) C dL_law_497 rfl ?_
                      cases h
                      exact AtH.sw K ⟨rfl, rfl, rfl, rfl, rfl, trivial⟩
                  · replace h := ite_m c151 h
                    refine r_iconst C dL_law_483 ?_
                    exact nomatch h
              · replace h := ite_m c138 h
                refine r_iconst C dL_law_422 ?_
                exact nomatch h
        · replace h := ite_m c119 h
          refine r_aload_n C dL_law_485 rfl ?_
          refine r_iload C dL_law_486 rfl ?_
          refine r_bipush C dL_law_488 (by decide +kernel) ?_
          refine x_idiv C dL_law_490 c6 ?_
          obtain ⟨W156, h155, h⟩ := bd_of h
          refine qS2_v C hR dL_law_491 lL_175 wL_act (evL_act C.lt (hN8 hN) h155) rfl hc hs ?_
          refine x_iinc hx C dL_law_494 rfl rfl ?_
          refine r_goto (tgt := 52) C dL_law_497 rfl ?_
          cases h
          exact AtH.sw K ⟨rfl, rfl, rfl, rfl, rfl, trivial⟩
    · replace h := ite_m c18 h
      refine r_aload_n C dL_law_145 rfl ?_
      refine g_own_10 C dL_law_146 fL_132 hN ?_
      refine r_bipush C dL_law_149 (by decide +kernel) ?_
      refine x_icmpge (tgt := 269) C dL_law_151 rfl (fun c157 => ?_) (fun c157 => ?_)
      · replace h := ite_p c157 h
        refine r_iload C dL_law_269 rfl ?_
        refine r_bipush C dL_law_271 (by decide +kernel) ?_
        refine x_irem C dL_law_273 c6 ?_
        refine r_iconst C dL_law_274 ?_
        refine x_icmpne (tgt := 357) C dL_law_275 rfl (fun c158 => ?_) (fun c158 => ?_)
        · replace h := ite_p c158 h
          refine r_aload_n C dL_law_278 rfl ?_
          refine g_own_5 C dL_law_279 fL_157 hN ?_
          refine x_ifle (tgt := 357) C dL_law_282 rfl (fun c159 => ?_) (fun c159 => ?_)
          · replace h := ite_p c159 h
            refine r_iload C dL_law_357 rfl ?_
            refine r_bipush C dL_law_359 (by decide +kernel) ?_
            refine x_irem C dL_law_361 c6 ?_
            refine r_iconst C dL_law_362 ?_
            refine x_icmpne (tgt := 485) C dL_law_363 rfl (fun c160 => ?_) (fun c160 => ?_)
            · replace h := ite_p c160 h
              refine r_iload C dL_law_366 rfl ?_
              refine r_aload_n C dL_law_368 rfl ?_
              obtain ⟨r162, h161, h⟩ := bd_of h
              refine qV0_i C hR dL_law_369 lL_70 w5_minute (rc_main (hN8 hN)) (ev5_minute C.lt (hN8 hN) h161) rfl hc hs ?_
              refine x_icmplt (tgt := 485) C dL_law_372 rfl (fun c163 => ?_) (fun c163 => ?_)
              · replace h := ite_p c163 h
                refine r_aload_n C dL_law_485 rfl ?_
                refine r_iload C dL_law_486 rfl ?_
                refine r_bipush C dL_law_488 (by decide +kernel) ?_
                refine x_idiv C dL_law_490 c6 ?_
                obtain ⟨W165, h164, h⟩ := bd_of h
                refine qS2_v C hR dL_law_491 lL_175 wL_act (evL_act C.lt (hN8 hN) h164) rfl hc hs ?_
                refine x_iinc hx C dL_law_494 rfl rfl ?_
                refine r_goto (tgt := 52) C dL_law_497 rfl ?_
                cases h
                exact AtH.sw K ⟨rfl, rfl, rfl, rfl, rfl, trivial⟩
              · replace h := ite_m c163 h
                refine r_aload_n C dL_law_375 rfl ?_
                refine g_own_5 C dL_law_376 fL_157 hN ?_
                refine r_bipush C dL_law_379 (by decide +kernel) ?_
                refine x_icmpge (tgt := 485) C dL_law_381 rfl (fun c166 => ?_) (fun c166 => ?_)
                · replace h := ite_p c166 h
                  refine r_aload_n C dL_law_485 rfl ?_
                  refine r_iload C dL_law_486 rfl ?_
                  refine r_bipush C dL_law_488 (by decide +kernel) ?_
                  refine x_idiv C dL_law_490 c6 ?_
                  obtain ⟨W168, h167, h⟩ := bd_of h
                  refine qS2_v C hR dL_law_491 lL_175 wL_act (evL_act C.lt (hN8 hN) h167) rfl hc hs ?_
                  refine x_iinc hx C dL_law_494 rfl rfl ?_
                  refine r_goto (tgt := 52) C dL_law_497 rfl ?_
                  cases h
                  exact AtH.sw K ⟨rfl, rfl, rfl, rfl, rfl, trivial⟩
                · replace h := ite_m c166 h
                  refine r_aload_n C dL_law_384 rfl ?_
                  refine r_iload C dL_law_385 rfl ?_
                  refine r_iload C dL_law_387 rfl ?_
                  refine r_iload C dL_law_389 rfl ?_
                  refine r_aload_n C dL_law_391 rfl ?_
                  refine r_iload C dL_law_392 rfl ?_
                  obtain ⟨r170, h169, h⟩ := bd_of h
                  refine qV1_i C hR dL_law_394 lL_168 w5_transitTime (rc_main (hN8 hN)) (ev5_transitTime C.lt (hN8 hN) h169) rfl hc hs ?_
                  refine r_iadd C dL_law_397 ?_
                  obtain ⟨r172, h171, h⟩ := bd_of h
                  refine qV3_i C hR dL_law_398 lL_171 w6_isFree (rc_own hN) (ev6_isFree C.lt hN h171) rfl hc hs ?_
                  refine r_aload_n C dL_law_401 rfl ?_
                  refine r_iload C dL_law_402 rfl ?_
                  refine r_iload C dL_law_404 rfl ?_
                  refine r_iload C dL_law_406 rfl ?_
                  obtain ⟨r174, h173, h⟩ := bd_of h
                  refine qV3_i C hR dL_law_408 lL_76 w5_conflictCount (rc_main (hN8 hN)) (ev5_conflictCount C.lt (hN8 hN) h173) rfl hc hs ?_
                  obtain ⟨y176, h177, h⟩ := bd_of h
                  suffices J178 : At G X cells slots 419 [(0, .ref (gSa G)), (1, .ref (gB G + 0)), (2, vI x2), (3, .ref (gC G + 148)), (4, vI x4), (6, vI ((nrm ((nrm x5).tdiv (nrm 8))).tmod (nrm x2))), (7, vI y11), (8, vI ((nrm ((nrm x5).tdiv (nrm 128))).tmod (nrm 140)))] [vI y176, vI r172] W2 by
                    replace h := h177
                    refine x_ifne (tgt := 418) C dL_law_411 rfl (fun c175 => ?_) (fun c175 => ?_)
                    · replace h := ite_p c175 h
                      refine r_iconst C dL_law_414 ?_
                      refine r_goto (tgt := 419) C dL_law_415 rfl ?_
                      cases h
                      exact AtH.sw J178 ⟨rfl, rfl, rfl, rfl, rfl, rfl, rfl, rfl, trivial⟩
                    · replace h := ite_m c175 h
                      refine r_iconst C dL_law_418 ?_
                      cases h
                      exact AtH.sw J178 ⟨rfl, rfl, rfl, rfl, rfl, rfl, rfl, rfl, trivial⟩
                  refine x_icmpeq (tgt := 424) C dL_law_419 rfl (fun c179 => ?_) (fun c179 => ?_)
                  · replace h := ite_p c179 h
                    refine r_aload_n C dL_law_424 rfl ?_
                    refine r_iload C dL_law_425 rfl ?_
                    refine r_iload C dL_law_427 rfl ?_
                    refine r_iload C dL_law_429 rfl ?_
                    refine r_aload_n C dL_law_431 rfl ?_
                    refine r_iload C dL_law_432 rfl ?_
                    obtain ⟨r181, h180, h⟩ := bd_of h
                    refine qV1_i C hR dL_law_434 lL_168 w5_transitTime (rc_main (hN8 hN)) (ev5_transitTime C.lt (hN8 hN) h180) rfl hc hs ?_
                    refine r_iadd C dL_law_437 ?_
                    obtain ⟨r183, h182, h⟩ := bd_of h
                    refine qV3_i C hR dL_law_438 lL_171 w6_isFree (rc_own hN) (ev6_isFree C.lt hN h182) rfl hc hs ?_
                    refine x_ifeq (tgt := 494) C dL_law_441 rfl (fun c184 => ?_) (fun c184 => ?_)
                    · replace h := ite_p c184 h
                      refine x_iinc hx C dL_law_494 rfl rfl ?_
                      refine r_goto (tgt := 52) C dL_law_497 rfl ?_
                      cases h
                      exact AtH.sw K ⟨rfl, rfl, rfl, rfl, rfl, trivial⟩
                    · replace h := ite_m c184 h
                      refine r_aload_n C dL_law_444 rfl ?_
                      refine r_iload C dL_law_445 rfl ?_
                      refine r_iload C dL_law_447 rfl ?_
                      refine r_iload C dL_law_449 rfl ?_
                      obtain ⟨W186, h185, h⟩ := bd_of h
                      refine qV3_v C hR dL_law_451 lL_139 w6_add (rc_own hN) (ev6_add C.lt hN h185) rfl hc hs ?_
                      refine r_aload_n C dL_law_454 rfl ?_
                      refine r_iload C dL_law_455 rfl ?_
                      refine r_iload C dL_law_457 rfl ?_
                      refine r_iload C dL_law_459 rfl ?_
                      obtain ⟨r188, W189, h187, h⟩ := bd2_of h
                      refine qV3_i C hR dL_law_461 lL_80 w5_book (rc_main (hN8 hN)) (ev5_book C.lt (hN8 hN) h187) rfl hc hs ?_
                      refine r_iload C dL_law_464 rfl ?_
                      refine r_aload_n C dL_law_466 rfl ?_
                      refine r_iload C dL_law_467 rfl ?_
                      obtain ⟨r191, h190, h⟩ := bd_of h
                      refine qV1_i C hR dL_law_469 lL_168 w5_transitTime (rc_main (hN8 hN)) (ev5_transitTime C.lt (hN8 hN) h190) rfl hc hs ?_
                      refine r_iadd C dL_law_472 ?_
                      refine x_icmpne (tgt := 483) C dL_law_473 rfl (fun c192 => ?_) (fun c192 => ?_)
                      · replace h := ite_p c192 h
                        refine r_aload_n C dL_law_476 rfl ?_
                        obtain ⟨r194, h193, h⟩ := bd_of h
                        refine qV0_i C hR dL_law_477 lL_127 w6_agrees (rc_own hN) (ev6_agrees C.lt hN h193) rfl hc hs ?_
                        refine x_ifne (tgt := 494) C dL_law_480 rfl (fun c195 => ?_) (fun c195 => ?_)
                        · replace h := ite_p c195 h
                          refine r_iconst C dL_law_483 ?_
                          exact nomatch h
                        · replace h := ite_m c195 h
                          refine x_iinc hx C dL_law_494 rfl rfl ?_
                          refine r_goto (tgt := 52) C dL_law_497 rfl ?_
                          cases h
                          exact AtH.sw K ⟨rfl, rfl, rfl, rfl, rfl, trivial⟩
                      · replace h := ite_m c192 h
                        refine r_iconst C dL_law_483 ?_
                        exact nomatch h
                  · replace h := ite_m c179 h
                    refine r_iconst C dL_law_422 ?_
                    exact nomatch h
            · replace h := ite_m c160 h
              refine r_aload_n C dL_law_485 rfl ?_
              refine r_iload C dL_law_486 rfl ?_
              refine r_bipush C dL_law_488 (by decide +kernel) ?_
              refine x_idiv C dL_law_490 c6 ?_
              obtain ⟨W197, h196, h⟩ := bd_of h
              refine qS2_v C hR dL_law_491 lL_175 wL_act (evL_act C.lt (hN8 hN) h196) rfl hc hs ?_
              refine x_iinc hx C dL_law_494 rfl rfl ?_
              refine r_goto (tgt := 52) C dL_law_497 rfl ?_
              cases h
              exact AtH.sw K ⟨rfl, rfl, rfl, rfl, rfl, trivial⟩
          · replace h := ite_m c159 h
            refine r_aload_n C dL_law_285 rfl ?_
            refine r_iload C dL_law_286 rfl ?_
            refine r_ldci (z := 1048576) C dL_law_288 kkL_160 (by decide +kernel) ?_
            obtain ⟨c198, h⟩ := ck_of h
            refine x_idiv C dL_law_290 c198 ?_
            refine r_aload_n C dL_law_291 rfl ?_
            refine g_own_5 C dL_law_292 fL_157 hN ?_
            obtain ⟨c199, h⟩ := ck_of h
            refine x_irem C dL_law_295 c199 ?_
            obtain ⟨r201, h200, h⟩ := bd_of h
            refine qV1_i C hR dL_law_296 lL_84 w5_startMinute (rc_main (hN8 hN)) (ev5_startMinute C.lt (hN8 hN) h200) rfl hc hs ?_
            refine r_aload_n C dL_law_299 rfl ?_
            obtain ⟨r203, h202, h⟩ := bd_of h
            refine qV0_i C hR dL_law_300 lL_70 w5_minute (rc_main (hN8 hN)) (ev5_minute C.lt (hN8 hN) h202) rfl hc hs ?_
            refine x_icmple (tgt := 357) C dL_law_303 rfl (fun c204 => ?_) (fun c204 => ?_)
            · replace h := ite_p c204 h
              refine r_iload C dL_law_357 rfl ?_
              refine r_bipush C dL_law_359 (by decide +kernel) ?_
              refine x_irem C dL_law_361 c6 ?_
              refine r_iconst C dL_law_362 ?_
              refine x_icmpne (tgt := 485) C dL_law_363 rfl (fun c205 => ?_) (fun c205 => ?_)
              · replace h := ite_p c205 h
                refine r_iload C dL_law_366 rfl ?_
                refine r_aload_n C dL_law_368 rfl ?_
                obtain ⟨r207, h206, h⟩ := bd_of h
                refine qV0_i C hR dL_law_369 lL_70 w5_minute (rc_main (hN8 hN)) (ev5_minute C.lt (hN8 hN) h206) rfl hc hs ?_
                refine x_icmplt (tgt := 485) C dL_law_372 rfl (fun c208 => ?_) (fun c208 => ?_)
                · replace h := ite_p c208 h
                  refine r_aload_n C dL_law_485 rfl ?_
                  refine r_iload C dL_law_486 rfl ?_
                  refine r_bipush C dL_law_488 (by decide +kernel) ?_
                  refine x_idiv C dL_law_490 c6 ?_
                  obtain ⟨W210, h209, h⟩ := bd_of h
                  refine qS2_v C hR dL_law_491 lL_175 wL_act (evL_act C.lt (hN8 hN) h209) rfl hc hs ?_
                  refine x_iinc hx C dL_law_494 rfl rfl ?_
                  refine r_goto (tgt := 52) C dL_law_497 rfl ?_
                  cases h
                  exact AtH.sw K ⟨rfl, rfl, rfl, rfl, rfl, trivial⟩
                · replace h := ite_m c208 h
                  refine r_aload_n C dL_law_375 rfl ?_
                  refine g_own_5 C dL_law_376 fL_157 hN ?_
                  refine r_bipush C dL_law_379 (by decide +kernel) ?_
                  refine x_icmpge (tgt := 485) C dL_law_381 rfl (fun c211 => ?_) (fun c211 => ?_)
                  · replace h := ite_p c211 h
                    refine r_aload_n C dL_law_485 rfl ?_
                    refine r_iload C dL_law_486 rfl ?_
                    refine r_bipush C dL_law_488 (by decide +kernel) ?_
                    refine x_idiv C dL_law_490 c6 ?_
                    obtain ⟨W213, h212, h⟩ := bd_of h
                    refine qS2_v C hR dL_law_491 lL_175 wL_act (evL_act C.lt (hN8 hN) h212) rfl hc hs ?_
                    refine x_iinc hx C dL_law_494 rfl rfl ?_
                    refine r_goto (tgt := 52) C dL_law_497 rfl ?_
                    cases h
                    exact AtH.sw K ⟨rfl, rfl, rfl, rfl, rfl, trivial⟩
                  · replace h := ite_m c211 h
                    refine r_aload_n C dL_law_384 rfl ?_
                    refine r_iload C dL_law_385 rfl ?_
                    refine r_iload C dL_law_387 rfl ?_
                    refine r_iload C dL_law_389 rfl ?_
                    refine r_aload_n C dL_law_391 rfl ?_
                    refine r_iload C dL_law_392 rfl ?_
                    obtain ⟨r215, h214, h⟩ := bd_of h
                    refine qV1_i C hR dL_law_394 lL_168 w5_transitTime (rc_main (hN8 hN)) (ev5_transitTime C.lt (hN8 hN) h214) rfl hc hs ?_
                    refine r_iadd C dL_law_397 ?_
                    obtain ⟨r217, h216, h⟩ := bd_of h
                    refine qV3_i C hR dL_law_398 lL_171 w6_isFree (rc_own hN) (ev6_isFree C.lt hN h216) rfl hc hs ?_
                    refine r_aload_n C dL_law_401 rfl ?_
                    refine r_iload C dL_law_402 rfl ?_
                    refine r_iload C dL_law_404 rfl ?_
                    refine r_iload C dL_law_406 rfl ?_
                    obtain ⟨r219, h218, h⟩ := bd_of h
                    refine qV3_i C hR dL_law_408 lL_76 w5_conflictCount (rc_main (hN8 hN)) (ev5_conflictCount C.lt (hN8 hN) h218) rfl hc hs ?_
                    obtain ⟨y221, h222, h⟩ := bd_of h
                    suffices J223 : At G X cells slots 419 [(0, .ref (gSa G)), (1, .ref (gB G + 0)), (2, vI x2), (3, .ref (gC G + 148)), (4, vI x4), (6, vI ((nrm ((nrm x5).tdiv (nrm 8))).tmod (nrm x2))), (7, vI y11), (8, vI ((nrm ((nrm x5).tdiv (nrm 128))).tmod (nrm 140)))] [vI y221, vI r217] W2 by
                      replace h := h222
                      refine x_ifne (tgt := 418) C dL_law_411 rfl (fun c220 => ?_) (fun c220 => ?_)
                      · replace h := ite_p c220 h
                        refine r_iconst C dL_law_414 ?_
                        refine r_goto (tgt := 419) C dL_law_415 rfl ?_
                        cases h
                        exact AtH.sw J223 ⟨rfl, rfl, rfl, rfl, rfl, rfl, rfl, rfl, trivial⟩
                      · replace h := ite_m c220 h
                        refine r_iconst C dL_law_418 ?_
                        cases h
                        exact AtH.sw J223 ⟨rfl, rfl, rfl, rfl, rfl, rfl, rfl, rfl, trivial⟩
                    refine x_icmpeq (tgt := 424) C dL_law_419 rfl (fun c224 => ?_) (fun c224 => ?_)
                    · replace h := ite_p c224 h
                      refine r_aload_n C dL_law_424 rfl ?_
                      refine r_iload C dL_law_425 rfl ?_
                      refine r_iload C dL_law_427 rfl ?_
                      refine r_iload C dL_law_429 rfl ?_
                      refine r_aload_n C dL_law_431 rfl ?_
                      refine r_iload C dL_law_432 rfl ?_
                      obtain ⟨r226, h225, h⟩ := bd_of h
                      refine qV1_i C hR dL_law_434 lL_168 w5_transitTime (rc_main (hN8 hN)) (ev5_transitTime C.lt (hN8 hN) h225) rfl hc hs ?_
                      refine r_iadd C dL_law_437 ?_
                      obtain ⟨r228, h227, h⟩ := bd_of h
                      refine qV3_i C hR dL_law_438 lL_171 w6_isFree (rc_own hN) (ev6_isFree C.lt hN h227) rfl hc hs ?_
                      refine x_ifeq (tgt := 494) C dL_law_441 rfl (fun c229 => ?_) (fun c229 => ?_)
                      · replace h := ite_p c229 h
                        refine x_iinc hx C dL_law_494 rfl rfl ?_
                        refine r_goto (tgt := 52) C dL_law_497 rfl ?_
                        cases h
                        exact AtH.sw K ⟨rfl, rfl, rfl, rfl, rfl, trivial⟩
                      · replace h := ite_m c229 h
                        refine r_aload_n C dL_law_444 rfl ?_
                        refine r_iload C dL_law_445 rfl ?_
                        refine r_iload C dL_law_447 rfl ?_
                        refine r_iload C dL_law_449 rfl ?_
                        obtain ⟨W231, h230, h⟩ := bd_of h
                        refine qV3_v C hR dL_law_451 lL_139 w6_add (rc_own hN) (ev6_add C.lt hN h230) rfl hc hs ?_
                        refine r_aload_n C dL_law_454 rfl ?_
                        refine r_iload C dL_law_455 rfl ?_
                        refine r_iload C dL_law_457 rfl ?_
                        refine r_iload C dL_law_459 rfl ?_
                        obtain ⟨r233, W234, h232, h⟩ := bd2_of h
                        refine qV3_i C hR dL_law_461 lL_80 w5_book (rc_main (hN8 hN)) (ev5_book C.lt (hN8 hN) h232) rfl hc hs ?_
                        refine r_iload C dL_law_464 rfl ?_
                        refine r_aload_n C dL_law_466 rfl ?_
                        refine r_iload C dL_law_467 rfl ?_
                        obtain ⟨r236, h235, h⟩ := bd_of h
                        refine qV1_i C hR dL_law_469 lL_168 w5_transitTime (rc_main (hN8 hN)) (ev5_transitTime C.lt (hN8 hN) h235) rfl hc hs ?_
                        refine r_iadd C dL_law_472 ?_
                        refine x_icmpne (tgt := 483) C dL_law_473 rfl (fun c237 => ?_) (fun c237 => ?_)
                        · replace h := ite_p c237 h
                          refine r_aload_n C dL_law_476 rfl ?_
                          obtain ⟨r239, h238, h⟩ := bd_of h
                          refine qV0_i C hR dL_law_477 lL_127 w6_agrees (rc_own hN) (ev6_agrees C.lt hN h238) rfl hc hs ?_
                          refine x_ifne (tgt := 494) C dL_law_480 rfl (fun c240 => ?_) (fun c240 => ?_)
                          · replace h := ite_p c240 h
                            refine r_iconst C dL_law_483 ?_
                            exact nomatch h
                          · replace h := ite_m c240 h
                            refine x_iinc hx C dL_law_494 rfl rfl ?_
                            refine r_goto (tgt := 52) C dL_law_497 rfl ?_
                            cases h
                            exact AtH.sw K ⟨rfl, rfl, rfl, rfl, rfl, trivial⟩
                        · replace h := ite_m c237 h
                          refine r_iconst C dL_law_483 ?_
                          exact nomatch h
                    · replace h := ite_m c224 h
                      refine r_iconst C dL_law_422 ?_
                      exact nomatch h
              · replace h := ite_m c205 h
                refine r_aload_n C dL_law_485 rfl ?_
                refine r_iload C dL_law_486 rfl ?_
                refine r_bipush C dL_law_488 (by decide +kernel) ?_
                refine x_idiv C dL_law_490 c6 ?_
                obtain ⟨W242, h241, h⟩ := bd_of h
                refine qS2_v C hR dL_law_491 lL_175 wL_act (evL_act C.lt (hN8 hN) h241) rfl hc hs ?_
                refine x_iinc hx C dL_law_494 rfl rfl ?_
                refine r_goto (tgt := 52) C dL_law_497 rfl ?_
                cases h
                exact AtH.sw K ⟨rfl, rfl, rfl, rfl, rfl, trivial⟩
            · replace h := ite_m c204 h
              refine r_aload_n C dL_law_306 rfl ?_
              refine r_iload C dL_law_307 rfl ?_
              refine r_ldci (z := 1048576) C dL_law_309 kkL_160 (by decide +kernel) ?_
              refine x_idiv C dL_law_311 c198 ?_
              refine r_aload_n C dL_law_312 rfl ?_
              refine g_own_5 C dL_law_313 fL_157 hN ?_
              refine x_irem C dL_law_316 c199 ?_
              obtain ⟨W244, h243, h⟩ := bd_of h
              refine qV1_v C hR dL_law_317 lL_161 w6_remove (rc_own hN) (ev6_remove C.lt hN h243) rfl hc hs ?_
              refine r_aload_n C dL_law_320 rfl ?_
              obtain ⟨r246, W247, h245, h⟩ := bd2_of h
              refine qV0_i C hR dL_law_321 lL_165 w6_process (rc_own hN) (ev6_process C.lt hN h245) rfl hc hs ?_
              refine x_istore hx C dL_law_324 rfl ?_
              refine r_aload_n C dL_law_326 rfl ?_
              refine r_iload C dL_law_327 rfl ?_
              refine r_ldci (z := 1048576) C dL_law_329 kkL_160 (by decide +kernel) ?_
              refine x_idiv C dL_law_331 c198 ?_
              refine r_aload_n C dL_law_332 rfl ?_
              obtain ⟨r249, h248, h⟩ := bd_of h
              refine qV0_i C hR dL_law_333 lL_73 w5_bookingCount (rc_main (hN8 hN)) (ev5_bookingCount C.lt (hN8 hN) h248) rfl hc hs ?_
              obtain ⟨c250, h⟩ := ck_of h
              refine x_irem C dL_law_336 c250 ?_
              obtain ⟨r252, W253, h251, h⟩ := bd2_of h
              refine qV1_i C hR dL_law_337 lL_87 w5_cancel (rc_main (hN8 hN)) (ev5_cancel C.lt (hN8 hN) h251) rfl hc hs ?_
              refine r_iload C dL_law_340 rfl ?_
              refine x_icmpne (tgt := 352) C dL_law_342 rfl (fun c254 => ?_) (fun c254 => ?_)
              · replace h := ite_p c254 h
                refine r_aload_n C dL_law_345 rfl ?_
                obtain ⟨r256, h255, h⟩ := bd_of h
                refine qV0_i C hR dL_law_346 lL_127 w6_agrees (rc_own hN) (ev6_agrees C.lt hN h255) rfl hc hs ?_
                refine x_ifne (tgt := 354) C dL_law_349 rfl (fun c257 => ?_) (fun c257 => ?_)
                · replace h := ite_p c257 h
                  refine r_iconst C dL_law_352 ?_
                  exact nomatch h
                · replace h := ite_m c257 h
                  refine r_goto (tgt := 494) C dL_law_354 rfl ?_
                  refine x_iinc hx C dL_law_494 rfl rfl ?_
                  refine r_goto (tgt := 52) C dL_law_497 rfl ?_
                  cases h
                  exact AtH.sw K ⟨rfl, rfl, rfl, rfl, rfl, trivial⟩
              · replace h := ite_m c254 h
                refine r_iconst C dL_law_352 ?_
                exact nomatch h
        · replace h := ite_m c158 h
          refine r_iload C dL_law_357 rfl ?_
          refine r_bipush C dL_law_359 (by decide +kernel) ?_
          refine x_irem C dL_law_361 c6 ?_
          refine r_iconst C dL_law_362 ?_
          refine x_icmpne (tgt := 485) C dL_law_363 rfl (fun c258 => ?_) (fun c258 => ?_)
          · replace h := ite_p c258 h
            refine r_iload C dL_law_366 rfl ?_
            refine r_aload_n C dL_law_368 rfl ?_
            obtain ⟨r260, h259, h⟩ := bd_of h
            refine qV0_i C hR dL_law_369 lL_70 w5_minute (rc_main (hN8 hN)) (ev5_minute C.lt (hN8 hN) h259) rfl hc hs ?_
            refine x_icmplt (tgt := 485) C dL_law_372 rfl (fun c261 => ?_) (fun c261 => ?_)
            · replace h := ite_p c261 h
              refine r_aload_n C dL_law_485 rfl ?_
              refine r_iload C dL_law_486 rfl ?_
              refine r_bipush C dL_law_488 (by decide +kernel) ?_
              refine x_idiv C dL_law_490 c6 ?_
              obtain ⟨W263, h262, h⟩ := bd_of h
              refine qS2_v C hR dL_law_491 lL_175 wL_act (evL_act C.lt (hN8 hN) h262) rfl hc hs ?_
              refine x_iinc hx C dL_law_494 rfl rfl ?_
              refine r_goto (tgt := 52) C dL_law_497 rfl ?_
              cases h
              exact AtH.sw K ⟨rfl, rfl, rfl, rfl, rfl, trivial⟩
            · replace h := ite_m c261 h
              refine r_aload_n C dL_law_375 rfl ?_
              refine g_own_5 C dL_law_376 fL_157 hN ?_
              refine r_bipush C dL_law_379 (by decide +kernel) ?_
              refine x_icmpge (tgt := 485) C dL_law_381 rfl (fun c264 => ?_) (fun c264 => ?_)
              · replace h := ite_p c264 h
                refine r_aload_n C dL_law_485 rfl ?_
                refine r_iload C dL_law_486 rfl ?_
                refine r_bipush C dL_law_488 (by decide +kernel) ?_
                refine x_idiv C dL_law_490 c6 ?_
                obtain ⟨W266, h265, h⟩ := bd_of h
                refine qS2_v C hR dL_law_491 lL_175 wL_act (evL_act C.lt (hN8 hN) h265) rfl hc hs ?_
                refine x_iinc hx C dL_law_494 rfl rfl ?_
                refine r_goto (tgt := 52) C dL_law_497 rfl ?_
                cases h
                exact AtH.sw K ⟨rfl, rfl, rfl, rfl, rfl, trivial⟩
              · replace h := ite_m c264 h
                refine r_aload_n C dL_law_384 rfl ?_
                refine r_iload C dL_law_385 rfl ?_
                refine r_iload C dL_law_387 rfl ?_
                refine r_iload C dL_law_389 rfl ?_
                refine r_aload_n C dL_law_391 rfl ?_
                refine r_iload C dL_law_392 rfl ?_
                obtain ⟨r268, h267, h⟩ := bd_of h
                refine qV1_i C hR dL_law_394 lL_168 w5_transitTime (rc_main (hN8 hN)) (ev5_transitTime C.lt (hN8 hN) h267) rfl hc hs ?_
                refine r_iadd C dL_law_397 ?_
                obtain ⟨r270, h269, h⟩ := bd_of h
                refine qV3_i C hR dL_law_398 lL_171 w6_isFree (rc_own hN) (ev6_isFree C.lt hN h269) rfl hc hs ?_
                refine r_aload_n C dL_law_401 rfl ?_
                refine r_iload C dL_law_402 rfl ?_
                refine r_iload C dL_law_404 rfl ?_
                refine r_iload C dL_law_406 rfl ?_
                obtain ⟨r272, h271, h⟩ := bd_of h
                refine qV3_i C hR dL_law_408 lL_76 w5_conflictCount (rc_main (hN8 hN)) (ev5_conflictCount C.lt (hN8 hN) h271) rfl hc hs ?_
                obtain ⟨y274, h275, h⟩ := bd_of h
                suffices J276 : At G X cells slots 419 [(0, .ref (gSa G)), (1, .ref (gB G + 0)), (2, vI x2), (3, .ref (gC G + 148)), (4, vI x4), (6, vI ((nrm ((nrm x5).tdiv (nrm 8))).tmod (nrm x2))), (7, vI y11), (8, vI ((nrm ((nrm x5).tdiv (nrm 128))).tmod (nrm 140)))] [vI y274, vI r270] W2 by
                  replace h := h275
                  refine x_ifne (tgt := 418) C dL_law_411 rfl (fun c273 => ?_) (fun c273 => ?_)
                  · replace h := ite_p c273 h
                    refine r_iconst C dL_law_414 ?_
                    refine r_goto (tgt := 419) C dL_law_415 rfl ?_
                    cases h
                    exact AtH.sw J276 ⟨rfl, rfl, rfl, rfl, rfl, rfl, rfl, rfl, trivial⟩
                  · replace h := ite_m c273 h
                    refine r_iconst C dL_law_418 ?_
                    cases h
                    exact AtH.sw J276 ⟨rfl, rfl, rfl, rfl, rfl, rfl, rfl, rfl, trivial⟩
                refine x_icmpeq (tgt := 424) C dL_law_419 rfl (fun c277 => ?_) (fun c277 => ?_)
                · replace h := ite_p c277 h
                  refine r_aload_n C dL_law_424 rfl ?_
                  refine r_iload C dL_law_425 rfl ?_
                  refine r_iload C dL_law_427 rfl ?_
                  refine r_iload C dL_law_429 rfl ?_
                  refine r_aload_n C dL_law_431 rfl ?_
                  refine r_iload C dL_law_432 rfl ?_
                  obtain ⟨r279, h278, h⟩ := bd_of h
                  refine qV1_i C hR dL_law_434 lL_168 w5_transitTime (rc_main (hN8 hN)) (ev5_transitTime C.lt (hN8 hN) h278) rfl hc hs ?_
                  refine r_iadd C dL_law_437 ?_
                  obtain ⟨r281, h280, h⟩ := bd_of h
                  refine qV3_i C hR dL_law_438 lL_171 w6_isFree (rc_own hN) (ev6_isFree C.lt hN h280) rfl hc hs ?_
                  refine x_ifeq (tgt := 494) C dL_law_441 rfl (fun c282 => ?_) (fun c282 => ?_)
                  · replace h := ite_p c282 h
                    refine x_iinc hx C dL_law_494 rfl rfl ?_
                    refine r_goto (tgt := 52) C dL_law_497 rfl ?_
                    cases h
                    exact AtH.sw K ⟨rfl, rfl, rfl, rfl, rfl, trivial⟩
                  · replace h := ite_m c282 h
                    refine r_aload_n C dL_law_444 rfl ?_
                    refine r_iload C dL_law_445 rfl ?_
                    refine r_iload C dL_law_447 rfl ?_
                    refine r_iload C dL_law_449 rfl ?_
                    obtain ⟨W284, h283, h⟩ := bd_of h
                    refine qV3_v C hR dL_law_451 lL_139 w6_add (rc_own hN) (ev6_add C.lt hN h283) rfl hc hs ?_
                    refine r_aload_n C dL_law_454 rfl ?_
                    refine r_iload C dL_law_455 rfl ?_
                    refine r_iload C dL_law_457 rfl ?_
                    refine r_iload C dL_law_459 rfl ?_
                    obtain ⟨r286, W287, h285, h⟩ := bd2_of h
                    refine qV3_i C hR dL_law_461 lL_80 w5_book (rc_main (hN8 hN)) (ev5_book C.lt (hN8 hN) h285) rfl hc hs ?_
                    refine r_iload C dL_law_464 rfl ?_
                    refine r_aload_n C dL_law_466 rfl ?_
                    refine r_iload C dL_law_467 rfl ?_
                    obtain ⟨r289, h288, h⟩ := bd_of h
                    refine qV1_i C hR dL_law_469 lL_168 w5_transitTime (rc_main (hN8 hN)) (ev5_transitTime C.lt (hN8 hN) h288) rfl hc hs ?_
                    refine r_iadd C dL_law_472 ?_
                    refine x_icmpne (tgt := 483) C dL_law_473 rfl (fun c290 => ?_) (fun c290 => ?_)
                    · replace h := ite_p c290 h
                      refine r_aload_n C dL_law_476 rfl ?_
                      obtain ⟨r292, h291, h⟩ := bd_of h
                      refine qV0_i C hR dL_law_477 lL_127 w6_agrees (rc_own hN) (ev6_agrees C.lt hN h291) rfl hc hs ?_
                      refine x_ifne (tgt := 494) C dL_law_480 rfl (fun c293 => ?_) (fun c293 => ?_)
                      · replace h := ite_p c293 h
                        refine r_iconst C dL_law_483 ?_
                        exact nomatch h
                      · replace h := ite_m c293 h
                        refine x_iinc hx C dL_law_494 rfl rfl ?_
                        refine r_goto (tgt := 52) C dL_law_497 rfl ?_
                        cases h
                        exact AtH.sw K ⟨rfl, rfl, rfl, rfl, rfl, trivial⟩
                    · replace h := ite_m c290 h
                      refine r_iconst C dL_law_483 ?_
                      exact nomatch h
                · replace h := ite_m c277 h
                  refine r_iconst C dL_law_422 ?_
                  exact nomatch h
          · replace h := ite_m c258 h
            refine r_aload_n C dL_law_485 rfl ?_
            refine r_iload C dL_law_486 rfl ?_
            refine r_bipush C dL_law_488 (by decide +kernel) ?_
            refine x_idiv C dL_law_490 c6 ?_
            obtain ⟨W295, h294, h⟩ := bd_of h
            refine qS2_v C hR dL_law_491 lL_175 wL_act (evL_act C.lt (hN8 hN) h294) rfl hc hs ?_
            refine x_iinc hx C dL_law_494 rfl rfl ?_
            refine r_goto (tgt := 52) C dL_law_497 rfl ?_
            cases h
            exact AtH.sw K ⟨rfl, rfl, rfl, rfl, rfl, trivial⟩
      · replace h := ite_m c157 h
        refine r_aload_n C dL_law_154 rfl ?_
        refine r_iload C dL_law_155 rfl ?_
        refine r_iload C dL_law_157 rfl ?_
        refine r_iload C dL_law_159 rfl ?_
        refine r_iload C dL_law_161 rfl ?_
        obtain ⟨r297, h296, h⟩ := bd_of h
        refine qV4_i C hR dL_law_163 lL_136 w6_find (rc_own hN) (ev6_find C.lt hN h296) rfl hc hs ?_
        refine x_istore hx C dL_law_166 rfl ?_
        refine r_iload C dL_law_168 rfl ?_
        obtain ⟨W306, h307, h⟩ := bd_of h
        suffices J308 : At G X cells slots 240 [(0, .ref (gSa G)), (1, .ref (gB G + 0)), (2, vI x2), (3, .ref (gC G + 148)), (4, vI x4), (6, vI ((nrm ((nrm x5).tdiv (nrm 8))).tmod (nrm x2))), (7, vI y11), (8, vI ((nrm ((nrm x5).tdiv (nrm 128))).tmod (nrm 140))), (9, vI (((nrm ((nrm x5).tdiv (nrm 128))).tmod (nrm 140)) + ((nrm ((nrm x5).tdiv (nrm 32768))).tmod (nrm 30)))), (10, vI r297)] [] W306 by
          replace h := h307
          refine x_iflt (tgt := 186) C dL_law_170 rfl (fun c298 => ?_) (fun c298 => ?_)
          · replace h := ite_p c298 h
            refine r_aload_n C dL_law_186 rfl ?_
            refine g_own_6 C dL_law_187 fL_143 hN ?_
            refine r_aload_n C dL_law_190 rfl ?_
            refine g_own_10 C dL_law_191 fL_132 hN ?_
            refine r_iload C dL_law_194 rfl ?_
            obtain ⟨c299, h⟩ := ck_of h
            refine x_iast C dL_law_196 (ra_own153 hN) c299 ?_
            refine r_aload_n C dL_law_197 rfl ?_
            refine g_own_7 C dL_law_198 fL_147 hN ?_
            refine r_aload_n C dL_law_201 rfl ?_
            refine g_own_10 C dL_law_202 fL_132 hN ?_
            refine r_iload C dL_law_205 rfl ?_
            obtain ⟨c300, h⟩ := ck_of h
            obtain ⟨c301, h⟩ := ck_of h
            refine x_zast C dL_law_207 (ra_own154 hN) c300 c301 ?_
            refine r_aload_n C dL_law_208 rfl ?_
            refine g_own_8 C dL_law_209 fL_151 hN ?_
            refine r_aload_n C dL_law_212 rfl ?_
            refine g_own_10 C dL_law_213 fL_132 hN ?_
            refine r_iload C dL_law_216 rfl ?_
            obtain ⟨c302, h⟩ := ck_of h
            refine x_iast C dL_law_218 (ra_own155 hN) c302 ?_
            refine r_aload_n C dL_law_219 rfl ?_
            refine g_own_9 C dL_law_220 fL_154 hN ?_
            refine r_aload_n C dL_law_223 rfl ?_
            refine g_own_10 C dL_law_224 fL_132 hN ?_
            refine r_iload C dL_law_227 rfl ?_
            obtain ⟨c303, h⟩ := ck_of h
            refine x_iast C dL_law_229 (ra_own156 hN) c303 ?_
            refine r_aload_n C dL_law_230 rfl ?_
            refine r_dup C dL_law_231 rfl ?_
            refine g_own_10 C dL_law_232 fL_132 hN ?_
            refine r_iconst C dL_law_235 ?_
            refine r_iadd C dL_law_236 ?_
            refine p_own_10 C dL_law_237 fL_132 hN ?_
            cases h
            exact AtH.sw J308 ⟨rfl, rfl, rfl, rfl, rfl, rfl, rfl, rfl, rfl, rfl, trivial⟩
          · replace h := ite_m c298 h
            refine r_aload_n C dL_law_173 rfl ?_
            refine r_iload C dL_law_174 rfl ?_
            refine r_iload C dL_law_176 rfl ?_
            refine r_iload C dL_law_178 rfl ?_
            obtain ⟨W305, h304, h⟩ := bd_of h
            refine qV3_v C hR dL_law_180 lL_139 w6_add (rc_own hN) (ev6_add C.lt hN h304) rfl hc hs ?_
            refine r_goto (tgt := 240) C dL_law_183 rfl ?_
            cases h
            exact AtH.sw J308 ⟨rfl, rfl, rfl, rfl, rfl, rfl, rfl, rfl, rfl, rfl, trivial⟩
        refine r_aload_n C dL_law_240 rfl ?_
        refine r_iload C dL_law_241 rfl ?_
        refine r_iload C dL_law_243 rfl ?_
        refine r_iload C dL_law_245 rfl ?_
        refine r_iload C dL_law_247 rfl ?_
        obtain ⟨r310, W311, h309, h⟩ := bd2_of h
        refine qV4_i C hR dL_law_249 lL_102 w5_request (rc_main (hN8 hN)) (ev5_request C.lt (hN8 hN) h309) rfl hc hs ?_
        refine r_iload C dL_law_252 rfl ?_
        refine x_icmpne (tgt := 264) C dL_law_254 rfl (fun c312 => ?_) (fun c312 => ?_)
        · replace h := ite_p c312 h
          refine r_aload_n C dL_law_257 rfl ?_
          obtain ⟨r314, h313, h⟩ := bd_of h
          refine qV0_i C hR dL_law_258 lL_127 w6_agrees (rc_own hN) (ev6_agrees C.lt hN h313) rfl hc hs ?_
          refine x_ifne (tgt := 266) C dL_law_261 rfl (fun c315 => ?_) (fun c315 => ?_)
          · replace h := ite_p c315 h
            refine r_iconst C dL_law_264 ?_
            exact nomatch h
          · replace h := ite_m c315 h
            refine r_goto (tgt := 494) C dL_law_266 rfl ?_
            refine x_iinc hx C dL_law_494 rfl rfl ?_
            refine r_goto (tgt := 52) C dL_law_497 rfl ?_
            cases h
            exact AtH.sw K ⟨rfl, rfl, rfl, rfl, rfl, trivial⟩
        · replace h := ite_m c312 h
          refine r_iconst C dL_law_264 ?_
          exact nomatch h
