set_option maxRecDepth 100000 in
theorem kX0_init : mX0_init.2.2.2.2.2.all (i_ckb mX0_init) = true := by decide +kernel
set_option maxRecDepth 100000 in
theorem kX0_hand : mX0_hand.2.2.2.2.2.all (i_ckb mX0_hand) = true := by decide +kernel
set_option maxRecDepth 100000 in
theorem kX0_pass : mX0_pass.2.2.2.2.2.all (i_ckb mX0_pass) = true := by decide +kernel
set_option maxRecDepth 100000 in
theorem kX0_tellHour : mX0_tellHour.2.2.2.2.2.all (i_ckb mX0_tellHour) = true := by decide +kernel
set_option maxRecDepth 100000 in
theorem kX0_tellThing : mX0_tellThing.2.2.2.2.2.all (i_ckb mX0_tellThing) = true := by decide +kernel
set_option maxRecDepth 100000 in
theorem kX1_init : mX1_init.2.2.2.2.2.all (i_ckb mX1_init) = true := by decide +kernel
set_option maxRecDepth 100000 in
theorem kX1_read : mX1_read.2.2.2.2.2.all (i_ckb mX1_read) = true := by decide +kernel
set_option maxRecDepth 100000 in
theorem kX1_readClause : mX1_readClause.2.2.2.2.2.all (i_ckb mX1_readClause) = true := by decide +kernel
set_option maxRecDepth 100000 in
theorem kX1_isOutOfPlace : mX1_isOutOfPlace.2.2.2.2.2.all (i_ckb mX1_isOutOfPlace) = true := by decide +kernel
set_option maxRecDepth 100000 in
theorem kX1_readCourt : mX1_readCourt.2.2.2.2.2.all (i_ckb mX1_readCourt) = true := by decide +kernel
set_option maxRecDepth 100000 in
theorem kX1_readThing : mX1_readThing.2.2.2.2.2.all (i_ckb mX1_readThing) = true := by decide +kernel
set_option maxRecDepth 100000 in
theorem kX1_readHolds : mX1_readHolds.2.2.2.2.2.all (i_ckb mX1_readHolds) = true := by decide +kernel
set_option maxRecDepth 100000 in
theorem kX1_readPerson : mX1_readPerson.2.2.2.2.2.all (i_ckb mX1_readPerson) = true := by decide +kernel
set_option maxRecDepth 100000 in
theorem kX1_readQuarrel : mX1_readQuarrel.2.2.2.2.2.all (i_ckb mX1_readQuarrel) = true := by decide +kernel
set_option maxRecDepth 100000 in
theorem kX2_placeOf : mX2_placeOf.2.2.2.2.2.all (i_ckb mX2_placeOf) = true := by decide +kernel
set_option maxRecDepth 100000 in
theorem kX2_fewestToStrip : mX2_fewestToStrip.2.2.2.2.2.all (i_ckb mX2_fewestToStrip) = true := by decide +kernel
set_option maxRecDepth 100000 in
theorem kX2_isPeaceWithout : mX2_isPeaceWithout.2.2.2.2.2.all (i_ckb mX2_isPeaceWithout) = true := by decide +kernel
set_option maxRecDepth 100000 in
theorem kX2_goldOf : mX2_goldOf.2.2.2.2.2.all (i_ckb mX2_goldOf) = true := by decide +kernel
set_option maxRecDepth 100000 in
theorem kX3_init : mX3_init.2.2.2.2.2.all (i_ckb mX3_init) = true := by decide +kernel
set_option maxRecDepth 100000 in
theorem kX3_hear : mX3_hear.2.2.2.2.2.all (i_ckb mX3_hear) = true := by decide +kernel
set_option maxRecDepth 100000 in
theorem kX3_playFromBegin : mX3_playFromBegin.2.2.2.2.2.all (i_ckb mX3_playFromBegin) = true := by decide +kernel
set_option maxRecDepth 100000 in
theorem kX3_areNotesSo : mX3_areNotesSo.2.2.2.2.2.all (i_ckb mX3_areNotesSo) = true := by decide +kernel
set_option maxRecDepth 100000 in
theorem kX3_first : mX3_first.2.2.2.2.2.all (i_ckb mX3_first) = true := by decide +kernel
set_option maxRecDepth 100000 in
theorem kX3_bestHour : mX3_bestHour.2.2.2.2.2.all (i_ckb mX3_bestHour) = true := by decide +kernel
set_option maxRecDepth 100000 in
theorem kX3_mostAlike : mX3_mostAlike.2.2.2.2.2.all (i_ckb mX3_mostAlike) = true := by decide +kernel
set_option maxRecDepth 100000 in
theorem kX4_init : mX4_init.2.2.2.2.2.all (i_ckb mX4_init) = true := by decide +kernel
set_option maxRecDepth 100000 in
theorem kX4_begin : mX4_begin.2.2.2.2.2.all (i_ckb mX4_begin) = true := by decide +kernel
set_option maxRecDepth 100000 in
theorem kX4_copyFrom : mX4_copyFrom.2.2.2.2.2.all (i_ckb mX4_copyFrom) = true := by decide +kernel
set_option maxRecDepth 100000 in
theorem kX4_thank : mX4_thank.2.2.2.2.2.all (i_ckb mX4_thank) = true := by decide +kernel
set_option maxRecDepth 100000 in
theorem kX4_hasTitle : mX4_hasTitle.2.2.2.2.2.all (i_ckb mX4_hasTitle) = true := by decide +kernel
set_option maxRecDepth 100000 in
theorem kX4_bearers : mX4_bearers.2.2.2.2.2.all (i_ckb mX4_bearers) = true := by decide +kernel
set_option maxRecDepth 100000 in
theorem kX4_knights : mX4_knights.2.2.2.2.2.all (i_ckb mX4_knights) = true := by decide +kernel
set_option maxRecDepth 100000 in
theorem kX5_init : mX5_init.2.2.2.2.2.all (i_ckb mX5_init) = true := by decide +kernel
set_option maxRecDepth 100000 in
theorem kX5_begin : mX5_begin.2.2.2.2.2.all (i_ckb mX5_begin) = true := by decide +kernel
set_option maxRecDepth 100000 in
theorem kX5_goOn : mX5_goOn.2.2.2.2.2.all (i_ckb mX5_goOn) = true := by decide +kernel
set_option maxRecDepth 100000 in
theorem kX5_after : mX5_after.2.2.2.2.2.all (i_ckb mX5_after) = true := by decide +kernel
set_option maxRecDepth 100000 in
theorem kX5_firstDubbing : mX5_firstDubbing.2.2.2.2.2.all (i_ckb mX5_firstDubbing) = true := by decide +kernel
set_option maxRecDepth 100000 in
theorem kX5_leastDeed : mX5_leastDeed.2.2.2.2.2.all (i_ckb mX5_leastDeed) = true := by decide +kernel
set_option maxRecDepth 100000 in
theorem kX5_fewestGloves : mX5_fewestGloves.2.2.2.2.2.all (i_ckb mX5_fewestGloves) = true := by decide +kernel
set_option maxRecDepth 100000 in
theorem kX5_isSpared : mX5_isSpared.2.2.2.2.2.all (i_ckb mX5_isSpared) = true := by decide +kernel
set_option maxRecDepth 100000 in
theorem kX5_bestTray : mX5_bestTray.2.2.2.2.2.all (i_ckb mX5_bestTray) = true := by decide +kernel
set_option maxRecDepth 100000 in
theorem kX5_timesHeld : mX5_timesHeld.2.2.2.2.2.all (i_ckb mX5_timesHeld) = true := by decide +kernel
set_option maxRecDepth 100000 in
theorem kX5_neverHeld : mX5_neverHeld.2.2.2.2.2.all (i_ckb mX5_neverHeld) = true := by decide +kernel
set_option maxRecDepth 100000 in
theorem kX5_playAllTwos : mX5_playAllTwos.2.2.2.2.2.all (i_ckb mX5_playAllTwos) = true := by decide +kernel
set_option maxRecDepth 100000 in
theorem kX5_restOfTwos : mX5_restOfTwos.2.2.2.2.2.all (i_ckb mX5_restOfTwos) = true := by decide +kernel
set_option maxRecDepth 100000 in
theorem kX5_isAtRest : mX5_isAtRest.2.2.2.2.2.all (i_ckb mX5_isAtRest) = true := by decide +kernel
set_option maxRecDepth 100000 in
theorem kX5_ringOfHours : mX5_ringOfHours.2.2.2.2.2.all (i_ckb mX5_ringOfHours) = true := by decide +kernel
set_option maxRecDepth 100000 in
theorem kX5_isAlike : mX5_isAlike.2.2.2.2.2.all (i_ckb mX5_isAlike) = true := by decide +kernel
set_option maxRecDepth 100000 in
theorem kX5_drawnYears : mX5_drawnYears.2.2.2.2.2.all (i_ckb mX5_drawnYears) = true := by decide +kernel
set_option maxRecDepth 100000 in
theorem kX5_nextDrawn : mX5_nextDrawn.2.2.2.2.2.all (i_ckb mX5_nextDrawn) = true := by decide +kernel
set_option maxRecDepth 100000 in
theorem kX6_init : mX6_init.2.2.2.2.2.all (i_ckb mX6_init) = true := by decide +kernel
set_option maxRecDepth 100000 in
theorem kX6_clear : mX6_clear.2.2.2.2.2.all (i_ckb mX6_clear) = true := by decide +kernel
set_option maxRecDepth 100000 in
theorem kX6_copyFrom : mX6_copyFrom.2.2.2.2.2.all (i_ckb mX6_copyFrom) = true := by decide +kernel
set_option maxRecDepth 100000 in
theorem kX6_hasThing : mX6_hasThing.2.2.2.2.2.all (i_ckb mX6_hasThing) = true := by decide +kernel
set_option maxRecDepth 100000 in
theorem kX6_hasPerson : mX6_hasPerson.2.2.2.2.2.all (i_ckb mX6_hasPerson) = true := by decide +kernel
set_option maxRecDepth 100000 in
theorem kX6_clockAt : mX6_clockAt.2.2.2.2.2.all (i_ckb mX6_clockAt) = true := by decide +kernel
set_option maxRecDepth 100000 in
theorem kX6_rankOf : mX6_rankOf.2.2.2.2.2.all (i_ckb mX6_rankOf) = true := by decide +kernel
set_option maxRecDepth 100000 in
theorem kX7_init : mX7_init.2.2.2.2.2.all (i_ckb mX7_init) = true := by decide +kernel
set_option maxRecDepth 100000 in
theorem kX7_worth : mX7_worth.2.2.2.2.2.all (i_ckb mX7_worth) = true := by decide +kernel
set_option maxRecDepth 100000 in
theorem kX7_outcome : mX7_outcome.2.2.2.2.2.all (i_ckb mX7_outcome) = true := by decide +kernel
set_option maxRecDepth 100000 in
theorem kX7_joined : mX7_joined.2.2.2.2.2.all (i_ckb mX7_joined) = true := by decide +kernel
set_option maxRecDepth 100000 in
theorem kX8_init : mX8_init.2.2.2.2.2.all (i_ckb mX8_init) = true := by decide +kernel
set_option maxRecDepth 100000 in
theorem kX8_read : mX8_read.2.2.2.2.2.all (i_ckb mX8_read) = true := by decide +kernel
set_option maxRecDepth 100000 in
theorem kX8_made : mX8_made.2.2.2.2.2.all (i_ckb mX8_made) = true := by decide +kernel
set_option maxRecDepth 100000 in
theorem kX8_openClause : mX8_openClause.2.2.2.2.2.all (i_ckb mX8_openClause) = true := by decide +kernel
set_option maxRecDepth 100000 in
theorem kX8_closeSum : mX8_closeSum.2.2.2.2.2.all (i_ckb mX8_closeSum) = true := by decide +kernel
set_option maxRecDepth 100000 in
theorem kX8_closeClause : mX8_closeClause.2.2.2.2.2.all (i_ckb mX8_closeClause) = true := by decide +kernel
set_option maxRecDepth 100000 in
theorem kX8_readTest : mX8_readTest.2.2.2.2.2.all (i_ckb mX8_readTest) = true := by decide +kernel
