set_option maxRecDepth 100000 in
theorem oX0_init : i_mok mX0_init (265, 96, 264, 0, 0) = true := by decide +kernel
set_option maxRecDepth 100000 in
theorem oX0_hand : i_mok mX0_hand (800, 96, 798, 799, 0) = true := by decide +kernel
set_option maxRecDepth 100000 in
theorem oX0_pass : i_mok mX0_pass (796, 96, 794, 795, 0) = true := by decide +kernel
set_option maxRecDepth 100000 in
theorem oX0_tellHour : i_mok mX0_tellHour (808, 96, 807, 19, 0) = true := by decide +kernel
set_option maxRecDepth 100000 in
theorem oX0_tellThing : i_mok mX0_tellThing (825, 96, 824, 20, 0) = true := by decide +kernel
set_option maxRecDepth 100000 in
theorem oX1_init : i_mok mX1_init (219, 94, 218, 0, 0) = true := by decide +kernel
set_option maxRecDepth 100000 in
theorem oX1_read : i_mok mX1_read (507, 94, 505, 506, 0) = true := by decide +kernel
set_option maxRecDepth 100000 in
theorem oX1_readClause : i_mok mX1_readClause (522, 94, 521, 0, 0) = true := by decide +kernel
set_option maxRecDepth 100000 in
theorem oX1_isOutOfPlace : i_mok mX1_isOutOfPlace (595, 94, 594, 3, 0) = true := by decide +kernel
set_option maxRecDepth 100000 in
theorem oX1_readCourt : i_mok mX1_readCourt (603, 94, 602, 4, 0) = true := by decide +kernel
set_option maxRecDepth 100000 in
theorem oX1_readThing : i_mok mX1_readThing (612, 94, 611, 5, 0) = true := by decide +kernel
set_option maxRecDepth 100000 in
theorem oX1_readHolds : i_mok mX1_readHolds (616, 94, 615, 6, 0) = true := by decide +kernel
set_option maxRecDepth 100000 in
theorem oX1_readPerson : i_mok mX1_readPerson (620, 94, 619, 7, 0) = true := by decide +kernel
set_option maxRecDepth 100000 in
theorem oX1_readQuarrel : i_mok mX1_readQuarrel (624, 94, 623, 8, 0) = true := by decide +kernel
set_option maxRecDepth 100000 in
theorem oX2_placeOf : i_mok mX2_placeOf (957, 111, 956, 0, 1) = true := by decide +kernel
set_option maxRecDepth 100000 in
theorem oX2_fewestToStrip : i_mok mX2_fewestToStrip (965, 111, 964, 0, 1) = true := by decide +kernel
set_option maxRecDepth 100000 in
theorem oX2_isPeaceWithout : i_mok mX2_isPeaceWithout (969, 111, 968, 0, 1) = true := by decide +kernel
set_option maxRecDepth 100000 in
theorem oX2_goldOf : i_mok mX2_goldOf (976, 111, 975, 0, 1) = true := by decide +kernel
set_option maxRecDepth 100000 in
theorem oX3_init : i_mok mX3_init (423, 100, 422, 0, 0) = true := by decide +kernel
set_option maxRecDepth 100000 in
theorem oX3_hear : i_mok mX3_hear (1016, 100, 1014, 1015, 0) = true := by decide +kernel
set_option maxRecDepth 100000 in
theorem oX3_playFromBegin : i_mok mX3_playFromBegin (1020, 100, 1019, 27, 0) = true := by decide +kernel
set_option maxRecDepth 100000 in
theorem oX3_areNotesSo : i_mok mX3_areNotesSo (1026, 100, 1025, 28, 0) = true := by decide +kernel
set_option maxRecDepth 100000 in
theorem oX3_first : i_mok mX3_first (1030, 100, 1028, 1029, 0) = true := by decide +kernel
set_option maxRecDepth 100000 in
theorem oX3_bestHour : i_mok mX3_bestHour (1038, 100, 1036, 1037, 0) = true := by decide +kernel
set_option maxRecDepth 100000 in
theorem oX3_mostAlike : i_mok mX3_mostAlike (1042, 100, 1041, 29, 0) = true := by decide +kernel
set_option maxRecDepth 100000 in
theorem oX4_init : i_mok mX4_init (290, 98, 289, 0, 0) = true := by decide +kernel
set_option maxRecDepth 100000 in
theorem oX4_begin : i_mok mX4_begin (640, 98, 638, 639, 0) = true := by decide +kernel
set_option maxRecDepth 100000 in
theorem oX4_copyFrom : i_mok mX4_copyFrom (792, 98, 790, 791, 0) = true := by decide +kernel
set_option maxRecDepth 100000 in
theorem oX4_thank : i_mok mX4_thank (841, 98, 839, 840, 0) = true := by decide +kernel
set_option maxRecDepth 100000 in
theorem oX4_hasTitle : i_mok mX4_hasTitle (870, 98, 868, 869, 0) = true := by decide +kernel
set_option maxRecDepth 100000 in
theorem oX4_bearers : i_mok mX4_bearers (764, 98, 762, 763, 0) = true := by decide +kernel
set_option maxRecDepth 100000 in
theorem oX4_knights : i_mok mX4_knights (815, 98, 813, 814, 0) = true := by decide +kernel
set_option maxRecDepth 100000 in
theorem oX5_init : i_mok mX5_init (396, 99, 395, 0, 0) = true := by decide +kernel
set_option maxRecDepth 100000 in
theorem oX5_begin : i_mok mX5_begin (890, 99, 889, 22, 0) = true := by decide +kernel
set_option maxRecDepth 100000 in
theorem oX5_goOn : i_mok mX5_goOn (895, 99, 894, 23, 0) = true := by decide +kernel
set_option maxRecDepth 100000 in
theorem oX5_after : i_mok mX5_after (886, 99, 884, 885, 0) = true := by decide +kernel
set_option maxRecDepth 100000 in
theorem oX5_firstDubbing : i_mok mX5_firstDubbing (905, 99, 903, 904, 0) = true := by decide +kernel
set_option maxRecDepth 100000 in
theorem oX5_leastDeed : i_mok mX5_leastDeed (913, 99, 911, 912, 0) = true := by decide +kernel
set_option maxRecDepth 100000 in
theorem oX5_fewestGloves : i_mok mX5_fewestGloves (923, 99, 921, 922, 0) = true := by decide +kernel
set_option maxRecDepth 100000 in
theorem oX5_isSpared : i_mok mX5_isSpared (928, 99, 927, 24, 0) = true := by decide +kernel
set_option maxRecDepth 100000 in
theorem oX5_bestTray : i_mok mX5_bestTray (937, 99, 935, 936, 0) = true := by decide +kernel
set_option maxRecDepth 100000 in
theorem oX5_timesHeld : i_mok mX5_timesHeld (950, 99, 948, 949, 0) = true := by decide +kernel
set_option maxRecDepth 100000 in
theorem oX5_neverHeld : i_mok mX5_neverHeld (946, 99, 944, 945, 0) = true := by decide +kernel
set_option maxRecDepth 100000 in
theorem oX5_playAllTwos : i_mok mX5_playAllTwos (984, 99, 982, 983, 0) = true := by decide +kernel
set_option maxRecDepth 100000 in
theorem oX5_restOfTwos : i_mok mX5_restOfTwos (988, 99, 986, 987, 0) = true := by decide +kernel
set_option maxRecDepth 100000 in
theorem oX5_isAtRest : i_mok mX5_isAtRest (992, 99, 991, 25, 0) = true := by decide +kernel
set_option maxRecDepth 100000 in
theorem oX5_ringOfHours : i_mok mX5_ringOfHours (1000, 99, 998, 999, 0) = true := by decide +kernel
set_option maxRecDepth 100000 in
theorem oX5_isAlike : i_mok mX5_isAlike (1004, 99, 1003, 26, 0) = true := by decide +kernel
set_option maxRecDepth 100000 in
theorem oX5_drawnYears : i_mok mX5_drawnYears (1056, 99, 1054, 1055, 0) = true := by decide +kernel
set_option maxRecDepth 100000 in
theorem oX5_nextDrawn : i_mok mX5_nextDrawn (1059, 99, 1058, 0, 1) = true := by decide +kernel
set_option maxRecDepth 100000 in
theorem oX6_init : i_mok mX6_init (151, 93, 150, 0, 0) = true := by decide +kernel
set_option maxRecDepth 100000 in
theorem oX6_clear : i_mok mX6_clear (515, 93, 513, 514, 0) = true := by decide +kernel
set_option maxRecDepth 100000 in
theorem oX6_copyFrom : i_mok mX6_copyFrom (633, 93, 631, 632, 0) = true := by decide +kernel
set_option maxRecDepth 100000 in
theorem oX6_hasThing : i_mok mX6_hasThing (760, 93, 758, 759, 0) = true := by decide +kernel
set_option maxRecDepth 100000 in
theorem oX6_hasPerson : i_mok mX6_hasPerson (776, 93, 774, 775, 0) = true := by decide +kernel
set_option maxRecDepth 100000 in
theorem oX6_clockAt : i_mok mX6_clockAt (804, 93, 802, 803, 0) = true := by decide +kernel
set_option maxRecDepth 100000 in
theorem oX6_rankOf : i_mok mX6_rankOf (780, 93, 778, 779, 0) = true := by decide +kernel
set_option maxRecDepth 100000 in
theorem oX7_init : i_mok mX7_init (734, 108, 733, 0, 0) = true := by decide +kernel
set_option maxRecDepth 100000 in
theorem oX7_worth : i_mok mX7_worth (830, 108, 828, 829, 0) = true := by decide +kernel
set_option maxRecDepth 100000 in
theorem oX7_outcome : i_mok mX7_outcome (834, 108, 833, 21, 0) = true := by decide +kernel
set_option maxRecDepth 100000 in
theorem oX7_joined : i_mok mX7_joined (837, 108, 836, 0, 1) = true := by decide +kernel
set_option maxRecDepth 100000 in
theorem oX8_init : i_mok mX8_init (232, 95, 231, 0, 0) = true := by decide +kernel
set_option maxRecDepth 100000 in
theorem oX8_read : i_mok mX8_read (651, 95, 649, 650, 0) = true := by decide +kernel
set_option maxRecDepth 100000 in
theorem oX8_made : i_mok mX8_made (715, 95, 713, 714, 0) = true := by decide +kernel
set_option maxRecDepth 100000 in
theorem oX8_openClause : i_mok mX8_openClause (656, 95, 655, 9, 0) = true := by decide +kernel
set_option maxRecDepth 100000 in
theorem oX8_closeSum : i_mok mX8_closeSum (684, 95, 683, 14, 0) = true := by decide +kernel
set_option maxRecDepth 100000 in
theorem oX8_closeClause : i_mok mX8_closeClause (711, 95, 710, 18, 0) = true := by decide +kernel
set_option maxRecDepth 100000 in
theorem oX8_readTest : i_mok mX8_readTest (695, 95, 694, 15, 0) = true := by decide +kernel
set_option maxRecDepth 100000 in
theorem oX8_readFact : i_mok mX8_readFact (699, 95, 698, 16, 0) = true := by decide +kernel
set_option maxRecDepth 100000 in
theorem oX8_readComparing : i_mok mX8_readComparing (704, 95, 703, 17, 0) = true := by decide +kernel
set_option maxRecDepth 100000 in
theorem oX8_readSum : i_mok mX8_readSum (664, 95, 663, 10, 0) = true := by decide +kernel
set_option maxRecDepth 100000 in
theorem oX8_readValue : i_mok mX8_readValue (668, 95, 667, 11, 0) = true := by decide +kernel
set_option maxRecDepth 100000 in
theorem oX8_countPart : i_mok mX8_countPart (676, 95, 675, 12, 0) = true := by decide +kernel
set_option maxRecDepth 100000 in
theorem oX8_write : i_mok mX8_write (680, 95, 679, 13, 0) = true := by decide +kernel
set_option maxRecDepth 100000 in
theorem oX9_init : i_mok mX9_init (124, 92, 123, 0, 0) = true := by decide +kernel
set_option maxRecDepth 100000 in
theorem oX9_append : i_mok mX9_append (495, 92, 493, 494, 0) = true := by decide +kernel
set_option maxRecDepth 100000 in
theorem oX9_rewind : i_mok mX9_rewind (511, 92, 509, 510, 0) = true := by decide +kernel
set_option maxRecDepth 100000 in
theorem oX9_refuse : i_mok mX9_refuse (591, 92, 589, 590, 0) = true := by decide +kernel
set_option maxRecDepth 100000 in
theorem oX9_sign : i_mok mX9_sign (531, 92, 529, 530, 0) = true := by decide +kernel
set_option maxRecDepth 100000 in
theorem oX9_takeSign : i_mok mX9_takeSign (629, 92, 627, 628, 0) = true := by decide +kernel
set_option maxRecDepth 100000 in
theorem oX9_number : i_mok mX9_number (607, 92, 605, 606, 0) = true := by decide +kernel
set_option maxRecDepth 100000 in
theorem oX9_wordIn : i_mok mX9_wordIn (527, 92, 525, 526, 0) = true := by decide +kernel
set_option maxRecDepth 100000 in
theorem oX9_takeWord : i_mok mX9_takeWord (689, 92, 687, 688, 0) = true := by decide +kernel
set_option maxRecDepth 100000 in
theorem oX9_skipWord : i_mok mX9_skipWord (599, 92, 597, 598, 0) = true := by decide +kernel
set_option maxRecDepth 100000 in
theorem oX9_wordEnd : i_mok mX9_wordEnd (535, 92, 534, 1, 0) = true := by decide +kernel
set_option maxRecDepth 100000 in
theorem oX9_isHere : i_mok mX9_isHere (587, 92, 586, 2, 0) = true := by decide +kernel
set_option maxRecDepth 100000 in
theorem oX10_init : i_mok mX10_init (282, 97, 281, 0, 0) = true := by decide +kernel
set_option maxRecDepth 100000 in
theorem oX10_remember : i_mok mX10_remember (788, 97, 786, 787, 0) = true := by decide +kernel
set_option maxRecDepth 100000 in
theorem oX10_takeBack : i_mok mX10_takeBack (878, 97, 876, 877, 0) = true := by decide +kernel
set_option maxRecDepth 100000 in
theorem oX10_copyFrom : i_mok mX10_copyFrom (1075, 97, 1073, 1074, 0) = true := by decide +kernel
set_option maxRecDepth 100000 in
theorem oX11_init : i_mok mX11_init (116, 91, 115, 0, 0) = true := by decide +kernel
set_option maxRecDepth 100000 in
theorem oX11_feed : i_mok mX11_feed (491, 91, 489, 490, 0) = true := by decide +kernel
set_option maxRecDepth 100000 in
theorem oX11_end : i_mok mX11_end (499, 91, 497, 498, 0) = true := by decide +kernel
set_option maxRecDepth 100000 in
theorem oX11_court : i_mok mX11_court (503, 91, 501, 502, 0) = true := by decide +kernel
set_option maxRecDepth 100000 in
theorem oX11_rule : i_mok mX11_rule (647, 91, 645, 646, 0) = true := by decide +kernel
set_option maxRecDepth 100000 in
theorem oX11_force : i_mok mX11_force (752, 91, 750, 751, 0) = true := by decide +kernel
set_option maxRecDepth 100000 in
theorem oX11_thing : i_mok mX11_thing (756, 91, 754, 755, 0) = true := by decide +kernel
set_option maxRecDepth 100000 in
theorem oX11_usual : i_mok mX11_usual (768, 91, 766, 767, 0) = true := by decide +kernel
set_option maxRecDepth 100000 in
theorem oX11_person : i_mok mX11_person (772, 91, 770, 771, 0) = true := by decide +kernel
set_option maxRecDepth 100000 in
theorem oX11_hour : i_mok mX11_hour (784, 91, 782, 783, 0) = true := by decide +kernel
set_option maxRecDepth 100000 in
theorem oX11_deed : i_mok mX11_deed (846, 91, 844, 845, 0) = true := by decide +kernel
set_option maxRecDepth 100000 in
theorem oX11_slight : i_mok mX11_slight (854, 91, 852, 853, 0) = true := by decide +kernel
set_option maxRecDepth 100000 in
theorem oX11_tray : i_mok mX11_tray (858, 91, 856, 857, 0) = true := by decide +kernel
set_option maxRecDepth 100000 in
theorem oX11_gloves : i_mok mX11_gloves (862, 91, 860, 861, 0) = true := by decide +kernel
set_option maxRecDepth 100000 in
theorem oX11_strip : i_mok mX11_strip (866, 91, 864, 865, 0) = true := by decide +kernel
set_option maxRecDepth 100000 in
theorem oX11_undo : i_mok mX11_undo (874, 91, 872, 873, 0) = true := by decide +kernel
set_option maxRecDepth 100000 in
theorem oX11_ahead : i_mok mX11_ahead (882, 91, 880, 881, 0) = true := by decide +kernel
set_option maxRecDepth 100000 in
theorem oX11_dubbed : i_mok mX11_dubbed (901, 91, 899, 900, 0) = true := by decide +kernel
set_option maxRecDepth 100000 in
theorem oX11_least : i_mok mX11_least (909, 91, 907, 908, 0) = true := by decide +kernel
set_option maxRecDepth 100000 in
theorem oX11_spare : i_mok mX11_spare (919, 91, 917, 918, 0) = true := by decide +kernel
set_option maxRecDepth 100000 in
theorem oX11_lay : i_mok mX11_lay (933, 91, 931, 932, 0) = true := by decide +kernel
set_option maxRecDepth 100000 in
theorem oX11_held : i_mok mX11_held (942, 91, 940, 941, 0) = true := by decide +kernel
set_option maxRecDepth 100000 in
theorem oX11_place : i_mok mX11_place (954, 91, 952, 953, 0) = true := by decide +kernel
set_option maxRecDepth 100000 in
theorem oX11_stripped : i_mok mX11_stripped (962, 91, 960, 961, 0) = true := by decide +kernel
set_option maxRecDepth 100000 in
theorem oX11_gold : i_mok mX11_gold (973, 91, 971, 972, 0) = true := by decide +kernel
set_option maxRecDepth 100000 in
theorem oX11_rests : i_mok mX11_rests (980, 91, 978, 979, 0) = true := by decide +kernel
