theorem okT0 : mv_Tchk RX0 tT0 sysX [209, 210, 211, 212, 213, 214, 215, 216, 217, 218, 219, 220, 221, 222, 223, 224] [840, 841, 842] [1124] [686, 690, 788, 792, 796, 870, 871, 959, 1125] = true := by decide +kernel
theorem okT1 : mv_Tchk RX1 tT1 sysX [190, 191, 192, 193] [] [] [476, 477, 481, 485, 489, 493, 497, 501, 505, 509, 513, 516, 520, 524, 528, 531, 535, 539, 544, 548, 552, 556, 560, 564, 568, 571, 575, 578, 594, 597, 600, 604, 608, 612, 616, 620, 624, 628, 632, 636, 640, 644, 648] = true := by decide +kernel
theorem okT2 : mv_Tchk RX2 tT2 sysX [143, 144, 145, 146, 147, 148, 149, 150, 151, 152, 153, 154, 155] [] [] [429, 456, 543, 582, 583, 587, 588, 591, 668] = true := by decide +kernel
theorem okT3 : mv_Tchk RX3 tT3 sysX [] [] [] [] = true := by decide +kernel
theorem okT4 : mv_Tchk RX4 tT4 sysX [348, 349, 350, 351, 352] [] [] [699, 718, 722, 726, 727, 730, 735, 739, 743, 744, 761, 765, 773, 777, 800, 804, 816] = true := by decide +kernel
theorem okT5 : mv_Tchk RX5 tT5 sysX [290, 291, 292, 293, 294, 295, 296, 297, 298, 299, 300, 301, 302, 303, 304, 305, 306] [] [937] [441, 444, 681, 682, 694, 734, 748, 752, 756, 760, 769, 781, 784, 808, 809, 812, 820, 824, 828, 832, 872, 884, 898, 902, 906, 910, 911, 915, 919, 923, 924, 928, 932, 933, 938, 942, 946, 950, 954, 955, 960, 964, 1138] = true := by decide +kernel
theorem okT6 : mv_Tchk RX6 tT6 sysX [] [] [] [] = true := by decide +kernel
theorem okT7 : mv_Tchk RX7 tT7 sysX [270, 271, 272, 273, 274, 275] [] [] [836, 843, 844, 848, 852, 856, 860, 861, 862, 866, 876, 880, 888, 892, 893, 897] = true := by decide +kernel
theorem okT8 : mv_Tchk RX8 tT8 sysX [370, 371, 372, 373, 374, 375, 376, 377, 378] [985] [] [976, 980, 984, 986, 987, 988, 992, 996, 1000, 1001, 1005, 1009, 1013, 1017, 1018, 1019, 1023, 1027, 1031, 1032, 1036, 1037, 1041, 1045, 1049, 1053, 1054, 1055, 1059, 1060, 1061, 1062, 1066, 1070, 1071, 1075, 1076, 1080, 1084, 1085, 1089, 1090, 1091, 1092] = true := by decide +kernel
theorem okT9 : mv_Tchk RX9 tT9 sysX [] [] [] [] = true := by decide +kernel
theorem okT10 : mv_Tchk RX10 tT10 sysX [402, 403, 404, 405, 406, 407] [] [] [398, 425, 433, 437, 452, 459, 463, 464, 472, 656, 664, 673, 677, 695, 707, 710, 714, 972, 1097, 1105, 1113, 1118, 1119, 1120, 1126, 1127, 1132, 1133, 1134, 1142, 1146, 1147, 1151] = true := by decide +kernel
theorem okD_mX0_furnish : mv_dchk mX0_furnish = true := by decide +kernel
theorem ok_mX0_furnish : mv_mok sysX mX0_furnish := mv_mok_of (hc := 401) (h2 := 399) (h3 := 400) (hi := 120) okD_mX0_furnish (mv_Tok_of okT0) (by decide +kernel)
theorem okD_mX0_giveBackAll : mv_dchk mX0_giveBackAll = true := by decide +kernel
theorem ok_mX0_giveBackAll : mv_mok sysX mX0_giveBackAll := mv_mok_of (hc := 685) (h2 := 683) (h3 := 684) (hi := 120) okD_mX0_giveBackAll (mv_Tok_of okT0) (by decide +kernel)
theorem okD_mX0_key : mv_dchk mX0_key = true := by decide +kernel
theorem ok_mX0_key : mv_mok sysX mX0_key := mv_mok_of (hc := 791) (h2 := 789) (h3 := 790) (hi := 120) okD_mX0_key (mv_Tok_of okT0) (by decide +kernel)
theorem okD_mX0_value : mv_dchk mX0_value = true := by decide +kernel
theorem ok_mX0_value : mv_mok sysX mX0_value := mv_mok_of (hc := 815) (h2 := 813) (h3 := 814) (hi := 120) okD_mX0_value (mv_Tok_of okT0) (by decide +kernel)
theorem okD_mX0_rank : mv_dchk mX0_rank = true := by decide +kernel
theorem ok_mX0_rank : mv_mok sysX mX0_rank := mv_mok_of (hc := 847) (h2 := 845) (h3 := 846) (hi := 120) okD_mX0_rank (mv_Tok_of okT0) (by decide +kernel)
theorem okD_mX0_lesser : mv_dchk mX0_lesser = true := by decide +kernel
theorem ok_mX0_lesser : mv_mok sysX mX0_lesser := mv_mok_of (hc := 795) (h2 := 793) (h3 := 794) (hi := 120) okD_mX0_lesser (mv_Tok_of okT0) (by decide +kernel)
theorem okD_mX0_greater : mv_dchk mX0_greater = true := by decide +kernel
theorem ok_mX0_greater : mv_mok sysX mX0_greater := mv_mok_of (hc := 799) (h2 := 797) (h3 := 798) (hi := 120) okD_mX0_greater (mv_Tok_of okT0) (by decide +kernel)
theorem okD_mX0_rankOf : mv_dchk mX0_rankOf = true := by decide +kernel
theorem ok_mX0_rankOf : mv_mok sysX mX0_rankOf := mv_mok_of (hc := 839) (h2 := 837) (h3 := 838) (hi := 120) okD_mX0_rankOf (mv_Tok_of okT0) (by decide +kernel)
theorem okD_mX0_beginMaking : mv_dchk mX0_beginMaking = true := by decide +kernel
theorem ok_mX0_beginMaking : mv_mok sysX mX0_beginMaking := mv_mok_of (hc := 831) (h2 := 829) (h3 := 830) (hi := 120) okD_mX0_beginMaking (mv_Tok_of okT0) (by decide +kernel)
theorem okD_mX0_copy : mv_dchk mX0_copy = true := by decide +kernel
theorem ok_mX0_copy : mv_mok sysX mX0_copy := mv_mok_of (hc := 855) (h2 := 853) (h3 := 854) (hi := 120) okD_mX0_copy (mv_Tok_of okT0) (by decide +kernel)
theorem okD_mX0_make : mv_dchk mX0_make = true := by decide +kernel
theorem ok_mX0_make : mv_mok sysX mX0_make := mv_mok_of (hc := 869) (h2 := 867) (h3 := 868) (hi := 120) okD_mX0_make (mv_Tok_of okT0) (by decide +kernel)
theorem okD_mX0_hang : mv_dchk mX0_hang = true := by decide +kernel
theorem ok_mX0_hang : mv_mok sysX mX0_hang := mv_mok_of (hc := 859) (h2 := 857) (h3 := 858) (hi := 120) okD_mX0_hang (mv_Tok_of okT0) (by decide +kernel)
theorem okD_mX0_over : mv_dchk mX0_over = true := by decide +kernel
theorem ok_mX0_over : mv_mok sysX mX0_over := mv_mok_of (hc := 896) (h2 := 894) (h3 := 895) (hi := 120) okD_mX0_over (mv_Tok_of okT0) (by decide +kernel)
theorem okD_mX0_made : mv_dchk mX0_made = true := by decide +kernel
theorem ok_mX0_made : mv_mok sysX mX0_made := mv_mok_of (hc := 927) (h2 := 925) (h3 := 926) (hi := 120) okD_mX0_made (mv_Tok_of okT0) (by decide +kernel)
theorem okD_mX0_surelyFits : mv_dchk mX0_surelyFits = true := by decide +kernel
theorem ok_mX0_surelyFits : mv_mok sysX mX0_surelyFits := mv_mok_of (hc := 905) (h2 := 903) (h3 := 904) (hi := 120) okD_mX0_surelyFits (mv_Tok_of okT0) (by decide +kernel)
theorem okD_mX0_fits : mv_dchk mX0_fits = true := by decide +kernel
theorem ok_mX0_fits : mv_mok sysX mX0_fits := mv_mok_of (hc := 918) (h2 := 916) (h3 := 917) (hi := 120) okD_mX0_fits (mv_Tok_of okT0) (by decide +kernel)
theorem okD_mX0_undo : mv_dchk mX0_undo = true := by decide +kernel
theorem ok_mX0_undo : mv_mok sysX mX0_undo := mv_mok_of (hc := 922) (h2 := 920) (h3 := 921) (hi := 120) okD_mX0_undo (mv_Tok_of okT0) (by decide +kernel)
theorem okD_mX0_beginReaching : mv_dchk mX0_beginReaching = true := by decide +kernel
theorem ok_mX0_beginReaching : mv_mok sysX mX0_beginReaching := mv_mok_of (hc := 689) (h2 := 687) (h3 := 688) (hi := 120) okD_mX0_beginReaching (mv_Tok_of okT0) (by decide +kernel)
theorem okD_mX0_reached : mv_dchk mX0_reached = true := by decide +kernel
theorem ok_mX0_reached : mv_mok sysX mX0_reached := mv_mok_of (hc := 1141) (h2 := 1139) (h3 := 1140) (hi := 120) okD_mX0_reached (mv_Tok_of okT0) (by decide +kernel)
theorem okD_mX0_reach : mv_dchk mX0_reach = true := by decide +kernel
theorem ok_mX0_reach : mv_mok sysX mX0_reach := mv_mok_of (hc := 914) (h2 := 912) (h3 := 913) (hi := 120) okD_mX0_reach (mv_Tok_of okT0) (by decide +kernel)
theorem okD_mX0_giveBackUnreached : mv_dchk mX0_giveBackUnreached = true := by decide +kernel
theorem ok_mX0_giveBackUnreached : mv_mok sysX mX0_giveBackUnreached := mv_mok_of (hc := 693) (h2 := 691) (h3 := 692) (hi := 120) okD_mX0_giveBackUnreached (mv_Tok_of okT0) (by decide +kernel)
theorem okD_mX0_size : mv_dchk mX0_size = true := by decide +kernel
theorem ok_mX0_size : mv_mok sysX mX0_size := mv_mok_of (hc := 958) (h2 := 956) (h3 := 957) (hi := 120) okD_mX0_size (mv_Tok_of okT0) (by decide +kernel)
theorem okD_mX0_find : mv_dchk mX0_find = true := by decide +kernel
theorem ok_mX0_find : mv_mok sysX mX0_find := mv_mok_of (hc := 879) (h2 := 877) (h3 := 878) (hi := 120) okD_mX0_find (mv_Tok_of okT0) (by decide +kernel)
theorem okD_mX0_least : mv_dchk mX0_least = true := by decide +kernel
theorem ok_mX0_least : mv_mok sysX mX0_least := mv_mok_of (hc := 787) (h2 := 785) (h3 := 786) (hi := 120) okD_mX0_least (mv_Tok_of okT0) (by decide +kernel)
theorem okD_mX0_floor : mv_dchk mX0_floor = true := by decide +kernel
theorem ok_mX0_floor : mv_mok sysX mX0_floor := mv_mok_of (hc := 967) (h2 := 965) (h3 := 966) (hi := 120) okD_mX0_floor (mv_Tok_of okT0) (by decide +kernel)
theorem okD_mX0_nth : mv_dchk mX0_nth = true := by decide +kernel
theorem ok_mX0_nth : mv_mok sysX mX0_nth := mv_mok_of (hc := 1123) (h2 := 1121) (h3 := 1122) (hi := 120) okD_mX0_nth (mv_Tok_of okT0) (by decide +kernel)
theorem okD_mX1_translate : mv_dchk mX1_translate = true := by decide +kernel
theorem ok_mX1_translate : mv_mok sysX mX1_translate := mv_mok_of (hc := 475) (h2 := 473) (h3 := 474) (hi := 119) okD_mX1_translate (mv_Tok_of okT1) (by decide +kernel)
theorem okD_mX1_fail : mv_dchk mX1_fail = true := by decide +kernel
theorem ok_mX1_fail : mv_mok sysX mX1_fail := mv_mok_of (hc := 504) (h2 := 503) (h3 := 4) (hi := 119) okD_mX1_fail (mv_Tok_of okT1) (by decide +kernel)
theorem okD_mX1_functions : mv_dchk mX1_functions = true := by decide +kernel
theorem ok_mX1_functions : mv_mok sysX mX1_functions := mv_mok_of (hc := 480) (h2 := 479) (h3 := 1) (hi := 119) okD_mX1_functions (mv_Tok_of okT1) (by decide +kernel)
theorem okD_mX1_mainPart : mv_dchk mX1_mainPart = true := by decide +kernel
theorem ok_mX1_mainPart : mv_mok sysX mX1_mainPart := mv_mok_of (hc := 635) (h2 := 634) (h3 := 21) (hi := 119) okD_mX1_mainPart (mv_Tok_of okT1) (by decide +kernel)
theorem okD_mX1_passEnd : mv_dchk mX1_passEnd = true := by decide +kernel
theorem ok_mX1_passEnd : mv_mok sysX mX1_passEnd := mv_mok_of (hc := 611) (h2 := 610) (h3 := 16) (hi := 119) okD_mX1_passEnd (mv_Tok_of okT1) (by decide +kernel)
theorem okD_mX1_bare : mv_dchk mX1_bare = true := by decide +kernel
theorem ok_mX1_bare : mv_mok sysX mX1_bare := mv_mok_of (hc := 496) (h2 := 495) (h3 := 3) (hi := 119) okD_mX1_bare (mv_Tok_of okT1) (by decide +kernel)
theorem okD_mX1_anyNumber : mv_dchk mX1_anyNumber = true := by decide +kernel
theorem ok_mX1_anyNumber : mv_mok sysX mX1_anyNumber := mv_mok_of (hc := 563) (h2 := 562) (h3 := 13) (hi := 119) okD_mX1_anyNumber (mv_Tok_of okT1) (by decide +kernel)
theorem okD_mX1_newFunction : mv_dchk mX1_newFunction = true := by decide +kernel
theorem ok_mX1_newFunction : mv_mok sysX mX1_newFunction := mv_mok_of (hc := 488) (h2 := 487) (h3 := 2) (hi := 119) okD_mX1_newFunction (mv_Tok_of okT1) (by decide +kernel)
theorem okD_mX1_knownFunction : mv_dchk mX1_knownFunction = true := by decide +kernel
theorem ok_mX1_knownFunction : mv_mok sysX mX1_knownFunction := mv_mok_of (hc := 559) (h2 := 558) (h3 := 12) (hi := 119) okD_mX1_knownFunction (mv_Tok_of okT1) (by decide +kernel)
theorem okD_mX1_block : mv_dchk mX1_block = true := by decide +kernel
theorem ok_mX1_block : mv_mok sysX mX1_block := mv_mok_of (hc := 512) (h2 := 511) (h3 := 5) (hi := 119) okD_mX1_block (mv_Tok_of okT1) (by decide +kernel)
theorem okD_mX1_statement : mv_dchk mX1_statement = true := by decide +kernel
theorem ok_mX1_statement : mv_mok sysX mX1_statement := mv_mok_of (hc := 519) (h2 := 518) (h3 := 6) (hi := 119) okD_mX1_statement (mv_Tok_of okT1) (by decide +kernel)
theorem okD_mX1_finishStatement : mv_dchk mX1_finishStatement = true := by decide +kernel
theorem ok_mX1_finishStatement : mv_mok sysX mX1_finishStatement := mv_mok_of (hc := 631) (h2 := 630) (h3 := 20) (hi := 119) okD_mX1_finishStatement (mv_Tok_of okT1) (by decide +kernel)
theorem okD_mX1_choice : mv_dchk mX1_choice = true := by decide +kernel
theorem ok_mX1_choice : mv_mok sysX mX1_choice := mv_mok_of (hc := 523) (h2 := 522) (h3 := 7) (hi := 119) okD_mX1_choice (mv_Tok_of okT1) (by decide +kernel)
theorem okD_mX1_repetition : mv_dchk mX1_repetition = true := by decide +kernel
theorem ok_mX1_repetition : mv_mok sysX mX1_repetition := mv_mok_of (hc := 615) (h2 := 614) (h3 := 17) (hi := 119) okD_mX1_repetition (mv_Tok_of okT1) (by decide +kernel)
theorem okD_mX1_eachKey : mv_dchk mX1_eachKey = true := by decide +kernel
theorem ok_mX1_eachKey : mv_mok sysX mX1_eachKey := mv_mok_of (hc := 627) (h2 := 626) (h3 := 19) (hi := 119) okD_mX1_eachKey (mv_Tok_of okT1) (by decide +kernel)
theorem okD_mX1_loopRest : mv_dchk mX1_loopRest = true := by decide +kernel
theorem ok_mX1_loopRest : mv_mok sysX mX1_loopRest := mv_mok_of (hc := 623) (h2 := 622) (h3 := 18) (hi := 119) okD_mX1_loopRest (mv_Tok_of okT1) (by decide +kernel)
theorem okD_mX1_numberPart : mv_dchk mX1_numberPart = true := by decide +kernel
theorem ok_mX1_numberPart : mv_mok sysX mX1_numberPart := mv_mok_of (hc := 527) (h2 := 526) (h3 := 8) (hi := 119) okD_mX1_numberPart (mv_Tok_of okT1) (by decide +kernel)
theorem okD_mX1_mapPart : mv_dchk mX1_mapPart = true := by decide +kernel
theorem ok_mX1_mapPart : mv_mok sysX mX1_mapPart := mv_mok_of (hc := 574) (h2 := 573) (h3 := 15) (hi := 119) okD_mX1_mapPart (mv_Tok_of okT1) (by decide +kernel)
theorem okD_mX1_shortcut : mv_dchk mX1_shortcut = true := by decide +kernel
theorem ok_mX1_shortcut : mv_mok sysX mX1_shortcut := mv_mok_of (hc := 534) (h2 := 533) (h3 := 9) (hi := 119) okD_mX1_shortcut (mv_Tok_of okT1) (by decide +kernel)
theorem okD_mX1_plain : mv_dchk mX1_plain = true := by decide +kernel
theorem ok_mX1_plain : mv_mok sysX mX1_plain := mv_mok_of (hc := 551) (h2 := 550) (h3 := 10) (hi := 119) okD_mX1_plain (mv_Tok_of okT1) (by decide +kernel)
theorem okD_mX1_argument : mv_dchk mX1_argument = true := by decide +kernel
theorem ok_mX1_argument : mv_mok sysX mX1_argument := mv_mok_of (hc := 555) (h2 := 554) (h3 := 11) (hi := 119) okD_mX1_argument (mv_Tok_of okT1) (by decide +kernel)
theorem okD_mX1_parts : mv_dchk mX1_parts = true := by decide +kernel
theorem ok_mX1_parts : mv_mok sysX mX1_parts := mv_mok_of (hc := 567) (h2 := 566) (h3 := 14) (hi := 119) okD_mX1_parts (mv_Tok_of okT1) (by decide +kernel)
theorem okD_mX2_clear : mv_dchk mX2_clear = true := by decide +kernel
theorem ok_mX2_clear : mv_mok sysX mX2_clear := mv_mok_of (hc := 428) (h2 := 426) (h3 := 427) (hi := 118) okD_mX2_clear (mv_Tok_of okT2) (by decide +kernel)
theorem okD_mX2_add : mv_dchk mX2_add = true := by decide +kernel
theorem ok_mX2_add : mv_mok sysX mX2_add := mv_mok_of (hc := 455) (h2 := 453) (h3 := 454) (hi := 118) okD_mX2_add (mv_Tok_of okT2) (by decide +kernel)
theorem okD_mX2_forgetCode : mv_dchk mX2_forgetCode = true := by decide +kernel
theorem ok_mX2_forgetCode : mv_mok sysX mX2_forgetCode := mv_mok_of (hc := 432) (h2 := 430) (h3 := 431) (hi := 118) okD_mX2_forgetCode (mv_Tok_of okT2) (by decide +kernel)
theorem okD_mX2_accept : mv_dchk mX2_accept = true := by decide +kernel
theorem ok_mX2_accept : mv_mok sysX mX2_accept := mv_mok_of (hc := 647) (h2 := 645) (h3 := 646) (hi := 118) okD_mX2_accept (mv_Tok_of okT2) (by decide +kernel)
theorem okD_mX2_refuse : mv_dchk mX2_refuse = true := by decide +kernel
theorem ok_mX2_refuse : mv_mok sysX mX2_refuse := mv_mok_of (hc := 643) (h2 := 641) (h3 := 642) (hi := 118) okD_mX2_refuse (mv_Tok_of okT2) (by decide +kernel)
theorem okD_mX2_size : mv_dchk mX2_size = true := by decide +kernel
theorem ok_mX2_size : mv_mok sysX mX2_size := mv_mok_of (hc := 467) (h2 := 465) (h3 := 466) (hi := 118) okD_mX2_size (mv_Tok_of okT2) (by decide +kernel)
theorem okD_mX2_ready : mv_dchk mX2_ready = true := by decide +kernel
theorem ok_mX2_ready : mv_mok sysX mX2_ready := mv_mok_of (hc := 676) (h2 := 674) (h3 := 675) (hi := 118) okD_mX2_ready (mv_Tok_of okT2) (by decide +kernel)
theorem okD_mX2_faultPlace : mv_dchk mX2_faultPlace = true := by decide +kernel
theorem ok_mX2_faultPlace : mv_mok sysX mX2_faultPlace := mv_mok_of (hc := 659) (h2 := 657) (h3 := 658) (hi := 118) okD_mX2_faultPlace (mv_Tok_of okT2) (by decide +kernel)
theorem okD_mX2_hasToken : mv_dchk mX2_hasToken = true := by decide +kernel
theorem ok_mX2_hasToken : mv_mok sysX mX2_hasToken := mv_mok_of (hc := 500) (h2 := 498) (h3 := 499) (hi := 118) okD_mX2_hasToken (mv_Tok_of okT2) (by decide +kernel)
theorem okD_mX2_token : mv_dchk mX2_token = true := by decide +kernel
theorem ok_mX2_token : mv_mok sysX mX2_token := mv_mok_of (hc := 484) (h2 := 482) (h3 := 483) (hi := 118) okD_mX2_token (mv_Tok_of okT2) (by decide +kernel)
theorem okD_mX2_behind : mv_dchk mX2_behind = true := by decide +kernel
theorem ok_mX2_behind : mv_mok sysX mX2_behind := mv_mok_of (hc := 1004) (h2 := 1002) (h3 := 1003) (hi := 118) okD_mX2_behind (mv_Tok_of okT2) (by decide +kernel)
theorem okD_mX2_setBehind : mv_dchk mX2_setBehind = true := by decide +kernel
theorem ok_mX2_setBehind : mv_mok sysX mX2_setBehind := mv_mok_of (hc := 603) (h2 := 601) (h3 := 602) (hi := 118) okD_mX2_setBehind (mv_Tok_of okT2) (by decide +kernel)
theorem okD_mX2_turn : mv_dchk mX2_turn = true := by decide +kernel
theorem ok_mX2_turn : mv_mok sysX mX2_turn := mv_mok_of (hc := 1035) (h2 := 1033) (h3 := 1034) (hi := 118) okD_mX2_turn (mv_Tok_of okT2) (by decide +kernel)
theorem okD_mX2_setTurn : mv_dchk mX2_setTurn = true := by decide +kernel
theorem ok_mX2_setTurn : mv_mok sysX mX2_setTurn := mv_mok_of (hc := 607) (h2 := 605) (h3 := 606) (hi := 118) okD_mX2_setTurn (mv_Tok_of okT2) (by decide +kernel)
theorem okD_mX2_hasFunction : mv_dchk mX2_hasFunction = true := by decide +kernel
theorem ok_mX2_hasFunction : mv_mok sysX mX2_hasFunction := mv_mok_of (hc := 492) (h2 := 490) (h3 := 491) (hi := 118) okD_mX2_hasFunction (mv_Tok_of okT2) (by decide +kernel)
theorem okD_mX2_addFunction : mv_dchk mX2_addFunction = true := by decide +kernel
theorem ok_mX2_addFunction : mv_mok sysX mX2_addFunction := mv_mok_of (hc := 508) (h2 := 506) (h3 := 507) (hi := 118) okD_mX2_addFunction (mv_Tok_of okT2) (by decide +kernel)
theorem okD_mX2_addMain : mv_dchk mX2_addMain = true := by decide +kernel
theorem ok_mX2_addMain : mv_mok sysX mX2_addMain := mv_mok_of (hc := 639) (h2 := 637) (h3 := 638) (hi := 118) okD_mX2_addMain (mv_Tok_of okT2) (by decide +kernel)
theorem okD_mX2_parameters : mv_dchk mX2_parameters = true := by decide +kernel
theorem ok_mX2_parameters : mv_mok sysX mX2_parameters := mv_mok_of (hc := 586) (h2 := 584) (h3 := 585) (hi := 118) okD_mX2_parameters (mv_Tok_of okT2) (by decide +kernel)
theorem okD_mX2_firstWord : mv_dchk mX2_firstWord = true := by decide +kernel
theorem ok_mX2_firstWord : mv_mok sysX mX2_firstWord := mv_mok_of (hc := 764) (h2 := 762) (h3 := 763) (hi := 118) okD_mX2_firstWord (mv_Tok_of okT2) (by decide +kernel)
theorem okD_mX2_firstToken : mv_dchk mX2_firstToken = true := by decide +kernel
theorem ok_mX2_firstToken : mv_mok sysX mX2_firstToken := mv_mok_of (hc := 1079) (h2 := 1077) (h3 := 1078) (hi := 118) okD_mX2_firstToken (mv_Tok_of okT2) (by decide +kernel)
theorem okD_mX2_mainWord : mv_dchk mX2_mainWord = true := by decide +kernel
theorem ok_mX2_mainWord : mv_mok sysX mX2_mainWord := mv_mok_of (hc := 702) (h2 := 700) (h3 := 701) (hi := 118) okD_mX2_mainWord (mv_Tok_of okT2) (by decide +kernel)
theorem okD_mX2_mainToken : mv_dchk mX2_mainToken = true := by decide +kernel
theorem ok_mX2_mainToken : mv_mok sysX mX2_mainToken := mv_mok_of (hc := 979) (h2 := 977) (h3 := 978) (hi := 118) okD_mX2_mainToken (mv_Tok_of okT2) (by decide +kernel)
theorem okD_mX2_numbers : mv_dchk mX2_numbers = true := by decide +kernel
theorem ok_mX2_numbers : mv_mok sysX mX2_numbers := mv_mok_of (hc := 581) (h2 := 579) (h3 := 580) (hi := 118) okD_mX2_numbers (mv_Tok_of okT2) (by decide +kernel)
theorem okD_mX2_emit : mv_dchk mX2_emit = true := by decide +kernel
theorem ok_mX2_emit : mv_mok sysX mX2_emit := mv_mok_of (hc := 538) (h2 := 536) (h3 := 537) (hi := 118) okD_mX2_emit (mv_Tok_of okT2) (by decide +kernel)
theorem okD_mX2_emitHole : mv_dchk mX2_emitHole = true := by decide +kernel
theorem ok_mX2_emitHole : mv_mok sysX mX2_emitHole := mv_mok_of (hc := 542) (h2 := 540) (h3 := 541) (hi := 118) okD_mX2_emitHole (mv_Tok_of okT2) (by decide +kernel)
theorem okD_mX2_fillHole : mv_dchk mX2_fillHole = true := by decide +kernel
theorem ok_mX2_fillHole : mv_mok sysX mX2_fillHole := mv_mok_of (hc := 547) (h2 := 545) (h3 := 546) (hi := 118) okD_mX2_fillHole (mv_Tok_of okT2) (by decide +kernel)
theorem okD_mX2_emitted : mv_dchk mX2_emitted = true := by decide +kernel
theorem ok_mX2_emitted : mv_mok sysX mX2_emitted := mv_mok_of (hc := 619) (h2 := 617) (h3 := 618) (hi := 118) okD_mX2_emitted (mv_Tok_of okT2) (by decide +kernel)
theorem okD_mX2_wordCount : mv_dchk mX2_wordCount = true := by decide +kernel
theorem ok_mX2_wordCount : mv_mok sysX mX2_wordCount := mv_mok_of (hc := 651) (h2 := 649) (h3 := 650) (hi := 118) okD_mX2_wordCount (mv_Tok_of okT2) (by decide +kernel)
theorem okD_mX2_word : mv_dchk mX2_word = true := by decide +kernel
theorem ok_mX2_word : mv_mok sysX mX2_word := mv_mok_of (hc := 667) (h2 := 665) (h3 := 666) (hi := 118) okD_mX2_word (mv_Tok_of okT2) (by decide +kernel)
theorem okD_mX3_at : mv_dchk mX3_at = true := by decide +kernel
theorem ok_mX3_at : mv_mok sysX mX3_at := mv_mok_of (hc := 590) (h2 := 589) (h3 := 0) (hi := 126) okD_mX3_at (mv_Tok_of okT3) (by decide +kernel)
theorem okD_mX3_at_ : mv_dchk mX3_at_ = true := by decide +kernel
theorem ok_mX3_at_ : mv_mok sysX mX3_at_ := mv_mok_of (hc := 783) (h2 := 782) (h3 := 0) (hi := 126) okD_mX3_at_ (mv_Tok_of okT3) (by decide +kernel)
theorem okD_mX3_set : mv_dchk mX3_set = true := by decide +kernel
theorem ok_mX3_set : mv_mok sysX mX3_set := mv_mok_of (hc := 458) (h2 := 457) (h3 := 0) (hi := 126) okD_mX3_set (mv_Tok_of okT3) (by decide +kernel)
theorem okD_mX3_set_ : mv_dchk mX3_set_ = true := by decide +kernel
theorem ok_mX3_set_ : mv_mok sysX mX3_set_ := mv_mok_of (hc := 811) (h2 := 810) (h3 := 0) (hi := 126) okD_mX3_set_ (mv_Tok_of okT3) (by decide +kernel)
theorem okD_mX3_zero : mv_dchk mX3_zero = true := by decide +kernel
theorem ok_mX3_zero : mv_mok sysX mX3_zero := mv_mok_of (hc := 443) (h2 := 442) (h3 := 0) (hi := 126) okD_mX3_zero (mv_Tok_of okT3) (by decide +kernel)
theorem okD_mX4_begin : mv_dchk mX4_begin = true := by decide +kernel
theorem ok_mX4_begin : mv_mok sysX mX4_begin := mv_mok_of (hc := 698) (h2 := 696) (h3 := 697) (hi := 123) okD_mX4_begin (mv_Tok_of okT4) (by decide +kernel)
theorem okD_mX4_drop : mv_dchk mX4_drop = true := by decide +kernel
theorem ok_mX4_drop : mv_mok sysX mX4_drop := mv_mok_of (hc := 436) (h2 := 434) (h3 := 435) (hi := 123) okD_mX4_drop (mv_Tok_of okT4) (by decide +kernel)
theorem okD_mX4_there : mv_dchk mX4_there = true := by decide +kernel
theorem ok_mX4_there : mv_mok sysX mX4_there := mv_mok_of (hc := 713) (h2 := 711) (h3 := 712) (hi := 123) okD_mX4_there (mv_Tok_of okT4) (by decide +kernel)
theorem okD_mX4_nextWord : mv_dchk mX4_nextWord = true := by decide +kernel
theorem ok_mX4_nextWord : mv_mok sysX mX4_nextWord := mv_mok_of (hc := 1150) (h2 := 1148) (h3 := 1149) (hi := 123) okD_mX4_nextWord (mv_Tok_of okT4) (by decide +kernel)
theorem okD_mX4_end : mv_dchk mX4_end = true := by decide +kernel
theorem ok_mX4_end : mv_mok sysX mX4_end := mv_mok_of (hc := 1154) (h2 := 1152) (h3 := 1153) (hi := 123) okD_mX4_end (mv_Tok_of okT4) (by decide +kernel)
theorem okD_mX4_goOn : mv_dchk mX4_goOn = true := by decide +kernel
theorem ok_mX4_goOn : mv_mok sysX mX4_goOn := mv_mok_of (hc := 717) (h2 := 715) (h3 := 716) (hi := 123) okD_mX4_goOn (mv_Tok_of okT4) (by decide +kernel)
theorem okD_mX4_step : mv_dchk mX4_step = true := by decide +kernel
theorem ok_mX4_step : mv_mok sysX mX4_step := mv_mok_of (hc := 725) (h2 := 724) (h3 := 22) (hi := 123) okD_mX4_step (mv_Tok_of okT4) (by decide +kernel)
theorem okD_mX4_goIf : mv_dchk mX4_goIf = true := by decide +kernel
theorem ok_mX4_goIf : mv_mok sysX mX4_goIf := mv_mok_of (hc := 738) (h2 := 737) (h3 := 23) (hi := 123) okD_mX4_goIf (mv_Tok_of okT4) (by decide +kernel)
theorem okD_mX4_call : mv_dchk mX4_call = true := by decide +kernel
theorem ok_mX4_call : mv_mok sysX mX4_call := mv_mok_of (hc := 742) (h2 := 741) (h3 := 24) (hi := 123) okD_mX4_call (mv_Tok_of okT4) (by decide +kernel)
theorem okD_mX4_nextKey : mv_dchk mX4_nextKey = true := by decide +kernel
theorem ok_mX4_nextKey : mv_mok sysX mX4_nextKey := mv_mok_of (hc := 776) (h2 := 775) (h3 := 27) (hi := 123) okD_mX4_nextKey (mv_Tok_of okT4) (by decide +kernel)
theorem okD_mX5_clear : mv_dchk mX5_clear = true := by decide +kernel
theorem ok_mX5_clear : mv_mok sysX mX5_clear := mv_mok_of (hc := 440) (h2 := 438) (h3 := 439) (hi := 121) okD_mX5_clear (mv_Tok_of okT5) (by decide +kernel)
theorem okD_mX5_begin : mv_dchk mX5_begin = true := by decide +kernel
theorem ok_mX5_begin : mv_mok sysX mX5_begin := mv_mok_of (hc := 680) (h2 := 678) (h3 := 679) (hi := 121) okD_mX5_begin (mv_Tok_of okT5) (by decide +kernel)
theorem okD_mX5_forgetCalls : mv_dchk mX5_forgetCalls = true := by decide +kernel
theorem ok_mX5_forgetCalls : mv_mok sysX mX5_forgetCalls := mv_mok_of (hc := 447) (h2 := 445) (h3 := 446) (hi := 121) okD_mX5_forgetCalls (mv_Tok_of okT5) (by decide +kernel)
theorem okD_mX5_steps : mv_dchk mX5_steps = true := by decide +kernel
theorem ok_mX5_steps : mv_mok sysX mX5_steps := mv_mok_of (hc := 1016) (h2 := 1014) (h3 := 1015) (hi := 121) okD_mX5_steps (mv_Tok_of okT5) (by decide +kernel)
theorem okD_mX5_addStep : mv_dchk mX5_addStep = true := by decide +kernel
theorem ok_mX5_addStep : mv_mok sysX mX5_addStep := mv_mok_of (hc := 721) (h2 := 719) (h3 := 720) (hi := 121) okD_mX5_addStep (mv_Tok_of okT5) (by decide +kernel)
theorem okD_mX5_calls : mv_dchk mX5_calls = true := by decide +kernel
theorem ok_mX5_calls : mv_mok sysX mX5_calls := mv_mok_of (hc := 999) (h2 := 997) (h3 := 998) (hi := 121) okD_mX5_calls (mv_Tok_of okT5) (by decide +kernel)
theorem okD_mX5_mostMade : mv_dchk mX5_mostMade = true := by decide +kernel
theorem ok_mX5_mostMade : mv_mok sysX mX5_mostMade := mv_mok_of (hc := 1145) (h2 := 1143) (h3 := 1144) (hi := 121) okD_mX5_mostMade (mv_Tok_of okT5) (by decide +kernel)
theorem okD_mX5_toldCount : mv_dchk mX5_toldCount = true := by decide +kernel
theorem ok_mX5_toldCount : mv_mok sysX mX5_toldCount := mv_mok_of (hc := 1100) (h2 := 1098) (h3 := 1099) (hi := 121) okD_mX5_toldCount (mv_Tok_of okT5) (by decide +kernel)
theorem okD_mX5_told : mv_dchk mX5_told = true := by decide +kernel
theorem ok_mX5_told : mv_mok sysX mX5_told := mv_mok_of (hc := 1108) (h2 := 1106) (h3 := 1107) (hi := 121) okD_mX5_told (mv_Tok_of okT5) (by decide +kernel)
theorem okD_mX5_variablePlace : mv_dchk mX5_variablePlace = true := by decide +kernel
theorem ok_mX5_variablePlace : mv_mok sysX mX5_variablePlace := mv_mok_of (hc := 755) (h2 := 754) (h3 := 25) (hi := 121) okD_mX5_variablePlace (mv_Tok_of okT5) (by decide +kernel)
theorem okD_mX5_mapPlace : mv_dchk mX5_mapPlace = true := by decide +kernel
theorem ok_mX5_mapPlace : mv_mok sysX mX5_mapPlace := mv_mok_of (hc := 759) (h2 := 758) (h3 := 26) (hi := 121) okD_mX5_mapPlace (mv_Tok_of okT5) (by decide +kernel)
theorem okD_mX5_number : mv_dchk mX5_number = true := by decide +kernel
theorem ok_mX5_number : mv_mok sysX mX5_number := mv_mok_of (hc := 941) (h2 := 939) (h3 := 940) (hi := 121) okD_mX5_number (mv_Tok_of okT5) (by decide +kernel)
theorem okD_mX5_setNumber : mv_dchk mX5_setNumber = true := by decide +kernel
theorem ok_mX5_setNumber : mv_mok sysX mX5_setNumber := mv_mok_of (hc := 751) (h2 := 749) (h3 := 750) (hi := 121) okD_mX5_setNumber (mv_Tok_of okT5) (by decide +kernel)
theorem okD_mX5_tree : mv_dchk mX5_tree = true := by decide +kernel
theorem ok_mX5_tree : mv_mok sysX mX5_tree := mv_mok_of (hc := 949) (h2 := 947) (h3 := 948) (hi := 121) okD_mX5_tree (mv_Tok_of okT5) (by decide +kernel)
theorem okD_mX5_push : mv_dchk mX5_push = true := by decide +kernel
theorem ok_mX5_push : mv_mok sysX mX5_push := mv_mok_of (hc := 772) (h2 := 770) (h3 := 771) (hi := 121) okD_mX5_push (mv_Tok_of okT5) (by decide +kernel)
theorem okD_mX5_pop : mv_dchk mX5_pop = true := by decide +kernel
theorem ok_mX5_pop : mv_mok sysX mX5_pop := mv_mok_of (hc := 733) (h2 := 731) (h3 := 732) (hi := 121) okD_mX5_pop (mv_Tok_of okT5) (by decide +kernel)
theorem okD_mX5_pushMap : mv_dchk mX5_pushMap = true := by decide +kernel
theorem ok_mX5_pushMap : mv_mok sysX mX5_pushMap := mv_mok_of (hc := 936) (h2 := 934) (h3 := 935) (hi := 121) okD_mX5_pushMap (mv_Tok_of okT5) (by decide +kernel)
theorem okD_mX5_popMap : mv_dchk mX5_popMap = true := by decide +kernel
theorem ok_mX5_popMap : mv_mok sysX mX5_popMap := mv_mok_of (hc := 803) (h2 := 801) (h3 := 802) (hi := 121) okD_mX5_popMap (mv_Tok_of okT5) (by decide +kernel)
theorem okD_mX5_comingCell : mv_dchk mX5_comingCell = true := by decide +kernel
theorem ok_mX5_comingCell : mv_mok sysX mX5_comingCell := mv_mok_of (hc := 780) (h2 := 778) (h3 := 779) (hi := 121) okD_mX5_comingCell (mv_Tok_of okT5) (by decide +kernel)
theorem okD_mX5_comeTo : mv_dchk mX5_comeTo = true := by decide +kernel
theorem ok_mX5_comeTo : mv_mok sysX mX5_comeTo := mv_mok_of (hc := 807) (h2 := 805) (h3 := 806) (hi := 121) okD_mX5_comeTo (mv_Tok_of okT5) (by decide +kernel)
theorem okD_mX5_enter : mv_dchk mX5_enter = true := by decide +kernel
theorem ok_mX5_enter : mv_mok sysX mX5_enter := mv_mok_of (hc := 747) (h2 := 745) (h3 := 746) (hi := 121) okD_mX5_enter (mv_Tok_of okT5) (by decide +kernel)
theorem okD_mX5_leave : mv_dchk mX5_leave = true := by decide +kernel
theorem ok_mX5_leave : mv_mok sysX mX5_leave := mv_mok_of (hc := 768) (h2 := 766) (h3 := 767) (hi := 121) okD_mX5_leave (mv_Tok_of okT5) (by decide +kernel)
theorem okD_mX5_apply : mv_dchk mX5_apply = true := by decide +kernel
theorem ok_mX5_apply : mv_mok sysX mX5_apply := mv_mok_of (hc := 819) (h2 := 817) (h3 := 818) (hi := 121) okD_mX5_apply (mv_Tok_of okT5) (by decide +kernel)
theorem okD_mX5_tell : mv_dchk mX5_tell = true := by decide +kernel
theorem ok_mX5_tell : mv_mok sysX mX5_tell := mv_mok_of (hc := 945) (h2 := 944) (h3 := 37) (hi := 121) okD_mX5_tell (mv_Tok_of okT5) (by decide +kernel)
theorem okD_mX5_applyToNumbers : mv_dchk mX5_applyToNumbers = true := by decide +kernel
theorem ok_mX5_applyToNumbers : mv_mok sysX mX5_applyToNumbers := mv_mok_of (hc := 823) (h2 := 822) (h3 := 28) (hi := 121) okD_mX5_applyToNumbers (mv_Tok_of okT5) (by decide +kernel)
theorem okD_mX5_askMap : mv_dchk mX5_askMap = true := by decide +kernel
theorem ok_mX5_askMap : mv_mok sysX mX5_askMap := mv_mok_of (hc := 953) (h2 := 952) (h3 := 38) (hi := 121) okD_mX5_askMap (mv_Tok_of okT5) (by decide +kernel)
theorem okD_mX5_pushFloor : mv_dchk mX5_pushFloor = true := by decide +kernel
theorem ok_mX5_pushFloor : mv_mok sysX mX5_pushFloor := mv_mok_of (hc := 963) (h2 := 962) (h3 := 39) (hi := 121) okD_mX5_pushFloor (mv_Tok_of okT5) (by decide +kernel)
theorem okD_mX5_changeMap : mv_dchk mX5_changeMap = true := by decide +kernel
theorem ok_mX5_changeMap : mv_mok sysX mX5_changeMap := mv_mok_of (hc := 827) (h2 := 826) (h3 := 29) (hi := 121) okD_mX5_changeMap (mv_Tok_of okT5) (by decide +kernel)
theorem okD_mX5_takeParts : mv_dchk mX5_takeParts = true := by decide +kernel
theorem ok_mX5_takeParts : mv_mok sysX mX5_takeParts := mv_mok_of (hc := 931) (h2 := 930) (h3 := 36) (hi := 121) okD_mX5_takeParts (mv_Tok_of okT5) (by decide +kernel)
theorem okD_mX5_keep : mv_dchk mX5_keep = true := by decide +kernel
theorem ok_mX5_keep : mv_mok sysX mX5_keep := mv_mok_of (hc := 901) (h2 := 900) (h3 := 34) (hi := 121) okD_mX5_keep (mv_Tok_of okT5) (by decide +kernel)
theorem okD_mX5_live : mv_dchk mX5_live = true := by decide +kernel
theorem ok_mX5_live : mv_mok sysX mX5_live := mv_mok_of (hc := 1137) (h2 := 1135) (h3 := 1136) (hi := 121) okD_mX5_live (mv_Tok_of okT5) (by decide +kernel)
theorem okD_mX5_reachAll : mv_dchk mX5_reachAll = true := by decide +kernel
theorem ok_mX5_reachAll : mv_mok sysX mX5_reachAll := mv_mok_of (hc := 909) (h2 := 908) (h3 := 35) (hi := 121) okD_mX5_reachAll (mv_Tok_of okT5) (by decide +kernel)
theorem okD_mX6_isStatement : mv_dchk mX6_isStatement = true := by decide +kernel
theorem ok_mX6_isStatement : mv_mok sysX mX6_isStatement := mv_mok_of (hc := 515) (h2 := 514) (h3 := 0) (hi := 127) okD_mX6_isStatement (mv_Tok_of okT6) (by decide +kernel)
theorem okD_mX6_isNumber : mv_dchk mX6_isNumber = true := by decide +kernel
theorem ok_mX6_isNumber : mv_mok sysX mX6_isNumber := mv_mok_of (hc := 530) (h2 := 529) (h3 := 0) (hi := 127) okD_mX6_isNumber (mv_Tok_of okT6) (by decide +kernel)
theorem okD_mX6_isMap : mv_dchk mX6_isMap = true := by decide +kernel
theorem ok_mX6_isMap : mv_mok sysX mX6_isMap := mv_mok_of (hc := 577) (h2 := 576) (h3 := 0) (hi := 127) okD_mX6_isMap (mv_Tok_of okT6) (by decide +kernel)
theorem okD_mX6_arguments : mv_dchk mX6_arguments = true := by decide +kernel
theorem ok_mX6_arguments : mv_mok sysX mX6_arguments := mv_mok_of (hc := 599) (h2 := 598) (h3 := 0) (hi := 127) okD_mX6_arguments (mv_Tok_of okT6) (by decide +kernel)
theorem okD_mX6_maps : mv_dchk mX6_maps = true := by decide +kernel
theorem ok_mX6_maps : mv_mok sysX mX6_maps := mv_mok_of (hc := 570) (h2 := 569) (h3 := 0) (hi := 127) okD_mX6_maps (mv_Tok_of okT6) (by decide +kernel)
theorem okD_mX6_numbers : mv_dchk mX6_numbers = true := by decide +kernel
theorem ok_mX6_numbers : mv_mok sysX mX6_numbers := mv_mok_of (hc := 593) (h2 := 592) (h3 := 0) (hi := 127) okD_mX6_numbers (mv_Tok_of okT6) (by decide +kernel)
theorem okD_mX6_word : mv_dchk mX6_word = true := by decide +kernel
theorem ok_mX6_word : mv_mok sysX mX6_word := mv_mok_of (hc := 596) (h2 := 595) (h3 := 0) (hi := 127) okD_mX6_word (mv_Tok_of okT6) (by decide +kernel)
theorem okD_mX7_put : mv_dchk mX7_put = true := by decide +kernel
theorem ok_mX7_put : mv_mok sysX mX7_put := mv_mok_of (hc := 835) (h2 := 833) (h3 := 834) (hi := 122) okD_mX7_put (mv_Tok_of okT7) (by decide +kernel)
theorem okD_mX7_without : mv_dchk mX7_without = true := by decide +kernel
theorem ok_mX7_without : mv_mok sysX mX7_without := mv_mok_of (hc := 875) (h2 := 873) (h3 := 874) (hi := 122) okD_mX7_without (mv_Tok_of okT7) (by decide +kernel)
theorem okD_mX7_union : mv_dchk mX7_union = true := by decide +kernel
theorem ok_mX7_union : mv_mok sysX mX7_union := mv_mok_of (hc := 887) (h2 := 885) (h3 := 886) (hi := 122) okD_mX7_union (mv_Tok_of okT7) (by decide +kernel)
theorem okD_mX7_unite : mv_dchk mX7_unite = true := by decide +kernel
theorem ok_mX7_unite : mv_mok sysX mX7_unite := mv_mok_of (hc := 891) (h2 := 890) (h3 := 33) (hi := 122) okD_mX7_unite (mv_Tok_of okT7) (by decide +kernel)
theorem okD_mX7_copyTowards : mv_dchk mX7_copyTowards = true := by decide +kernel
theorem ok_mX7_copyTowards : mv_mok sysX mX7_copyTowards := mv_mok_of (hc := 851) (h2 := 850) (h3 := 30) (hi := 122) okD_mX7_copyTowards (mv_Tok_of okT7) (by decide +kernel)
theorem okD_mX7_split : mv_dchk mX7_split = true := by decide +kernel
theorem ok_mX7_split : mv_mok sysX mX7_split := mv_mok_of (hc := 865) (h2 := 864) (h3 := 31) (hi := 122) okD_mX7_split (mv_Tok_of okT7) (by decide +kernel)
theorem okD_mX7_join : mv_dchk mX7_join = true := by decide +kernel
theorem ok_mX7_join : mv_mok sysX mX7_join := mv_mok_of (hc := 883) (h2 := 882) (h3 := 32) (hi := 122) okD_mX7_join (mv_Tok_of okT7) (by decide +kernel)
theorem okD_mX8_walk : mv_dchk mX8_walk = true := by decide +kernel
theorem ok_mX8_walk : mv_mok sysX mX8_walk := mv_mok_of (hc := 975) (h2 := 973) (h3 := 974) (hi := 124) okD_mX8_walk (mv_Tok_of okT8) (by decide +kernel)
theorem okD_mX8_openAt : mv_dchk mX8_openAt = true := by decide +kernel
theorem ok_mX8_openAt : mv_mok sysX mX8_openAt := mv_mok_of (hc := 983) (h2 := 982) (h3 := 40) (hi := 124) okD_mX8_openAt (mv_Tok_of okT8) (by decide +kernel)
theorem okD_mX8_close : mv_dchk mX8_close = true := by decide +kernel
theorem ok_mX8_close : mv_mok sysX mX8_close := mv_mok_of (hc := 1044) (h2 := 1043) (h3 := 49) (hi := 124) okD_mX8_close (mv_Tok_of okT8) (by decide +kernel)
theorem okD_mX8_closeBehind : mv_dchk mX8_closeBehind = true := by decide +kernel
theorem ok_mX8_closeBehind : mv_mok sysX mX8_closeBehind := mv_mok_of (hc := 1040) (h2 := 1039) (h3 := 48) (hi := 124) okD_mX8_closeBehind (mv_Tok_of okT8) (by decide +kernel)
theorem okD_mX8_setStage : mv_dchk mX8_setStage = true := by decide +kernel
theorem ok_mX8_setStage : mv_mok sysX mX8_setStage := mv_mok_of (hc := 1030) (h2 := 1029) (h3 := 47) (hi := 124) okD_mX8_setStage (mv_Tok_of okT8) (by decide +kernel)
theorem okD_mX8_mayStep : mv_dchk mX8_mayStep = true := by decide +kernel
theorem ok_mX8_mayStep : mv_mok sysX mX8_mayStep := mv_mok_of (hc := 1012) (h2 := 1011) (h3 := 44) (hi := 124) okD_mX8_mayStep (mv_Tok_of okT8) (by decide +kernel)
theorem okD_mX8_beginNext : mv_dchk mX8_beginNext = true := by decide +kernel
theorem ok_mX8_beginNext : mv_mok sysX mX8_beginNext := mv_mok_of (hc := 1008) (h2 := 1007) (h3 := 43) (hi := 124) okD_mX8_beginNext (mv_Tok_of okT8) (by decide +kernel)
theorem okD_mX8_body : mv_dchk mX8_body = true := by decide +kernel
theorem ok_mX8_body : mv_mok sysX mX8_body := mv_mok_of (hc := 991) (h2 := 990) (h3 := 41) (hi := 124) okD_mX8_body (mv_Tok_of okT8) (by decide +kernel)
theorem okD_mX8_comeBack : mv_dchk mX8_comeBack = true := by decide +kernel
theorem ok_mX8_comeBack : mv_mok sysX mX8_comeBack := mv_mok_of (hc := 995) (h2 := 994) (h3 := 42) (hi := 124) okD_mX8_comeBack (mv_Tok_of okT8) (by decide +kernel)
theorem okD_mX8_beginPart : mv_dchk mX8_beginPart = true := by decide +kernel
theorem ok_mX8_beginPart : mv_mok sysX mX8_beginPart := mv_mok_of (hc := 1026) (h2 := 1025) (h3 := 46) (hi := 124) okD_mX8_beginPart (mv_Tok_of okT8) (by decide +kernel)
theorem okD_mX8_choice : mv_dchk mX8_choice = true := by decide +kernel
theorem ok_mX8_choice : mv_mok sysX mX8_choice := mv_mok_of (hc := 1022) (h2 := 1021) (h3 := 45) (hi := 124) okD_mX8_choice (mv_Tok_of okT8) (by decide +kernel)
theorem okD_mX8_repetition : mv_dchk mX8_repetition = true := by decide +kernel
theorem ok_mX8_repetition : mv_mok sysX mX8_repetition := mv_mok_of (hc := 1048) (h2 := 1047) (h3 := 50) (hi := 124) okD_mX8_repetition (mv_Tok_of okT8) (by decide +kernel)
theorem okD_mX8_eachKey : mv_dchk mX8_eachKey = true := by decide +kernel
theorem ok_mX8_eachKey : mv_mok sysX mX8_eachKey := mv_mok_of (hc := 1052) (h2 := 1051) (h3 := 51) (hi := 124) okD_mX8_eachKey (mv_Tok_of okT8) (by decide +kernel)
theorem okD_mX8_comeToKey : mv_dchk mX8_comeToKey = true := by decide +kernel
theorem ok_mX8_comeToKey : mv_mok sysX mX8_comeToKey := mv_mok_of (hc := 1058) (h2 := 1057) (h3 := 52) (hi := 124) okD_mX8_comeToKey (mv_Tok_of okT8) (by decide +kernel)
theorem okD_mX8_answer : mv_dchk mX8_answer = true := by decide +kernel
theorem ok_mX8_answer : mv_mok sysX mX8_answer := mv_mok_of (hc := 1065) (h2 := 1064) (h3 := 53) (hi := 124) okD_mX8_answer (mv_Tok_of okT8) (by decide +kernel)
theorem okD_mX8_call : mv_dchk mX8_call = true := by decide +kernel
theorem ok_mX8_call : mv_mok sysX mX8_call := mv_mok_of (hc := 1069) (h2 := 1068) (h3 := 54) (hi := 124) okD_mX8_call (mv_Tok_of okT8) (by decide +kernel)
theorem okD_mX8_enter : mv_dchk mX8_enter = true := by decide +kernel
theorem ok_mX8_enter : mv_mok sysX mX8_enter := mv_mok_of (hc := 1074) (h2 := 1073) (h3 := 55) (hi := 124) okD_mX8_enter (mv_Tok_of okT8) (by decide +kernel)
theorem okD_mX8_shortcut : mv_dchk mX8_shortcut = true := by decide +kernel
theorem ok_mX8_shortcut : mv_mok sysX mX8_shortcut := mv_mok_of (hc := 1083) (h2 := 1082) (h3 := 56) (hi := 124) okD_mX8_shortcut (mv_Tok_of okT8) (by decide +kernel)
theorem okD_mX8_plain : mv_dchk mX8_plain = true := by decide +kernel
theorem ok_mX8_plain : mv_mok sysX mX8_plain := mv_mok_of (hc := 1088) (h2 := 1087) (h3 := 57) (hi := 124) okD_mX8_plain (mv_Tok_of okT8) (by decide +kernel)
theorem okD_mX9_length : mv_dchk mX9_length = true := by decide +kernel
theorem ok_mX9_length : mv_mok sysX mX9_length := mv_mok_of (hc := 729) (h2 := 728) (h3 := 0) (hi := 128) okD_mX9_length (mv_Tok_of okT9) (by decide +kernel)
theorem okD_mX10_init_ : mv_dchk mX10_init_ = true := by decide +kernel
theorem ok_mX10_init_ : mv_mok sysX mX10_init_ := mv_mok_of (hc := 424) (h2 := 422) (h3 := 423) (hi := 117) okD_mX10_init_ (mv_Tok_of okT10) (by decide +kernel)
theorem okD_mX10_feed : mv_dchk mX10_feed = true := by decide +kernel
theorem ok_mX10_feed : mv_mok sysX mX10_feed := mv_mok_of (hc := 451) (h2 := 449) (h3 := 450) (hi := 117) okD_mX10_feed (mv_Tok_of okT10) (by decide +kernel)
theorem okD_mX10_compile : mv_dchk mX10_compile = true := by decide +kernel
theorem ok_mX10_compile : mv_mok sysX mX10_compile := mv_mok_of (hc := 471) (h2 := 469) (h3 := 470) (hi := 117) okD_mX10_compile (mv_Tok_of okT10) (by decide +kernel)
theorem okD_mX10_place : mv_dchk mX10_place = true := by decide +kernel
theorem ok_mX10_place : mv_mok sysX mX10_place := mv_mok_of (hc := 655) (h2 := 653) (h3 := 654) (hi := 117) okD_mX10_place (mv_Tok_of okT10) (by decide +kernel)
theorem okD_mX10_code : mv_dchk mX10_code = true := by decide +kernel
theorem ok_mX10_code : mv_mok sysX mX10_code := mv_mok_of (hc := 663) (h2 := 661) (h3 := 662) (hi := 117) okD_mX10_code (mv_Tok_of okT10) (by decide +kernel)
theorem okD_mX10_start : mv_dchk mX10_start = true := by decide +kernel
theorem ok_mX10_start : mv_mok sysX mX10_start := mv_mok_of (hc := 672) (h2 := 670) (h3 := 671) (hi := 117) okD_mX10_start (mv_Tok_of okT10) (by decide +kernel)
theorem okD_mX10_run : mv_dchk mX10_run = true := by decide +kernel
theorem ok_mX10_run : mv_mok sysX mX10_run := mv_mok_of (hc := 706) (h2 := 704) (h3 := 705) (hi := 117) okD_mX10_run (mv_Tok_of okT10) (by decide +kernel)
theorem okD_mX10_interpret : mv_dchk mX10_interpret = true := by decide +kernel
theorem ok_mX10_interpret : mv_mok sysX mX10_interpret := mv_mok_of (hc := 971) (h2 := 969) (h3 := 970) (hi := 117) okD_mX10_interpret (mv_Tok_of okT10) (by decide +kernel)
theorem okD_mX10_outSize : mv_dchk mX10_outSize = true := by decide +kernel
theorem ok_mX10_outSize : mv_mok sysX mX10_outSize := mv_mok_of (hc := 1096) (h2 := 1094) (h3 := 1095) (hi := 117) okD_mX10_outSize (mv_Tok_of okT10) (by decide +kernel)
theorem okD_mX10_out : mv_dchk mX10_out = true := by decide +kernel
theorem ok_mX10_out : mv_mok sysX mX10_out := mv_mok_of (hc := 1104) (h2 := 1102) (h3 := 1103) (hi := 117) okD_mX10_out (mv_Tok_of okT10) (by decide +kernel)
theorem okD_mX10_variable : mv_dchk mX10_variable = true := by decide +kernel
theorem ok_mX10_variable : mv_mok sysX mX10_variable := mv_mok_of (hc := 1112) (h2 := 1110) (h3 := 1111) (hi := 117) okD_mX10_variable (mv_Tok_of okT10) (by decide +kernel)
theorem okD_mX10_map : mv_dchk mX10_map = true := by decide +kernel
theorem ok_mX10_map : mv_mok sysX mX10_map := mv_mok_of (hc := 1117) (h2 := 1115) (h3 := 1116) (hi := 117) okD_mX10_map (mv_Tok_of okT10) (by decide +kernel)
theorem okD_mX10_count : mv_dchk mX10_count = true := by decide +kernel
theorem ok_mX10_count : mv_mok sysX mX10_count := mv_mok_of (hc := 1131) (h2 := 1129) (h3 := 1130) (hi := 117) okD_mX10_count (mv_Tok_of okT10) (by decide +kernel)
theorem okD_mX10_mayBeGranted : mv_dchk mX10_mayBeGranted = true := by decide +kernel
theorem ok_mX10_mayBeGranted : mv_mok sysX mX10_mayBeGranted := mv_mok_of (hc := 709) (h2 := 708) (h3 := 0) (hi := 117) okD_mX10_mayBeGranted (mv_Tok_of okT10) (by decide +kernel)
theorem okD_mX10_leaveRun : mv_dchk mX10_leaveRun = true := by decide +kernel
theorem ok_mX10_leaveRun : mv_mok sysX mX10_leaveRun := mv_mok_of (hc := 462) (h2 := 461) (h3 := 0) (hi := 117) okD_mX10_leaveRun (mv_Tok_of okT10) (by decide +kernel)
