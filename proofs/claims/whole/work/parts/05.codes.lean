set_option maxRecDepth 100000 in
theorem mcd_0 : lw_tbl[85]? = some (.code (mY 0) (mC 0) (mL 0) (mR 0)) := rfl
set_option maxRecDepth 100000 in
theorem mcd_1 : lw_tbl[200]? = some (.code (mY 1) (mC 1) (mL 1) (mR 1)) := rfl
set_option maxRecDepth 100000 in
theorem mcd_2 : lw_tbl[228]? = some (.code (mY 2) (mC 2) (mL 2) (mR 2)) := rfl
set_option maxRecDepth 100000 in
theorem mcd_3 : lw_tbl[432]? = some (.code (mY 3) (mC 3) (mL 3) (mR 3)) := rfl
set_option maxRecDepth 100000 in
theorem mcd_4 : lw_tbl[388]? = some (.code (mY 4) (mC 4) (mL 4) (mR 4)) := rfl
set_option maxRecDepth 100000 in
theorem mcd_5 : lw_tbl[255]? = some (.code (mY 5) (mC 5) (mL 5) (mR 5)) := rfl
set_option maxRecDepth 100000 in
theorem mcd_6 : lw_tbl[244]? = some (.code (mY 6) (mC 6) (mL 6) (mR 6)) := rfl
set_option maxRecDepth 100000 in
theorem mcd_7 : lw_tbl[259]? = some (.code (mY 7) (mC 7) (mL 7) (mR 7)) := rfl
set_option maxRecDepth 100000 in
theorem mcd_8 : lw_tbl[555]? = some (.code (mY 8) (mC 8) (mL 8) (mR 8)) := rfl
set_option maxRecDepth 100000 in
theorem mcd_9 : lw_tbl[478]? = some (.code (mY 9) (mC 9) (mL 9) (mR 9)) := rfl
set_option maxRecDepth 100000 in
theorem mcd_10 : lw_tbl[462]? = some (.code (mY 10) (mC 10) (mL 10) (mR 10)) := rfl
set_option maxRecDepth 100000 in
theorem mcd_11 : lw_tbl[543]? = some (.code (mY 11) (mC 11) (mL 11) (mR 11)) := rfl
set_option maxRecDepth 100000 in
theorem mcd_12 : lw_tbl[145]? = some (.code (mY 12) (mC 12) (mL 12) (mR 12)) := rfl
set_option maxRecDepth 100000 in
theorem mcd_13 : lw_tbl[489]? = some (.code (mY 13) (mC 13) (mL 13) (mR 13)) := rfl
set_option maxRecDepth 100000 in
theorem mcd_14 : lw_tbl[493]? = some (.code (mY 14) (mC 14) (mL 14) (mR 14)) := rfl
set_option maxRecDepth 100000 in
theorem mcd_15 : lw_tbl[519]? = some (.code (mY 15) (mC 15) (mL 15) (mR 15)) := rfl
set_option maxRecDepth 100000 in
theorem mcd_16 : lw_tbl[507]? = some (.code (mY 16) (mC 16) (mL 16) (mR 16)) := rfl
set_option maxRecDepth 100000 in
theorem mcd_17 : lw_tbl[515]? = some (.code (mY 17) (mC 17) (mL 17) (mR 17)) := rfl
set_option maxRecDepth 100000 in
theorem mcd_18 : lw_tbl[523]? = some (.code (mY 18) (mC 18) (mL 18) (mR 18)) := rfl
set_option maxRecDepth 100000 in
theorem mcd_19 : lw_tbl[511]? = some (.code (mY 19) (mC 19) (mL 19) (mR 19)) := rfl
set_option maxRecDepth 100000 in
theorem mcd_20 : lw_tbl[503]? = some (.code (mY 20) (mC 20) (mL 20) (mR 20)) := rfl
set_option maxRecDepth 100000 in
theorem mcd_21 : lw_tbl[496]? = some (.code (mY 21) (mC 21) (mL 21) (mR 21)) := rfl
set_option maxRecDepth 100000 in
theorem mcd_22 : lw_tbl[69]? = some (.code (mY 22) (mC 22) (mL 22) (mR 22)) := rfl
set_option maxRecDepth 100000 in
theorem mcd_23 : lw_tbl[224]? = some (.code (mY 23) (mC 23) (mL 23) (mR 23)) := rfl
set_option maxRecDepth 100000 in
theorem mcd_24 : lw_tbl[216]? = some (.code (mY 24) (mC 24) (mL 24) (mR 24)) := rfl
set_option maxRecDepth 100000 in
theorem mcd_25 : lw_tbl[208]? = some (.code (mY 25) (mC 25) (mL 25) (mR 25)) := rfl
set_option maxRecDepth 100000 in
theorem mcd_26 : lw_tbl[323]? = some (.code (mY 26) (mC 26) (mL 26) (mR 26)) := rfl
set_option maxRecDepth 100000 in
theorem mcd_27 : lw_tbl[117]? = some (.code (mY 27) (mC 27) (mL 27) (mR 27)) := rfl
set_option maxRecDepth 100000 in
theorem mcd_28 : lw_tbl[278]? = some (.code (mY 28) (mC 28) (mL 28) (mR 28)) := rfl
set_option maxRecDepth 100000 in
theorem mcd_29 : lw_tbl[356]? = some (.code (mY 29) (mC 29) (mL 29) (mR 29)) := rfl
set_option maxRecDepth 100000 in
theorem mcd_30 : lw_tbl[282]? = some (.code (mY 30) (mC 30) (mL 30) (mR 30)) := rfl
set_option maxRecDepth 100000 in
theorem mcd_31 : lw_tbl[299]? = some (.code (mY 31) (mC 31) (mL 31) (mR 31)) := rfl
set_option maxRecDepth 100000 in
theorem mcd_32 : lw_tbl[360]? = some (.code (mY 32) (mC 32) (mL 32) (mR 32)) := rfl
set_option maxRecDepth 100000 in
theorem mcd_33 : lw_tbl[295]? = some (.code (mY 33) (mC 33) (mL 33) (mR 33)) := rfl
set_option maxRecDepth 100000 in
theorem mcd_34 : lw_tbl[364]? = some (.code (mY 34) (mC 34) (mL 34) (mR 34)) := rfl
set_option maxRecDepth 100000 in
theorem mcd_35 : lw_tbl[303]? = some (.code (mY 35) (mC 35) (mL 35) (mR 35)) := rfl
set_option maxRecDepth 100000 in
theorem mcd_36 : lw_tbl[307]? = some (.code (mY 36) (mC 36) (mL 36) (mR 36)) := rfl
set_option maxRecDepth 100000 in
theorem mcd_37 : lw_tbl[286]? = some (.code (mY 37) (mC 37) (mL 37) (mR 37)) := rfl
set_option maxRecDepth 100000 in
theorem mcd_38 : lw_tbl[291]? = some (.code (mY 38) (mC 38) (mL 38) (mR 38)) := rfl
set_option maxRecDepth 100000 in
theorem mcd_39 : lw_tbl[311]? = some (.code (mY 39) (mC 39) (mL 39) (mR 39)) := rfl
set_option maxRecDepth 100000 in
theorem mcd_40 : lw_tbl[341]? = some (.code (mY 40) (mC 40) (mL 40) (mR 40)) := rfl
set_option maxRecDepth 100000 in
theorem mcd_41 : lw_tbl[348]? = some (.code (mY 41) (mC 41) (mL 41) (mR 41)) := rfl
set_option maxRecDepth 100000 in
theorem mcd_42 : lw_tbl[327]? = some (.code (mY 42) (mC 42) (mL 42) (mR 42)) := rfl
set_option maxRecDepth 100000 in
theorem mcd_43 : lw_tbl[331]? = some (.code (mY 43) (mC 43) (mL 43) (mR 43)) := rfl
set_option maxRecDepth 100000 in
theorem mcd_44 : lw_tbl[61]? = some (.code (mY 44) (mC 44) (mL 44) (mR 44)) := rfl
set_option maxRecDepth 100000 in
theorem mcd_45 : lw_tbl[196]? = some (.code (mY 45) (mC 45) (mL 45) (mR 45)) := rfl
set_option maxRecDepth 100000 in
theorem mcd_46 : lw_tbl[204]? = some (.code (mY 46) (mC 46) (mL 46) (mR 46)) := rfl
set_option maxRecDepth 100000 in
theorem mcd_47 : lw_tbl[212]? = some (.code (mY 47) (mC 47) (mL 47) (mR 47)) := rfl
set_option maxRecDepth 100000 in
theorem mcd_48 : lw_tbl[220]? = some (.code (mY 48) (mC 48) (mL 48) (mR 48)) := rfl
set_option maxRecDepth 100000 in
theorem mcd_49 : lw_tbl[235]? = some (.code (mY 49) (mC 49) (mL 49) (mR 49)) := rfl
set_option maxRecDepth 100000 in
theorem mcd_50 : lw_tbl[251]? = some (.code (mY 50) (mC 50) (mL 50) (mR 50)) := rfl
set_option maxRecDepth 100000 in
theorem mcd_51 : lw_tbl[263]? = some (.code (mY 51) (mC 51) (mL 51) (mR 51)) := rfl
set_option maxRecDepth 100000 in
theorem mcd_52 : lw_tbl[274]? = some (.code (mY 52) (mC 52) (mL 52) (mR 52)) := rfl
set_option maxRecDepth 100000 in
theorem mcd_53 : lw_tbl[352]? = some (.code (mY 53) (mC 53) (mL 53) (mR 53)) := rfl
set_option maxRecDepth 100000 in
theorem mcd_54 : lw_tbl[372]? = some (.code (mY 54) (mC 54) (mL 54) (mR 54)) := rfl
set_option maxRecDepth 100000 in
theorem mcd_55 : lw_tbl[376]? = some (.code (mY 55) (mC 55) (mL 55) (mR 55)) := rfl
set_option maxRecDepth 100000 in
theorem mcd_56 : lw_tbl[384]? = some (.code (mY 56) (mC 56) (mL 56) (mR 56)) := rfl
set_option maxRecDepth 100000 in
theorem mcd_57 : lw_tbl[396]? = some (.code (mY 57) (mC 57) (mL 57) (mR 57)) := rfl
set_option maxRecDepth 100000 in
theorem mcd_58 : lw_tbl[404]? = some (.code (mY 58) (mC 58) (mL 58) (mR 58)) := rfl
set_option maxRecDepth 100000 in
theorem mcd_59 : lw_tbl[412]? = some (.code (mY 59) (mC 59) (mL 59) (mR 59)) := rfl
set_option maxRecDepth 100000 in
theorem mcd_60 : lw_tbl[424]? = some (.code (mY 60) (mC 60) (mL 60) (mR 60)) := rfl
set_option maxRecDepth 100000 in
theorem mcd_61 : lw_tbl[428]? = some (.code (mY 61) (mC 61) (mL 61) (mR 61)) := rfl
set_option maxRecDepth 100000 in
theorem mcd_62 : lw_tbl[439]? = some (.code (mY 62) (mC 62) (mL 62) (mR 62)) := rfl
set_option maxRecDepth 100000 in
theorem mcd_63 : lw_tbl[458]? = some (.code (mY 63) (mC 63) (mL 63) (mR 63)) := rfl
set_option maxRecDepth 100000 in
theorem mcd_64 : lw_tbl[466]? = some (.code (mY 64) (mC 64) (mL 64) (mR 64)) := rfl
set_option maxRecDepth 100000 in
theorem mcd_65 : lw_tbl[470]? = some (.code (mY 65) (mC 65) (mL 65) (mR 65)) := rfl
set_option maxRecDepth 100000 in
theorem mcd_66 : lw_tbl[485]? = some (.code (mY 66) (mC 66) (mL 66) (mR 66)) := rfl
set_option maxRecDepth 100000 in
theorem mcd_67 : lw_tbl[527]? = some (.code (mY 67) (mC 67) (mL 67) (mR 67)) := rfl
set_option maxRecDepth 100000 in
theorem mcd_68 : lw_tbl[535]? = some (.code (mY 68) (mC 68) (mL 68) (mR 68)) := rfl
set_option maxRecDepth 100000 in
theorem mcd_69 : lw_tbl[547]? = some (.code (mY 69) (mC 69) (mL 69) (mR 69)) := rfl
set_option maxRecDepth 100000 in
theorem mcd_70 : lw_tbl[551]? = some (.code (mY 70) (mC 70) (mL 70) (mR 70)) := rfl
set_option maxRecDepth 100000 in
theorem mcd_71 : lw_tbl[231]? = some (.code (mY 71) (mC 71) (mL 71) (mR 71)) := rfl
set_option maxRecDepth 100000 in
theorem mcd_72 : lw_tbl[270]? = some (.code (mY 72) (mC 72) (mL 72) (mR 72)) := rfl
set_option maxRecDepth 100000 in
theorem mcd_73 : lw_tbl[334]? = some (.code (mY 73) (mC 73) (mL 73) (mR 73)) := rfl
set_option maxRecDepth 100000 in
theorem mcd_74 : lw_tbl[344]? = some (.code (mY 74) (mC 74) (mL 74) (mR 74)) := rfl
set_option maxRecDepth 100000 in
theorem mcd_75 : lw_tbl[392]? = some (.code (mY 75) (mC 75) (mL 75) (mR 75)) := rfl
set_option maxRecDepth 100000 in
theorem mcd_76 : lw_tbl[379]? = some (.code (mY 76) (mC 76) (mL 76) (mR 76)) := rfl
set_option maxRecDepth 100000 in
theorem mcd_77 : lw_tbl[531]? = some (.code (mY 77) (mC 77) (mL 77) (mR 77)) := rfl
set_option maxRecDepth 100000 in
theorem mcd_78 : lw_tbl[247]? = some (.code (mY 78) (mC 78) (mL 78) (mR 78)) := rfl
set_option maxRecDepth 100000 in
theorem mcd_79 : lw_tbl[267]? = some (.code (mY 79) (mC 79) (mL 79) (mR 79)) := rfl
set_option maxRecDepth 100000 in
theorem mcd_80 : lw_tbl[316]? = some (.code (mY 80) (mC 80) (mL 80) (mR 80)) := rfl
set_option maxRecDepth 100000 in
theorem mcd_81 : lw_tbl[319]? = some (.code (mY 81) (mC 81) (mL 81) (mR 81)) := rfl
set_option maxRecDepth 100000 in
theorem mcd_82 : lw_tbl[239]? = some (.code (mY 82) (mC 82) (mL 82) (mR 82)) := rfl
set_option maxRecDepth 100000 in
theorem mcd_83 : lw_tbl[443]? = some (.code (mY 83) (mC 83) (mL 83) (mR 83)) := rfl
set_option maxRecDepth 100000 in
theorem mcd_84 : lw_tbl[447]? = some (.code (mY 84) (mC 84) (mL 84) (mR 84)) := rfl
set_option maxRecDepth 100000 in
theorem mcd_85 : lw_tbl[454]? = some (.code (mY 85) (mC 85) (mL 85) (mR 85)) := rfl
set_option maxRecDepth 100000 in
theorem mcd_86 : lw_tbl[408]? = some (.code (mY 86) (mC 86) (mL 86) (mR 86)) := rfl
set_option maxRecDepth 100000 in
theorem mcd_87 : lw_tbl[416]? = some (.code (mY 87) (mC 87) (mL 87) (mR 87)) := rfl
set_option maxRecDepth 100000 in
theorem mcd_88 : lw_tbl[420]? = some (.code (mY 88) (mC 88) (mL 88) (mR 88)) := rfl
set_option maxRecDepth 100000 in
theorem mcd_89 : lw_tbl[474]? = some (.code (mY 89) (mC 89) (mL 89) (mR 89)) := rfl
set_option maxRecDepth 100000 in
theorem mcd_90 : lw_tbl[481]? = some (.code (mY 90) (mC 90) (mL 90) (mR 90)) := rfl
set_option maxRecDepth 100000 in
theorem mcd_91 : lw_tbl[499]? = some (.code (mY 91) (mC 91) (mL 91) (mR 91)) := rfl
set_option maxRecDepth 100000 in
theorem mcd_92 : lw_tbl[539]? = some (.code (mY 92) (mC 92) (mL 92) (mR 92)) := rfl
set_option maxRecDepth 100000 in
theorem mcd_93 : lw_tbl[560]? = some (.code (mY 93) (mC 93) (mL 93) (mR 93)) := rfl
set_option maxRecDepth 100000 in
theorem mcd_94 : lw_tbl[645]? = some (.code (mY 94) (mC 94) (mL 94) (mR 94)) := rfl
set_option maxRecDepth 100000 in
theorem mcd_95 : lw_tbl[688]? = some (.code (mY 95) (mC 95) (mL 95) (mR 95)) := rfl
set_option maxRecDepth 100000 in
theorem mcd_96 : lw_tbl[724]? = some (.code (mY 96) (mC 96) (mL 96) (mR 96)) := rfl
set_option maxRecDepth 100000 in
theorem mcd_97 : lw_tbl[685]? = some (.code (mY 97) (mC 97) (mL 97) (mR 97)) := rfl
set_option maxRecDepth 100000 in
theorem mcd_98 : lw_tbl[704]? = some (.code (mY 98) (mC 98) (mL 98) (mR 98)) := rfl
set_option maxRecDepth 100000 in
theorem mcd_99 : lw_tbl[700]? = some (.code (mY 99) (mC 99) (mL 99) (mR 99)) := rfl
set_option maxRecDepth 100000 in
theorem mcd_100 : lw_tbl[696]? = some (.code (mY 100) (mC 100) (mL 100) (mR 100)) := rfl
set_option maxRecDepth 100000 in
theorem mcd_101 : lw_tbl[665]? = some (.code (mY 101) (mC 101) (mL 101) (mR 101)) := rfl
set_option maxRecDepth 100000 in
theorem mcd_102 : lw_tbl[642]? = some (.code (mY 102) (mC 102) (mL 102) (mR 102)) := rfl
set_option maxRecDepth 100000 in
theorem mcd_103 : lw_tbl[649]? = some (.code (mY 103) (mC 103) (mL 103) (mR 103)) := rfl
set_option maxRecDepth 100000 in
theorem mcd_104 : lw_tbl[653]? = some (.code (mY 104) (mC 104) (mL 104) (mR 104)) := rfl
set_option maxRecDepth 100000 in
theorem mcd_105 : lw_tbl[661]? = some (.code (mY 105) (mC 105) (mL 105) (mR 105)) := rfl
set_option maxRecDepth 100000 in
theorem mcd_106 : lw_tbl[657]? = some (.code (mY 106) (mC 106) (mL 106) (mR 106)) := rfl
set_option maxRecDepth 100000 in
theorem mcd_107 : lw_tbl[677]? = some (.code (mY 107) (mC 107) (mL 107) (mR 107)) := rfl
set_option maxRecDepth 100000 in
theorem mcd_108 : lw_tbl[673]? = some (.code (mY 108) (mC 108) (mL 108) (mR 108)) := rfl
set_option maxRecDepth 100000 in
theorem mcd_109 : lw_tbl[669]? = some (.code (mY 109) (mC 109) (mL 109) (mR 109)) := rfl
set_option maxRecDepth 100000 in
theorem mcd_110 : lw_tbl[681]? = some (.code (mY 110) (mC 110) (mL 110) (mR 110)) := rfl
set_option maxRecDepth 100000 in
theorem mcd_111 : lw_tbl[692]? = some (.code (mY 111) (mC 111) (mL 111) (mR 111)) := rfl
set_option maxRecDepth 100000 in
theorem mcd_112 : lw_tbl[728]? = some (.code (mY 112) (mC 112) (mL 112) (mR 112)) := rfl
set_option maxRecDepth 100000 in
theorem mcd_113 : lw_tbl[720]? = some (.code (mY 113) (mC 113) (mL 113) (mR 113)) := rfl
set_option maxRecDepth 100000 in
theorem mcd_114 : lw_tbl[736]? = some (.code (mY 114) (mC 114) (mL 114) (mR 114)) := rfl
set_option maxRecDepth 100000 in
theorem mcd_115 : lw_tbl[716]? = some (.code (mY 115) (mC 115) (mL 115) (mR 115)) := rfl
set_option maxRecDepth 100000 in
theorem mcd_116 : lw_tbl[732]? = some (.code (mY 116) (mC 116) (mL 116) (mR 116)) := rfl
set_option maxRecDepth 100000 in
theorem mcd_117 : lw_tbl[748]? = some (.code (mY 117) (mC 117) (mL 117) (mR 117)) := rfl
set_option maxRecDepth 100000 in
theorem mcd_118 : lw_tbl[755]? = some (.code (mY 118) (mC 118) (mL 118) (mR 118)) := rfl
set_option maxRecDepth 100000 in
theorem mcd_119 : lw_tbl[744]? = some (.code (mY 119) (mC 119) (mL 119) (mR 119)) := rfl
set_option maxRecDepth 100000 in
theorem mcd_120 : lw_tbl[752]? = some (.code (mY 120) (mC 120) (mL 120) (mR 120)) := rfl
set_option maxRecDepth 100000 in
theorem mcd_121 : lw_tbl[740]? = some (.code (mY 121) (mC 121) (mL 121) (mR 121)) := rfl
set_option maxRecDepth 100000 in
theorem mcd_122 : lw_tbl[712]? = some (.code (mY 122) (mC 122) (mL 122) (mR 122)) := rfl
set_option maxRecDepth 100000 in
theorem mcd_123 : lw_tbl[708]? = some (.code (mY 123) (mC 123) (mL 123) (mR 123)) := rfl
set_option maxRecDepth 100000 in
theorem mcd_124 : lw_tbl[759]? = some (.code (mY 124) (mC 124) (mL 124) (mR 124)) := rfl
set_option maxRecDepth 100000 in
theorem mcd_125 : lw_tbl[763]? = some (.code (mY 125) (mC 125) (mL 125) (mR 125)) := rfl
set_option maxRecDepth 100000 in
theorem mcd_126 : lw_tbl[771]? = some (.code (mY 126) (mC 126) (mL 126) (mR 126)) := rfl
set_option maxRecDepth 100000 in
theorem mcd_127 : lw_tbl[767]? = some (.code (mY 127) (mC 127) (mL 127) (mR 127)) := rfl
set_option maxRecDepth 100000 in
theorem mcd_128 : lw_tbl[783]? = some (.code (mY 128) (mC 128) (mL 128) (mR 128)) := rfl
set_option maxRecDepth 100000 in
theorem mcd_129 : lw_tbl[779]? = some (.code (mY 129) (mC 129) (mL 129) (mR 129)) := rfl
set_option maxRecDepth 100000 in
theorem mcd_130 : lw_tbl[775]? = some (.code (mY 130) (mC 130) (mL 130) (mR 130)) := rfl
set_option maxRecDepth 100000 in
theorem mcd_131 : lw_tbl[787]? = some (.code (mY 131) (mC 131) (mL 131) (mR 131)) := rfl
set_option maxRecDepth 100000 in
theorem mcd_132 : lw_tbl[795]? = some (.code (mY 132) (mC 132) (mL 132) (mR 132)) := rfl
set_option maxRecDepth 100000 in
theorem mcd_133 : lw_tbl[791]? = some (.code (mY 133) (mC 133) (mL 133) (mR 133)) := rfl
set_option maxRecDepth 100000 in
theorem mcd_134 : lw_tbl[803]? = some (.code (mY 134) (mC 134) (mL 134) (mR 134)) := rfl
set_option maxRecDepth 100000 in
theorem mcd_135 : lw_tbl[799]? = some (.code (mY 135) (mC 135) (mL 135) (mR 135)) := rfl
set_option maxRecDepth 100000 in
theorem mcd_136 : lw_tbl[807]? = some (.code (mY 136) (mC 136) (mL 136) (mR 136)) := rfl
set_option maxRecDepth 100000 in
theorem mcd_137 : lw_tbl[811]? = some (.code (mY 137) (mC 137) (mL 137) (mR 137)) := rfl
set_option maxRecDepth 100000 in
theorem mcd_138 : lw_tbl[819]? = some (.code (mY 138) (mC 138) (mL 138) (mR 138)) := rfl
set_option maxRecDepth 100000 in
theorem mcd_139 : lw_tbl[815]? = some (.code (mY 139) (mC 139) (mL 139) (mR 139)) := rfl
set_option maxRecDepth 100000 in
theorem mcd_140 : lw_tbl[823]? = some (.code (mY 140) (mC 140) (mL 140) (mR 140)) := rfl
set_option maxRecDepth 100000 in
theorem mcd_141 : lw_tbl[827]? = some (.code (mY 141) (mC 141) (mL 141) (mR 141)) := rfl
set_option maxRecDepth 100000 in
theorem mcd_142 : lw_tbl[835]? = some (.code (mY 142) (mC 142) (mL 142) (mR 142)) := rfl
set_option maxRecDepth 100000 in
theorem mcd_143 : lw_tbl[831]? = some (.code (mY 143) (mC 143) (mL 143) (mR 143)) := rfl
set_option maxRecDepth 100000 in
theorem mcd_144 : lw_tbl[843]? = some (.code (mY 144) (mC 144) (mL 144) (mR 144)) := rfl
set_option maxRecDepth 100000 in
theorem mcd_145 : lw_tbl[839]? = some (.code (mY 145) (mC 145) (mL 145) (mR 145)) := rfl
set_option maxRecDepth 100000 in
theorem mcd_146 : lw_tbl[847]? = some (.code (mY 146) (mC 146) (mL 146) (mR 146)) := rfl
set_option maxRecDepth 100000 in
theorem mcd_147 : lw_tbl[852]? = some (.code (mY 147) (mC 147) (mL 147) (mR 147)) := rfl
set_option maxRecDepth 100000 in
theorem mcd_148 : lw_tbl[856]? = some (.code (mY 148) (mC 148) (mL 148) (mR 148)) := rfl
set_option maxRecDepth 100000 in
theorem mcd_149 : lw_tbl[860]? = some (.code (mY 149) (mC 149) (mL 149) (mR 149)) := rfl
def mcP (k : Nat) : Prop := Cond.code (mY k) (mC k) (mL k) (mR k) ∈ lw_g
theorem mcP_of {k i : Nat} (h : lw_tbl[i]? = some (.code (mY k) (mC k) (mL k) (mR k))) : mcP k := List.mem_filter.mpr ⟨List.mem_of_getElem? h, rfl⟩
theorem mcs_0 (h : ∀ a, a < 0 → mcP a) : ∀ a, a < 10 → mcP a := lt_s (i := 9) (lt_s (i := 8) (lt_s (i := 7) (lt_s (i := 6) (lt_s (i := 5) (lt_s (i := 4) (lt_s (i := 3) (lt_s (i := 2) (lt_s (i := 1) (lt_s (i := 0) (h) (mcP_of mcd_0)) (mcP_of mcd_1)) (mcP_of mcd_2)) (mcP_of mcd_3)) (mcP_of mcd_4)) (mcP_of mcd_5)) (mcP_of mcd_6)) (mcP_of mcd_7)) (mcP_of mcd_8)) (mcP_of mcd_9)
theorem mcs_1 (h : ∀ a, a < 10 → mcP a) : ∀ a, a < 20 → mcP a := lt_s (i := 19) (lt_s (i := 18) (lt_s (i := 17) (lt_s (i := 16) (lt_s (i := 15) (lt_s (i := 14) (lt_s (i := 13) (lt_s (i := 12) (lt_s (i := 11) (lt_s (i := 10) (h) (mcP_of mcd_10)) (mcP_of mcd_11)) (mcP_of mcd_12)) (mcP_of mcd_13)) (mcP_of mcd_14)) (mcP_of mcd_15)) (mcP_of mcd_16)) (mcP_of mcd_17)) (mcP_of mcd_18)) (mcP_of mcd_19)
theorem mcs_2 (h : ∀ a, a < 20 → mcP a) : ∀ a, a < 30 → mcP a := lt_s (i := 29) (lt_s (i := 28) (lt_s (i := 27) (lt_s (i := 26) (lt_s (i := 25) (lt_s (i := 24) (lt_s (i := 23) (lt_s (i := 22) (lt_s (i := 21) (lt_s (i := 20) (h) (mcP_of mcd_20)) (mcP_of mcd_21)) (mcP_of mcd_22)) (mcP_of mcd_23)) (mcP_of mcd_24)) (mcP_of mcd_25)) (mcP_of mcd_26)) (mcP_of mcd_27)) (mcP_of mcd_28)) (mcP_of mcd_29)
theorem mcs_3 (h : ∀ a, a < 30 → mcP a) : ∀ a, a < 40 → mcP a := lt_s (i := 39) (lt_s (i := 38) (lt_s (i := 37) (lt_s (i := 36) (lt_s (i := 35) (lt_s (i := 34) (lt_s (i := 33) (lt_s (i := 32) (lt_s (i := 31) (lt_s (i := 30) (h) (mcP_of mcd_30)) (mcP_of mcd_31)) (mcP_of mcd_32)) (mcP_of mcd_33)) (mcP_of mcd_34)) (mcP_of mcd_35)) (mcP_of mcd_36)) (mcP_of mcd_37)) (mcP_of mcd_38)) (mcP_of mcd_39)
theorem mcs_4 (h : ∀ a, a < 40 → mcP a) : ∀ a, a < 50 → mcP a := lt_s (i := 49) (lt_s (i := 48) (lt_s (i := 47) (lt_s (i := 46) (lt_s (i := 45) (lt_s (i := 44) (lt_s (i := 43) (lt_s (i := 42) (lt_s (i := 41) (lt_s (i := 40) (h) (mcP_of mcd_40)) (mcP_of mcd_41)) (mcP_of mcd_42)) (mcP_of mcd_43)) (mcP_of mcd_44)) (mcP_of mcd_45)) (mcP_of mcd_46)) (mcP_of mcd_47)) (mcP_of mcd_48)) (mcP_of mcd_49)
theorem mcs_5 (h : ∀ a, a < 50 → mcP a) : ∀ a, a < 60 → mcP a := lt_s (i := 59) (lt_s (i := 58) (lt_s (i := 57) (lt_s (i := 56) (lt_s (i := 55) (lt_s (i := 54) (lt_s (i := 53) (lt_s (i := 52) (lt_s (i := 51) (lt_s (i := 50) (h) (mcP_of mcd_50)) (mcP_of mcd_51)) (mcP_of mcd_52)) (mcP_of mcd_53)) (mcP_of mcd_54)) (mcP_of mcd_55)) (mcP_of mcd_56)) (mcP_of mcd_57)) (mcP_of mcd_58)) (mcP_of mcd_59)
theorem mcs_6 (h : ∀ a, a < 60 → mcP a) : ∀ a, a < 70 → mcP a := lt_s (i := 69) (lt_s (i := 68) (lt_s (i := 67) (lt_s (i := 66) (lt_s (i := 65) (lt_s (i := 64) (lt_s (i := 63) (lt_s (i := 62) (lt_s (i := 61) (lt_s (i := 60) (h) (mcP_of mcd_60)) (mcP_of mcd_61)) (mcP_of mcd_62)) (mcP_of mcd_63)) (mcP_of mcd_64)) (mcP_of mcd_65)) (mcP_of mcd_66)) (mcP_of mcd_67)) (mcP_of mcd_68)) (mcP_of mcd_69)
theorem mcs_7 (h : ∀ a, a < 70 → mcP a) : ∀ a, a < 80 → mcP a := lt_s (i := 79) (lt_s (i := 78) (lt_s (i := 77) (lt_s (i := 76) (lt_s (i := 75) (lt_s (i := 74) (lt_s (i := 73) (lt_s (i := 72) (lt_s (i := 71) (lt_s (i := 70) (h) (mcP_of mcd_70)) (mcP_of mcd_71)) (mcP_of mcd_72)) (mcP_of mcd_73)) (mcP_of mcd_74)) (mcP_of mcd_75)) (mcP_of mcd_76)) (mcP_of mcd_77)) (mcP_of mcd_78)) (mcP_of mcd_79)
theorem mcs_8 (h : ∀ a, a < 80 → mcP a) : ∀ a, a < 90 → mcP a := lt_s (i := 89) (lt_s (i := 88) (lt_s (i := 87) (lt_s (i := 86) (lt_s (i := 85) (lt_s (i := 84) (lt_s (i := 83) (lt_s (i := 82) (lt_s (i := 81) (lt_s (i := 80) (h) (mcP_of mcd_80)) (mcP_of mcd_81)) (mcP_of mcd_82)) (mcP_of mcd_83)) (mcP_of mcd_84)) (mcP_of mcd_85)) (mcP_of mcd_86)) (mcP_of mcd_87)) (mcP_of mcd_88)) (mcP_of mcd_89)
theorem mcs_9 (h : ∀ a, a < 90 → mcP a) : ∀ a, a < 100 → mcP a := lt_s (i := 99) (lt_s (i := 98) (lt_s (i := 97) (lt_s (i := 96) (lt_s (i := 95) (lt_s (i := 94) (lt_s (i := 93) (lt_s (i := 92) (lt_s (i := 91) (lt_s (i := 90) (h) (mcP_of mcd_90)) (mcP_of mcd_91)) (mcP_of mcd_92)) (mcP_of mcd_93)) (mcP_of mcd_94)) (mcP_of mcd_95)) (mcP_of mcd_96)) (mcP_of mcd_97)) (mcP_of mcd_98)) (mcP_of mcd_99)
theorem mcs_10 (h : ∀ a, a < 100 → mcP a) : ∀ a, a < 110 → mcP a := lt_s (i := 109) (lt_s (i := 108) (lt_s (i := 107) (lt_s (i := 106) (lt_s (i := 105) (lt_s (i := 104) (lt_s (i := 103) (lt_s (i := 102) (lt_s (i := 101) (lt_s (i := 100) (h) (mcP_of mcd_100)) (mcP_of mcd_101)) (mcP_of mcd_102)) (mcP_of mcd_103)) (mcP_of mcd_104)) (mcP_of mcd_105)) (mcP_of mcd_106)) (mcP_of mcd_107)) (mcP_of mcd_108)) (mcP_of mcd_109)
theorem mcs_11 (h : ∀ a, a < 110 → mcP a) : ∀ a, a < 120 → mcP a := lt_s (i := 119) (lt_s (i := 118) (lt_s (i := 117) (lt_s (i := 116) (lt_s (i := 115) (lt_s (i := 114) (lt_s (i := 113) (lt_s (i := 112) (lt_s (i := 111) (lt_s (i := 110) (h) (mcP_of mcd_110)) (mcP_of mcd_111)) (mcP_of mcd_112)) (mcP_of mcd_113)) (mcP_of mcd_114)) (mcP_of mcd_115)) (mcP_of mcd_116)) (mcP_of mcd_117)) (mcP_of mcd_118)) (mcP_of mcd_119)
theorem mcs_12 (h : ∀ a, a < 120 → mcP a) : ∀ a, a < 130 → mcP a := lt_s (i := 129) (lt_s (i := 128) (lt_s (i := 127) (lt_s (i := 126) (lt_s (i := 125) (lt_s (i := 124) (lt_s (i := 123) (lt_s (i := 122) (lt_s (i := 121) (lt_s (i := 120) (h) (mcP_of mcd_120)) (mcP_of mcd_121)) (mcP_of mcd_122)) (mcP_of mcd_123)) (mcP_of mcd_124)) (mcP_of mcd_125)) (mcP_of mcd_126)) (mcP_of mcd_127)) (mcP_of mcd_128)) (mcP_of mcd_129)
theorem mcs_13 (h : ∀ a, a < 130 → mcP a) : ∀ a, a < 140 → mcP a := lt_s (i := 139) (lt_s (i := 138) (lt_s (i := 137) (lt_s (i := 136) (lt_s (i := 135) (lt_s (i := 134) (lt_s (i := 133) (lt_s (i := 132) (lt_s (i := 131) (lt_s (i := 130) (h) (mcP_of mcd_130)) (mcP_of mcd_131)) (mcP_of mcd_132)) (mcP_of mcd_133)) (mcP_of mcd_134)) (mcP_of mcd_135)) (mcP_of mcd_136)) (mcP_of mcd_137)) (mcP_of mcd_138)) (mcP_of mcd_139)
theorem mcs_14 (h : ∀ a, a < 140 → mcP a) : ∀ a, a < 150 → mcP a := lt_s (i := 149) (lt_s (i := 148) (lt_s (i := 147) (lt_s (i := 146) (lt_s (i := 145) (lt_s (i := 144) (lt_s (i := 143) (lt_s (i := 142) (lt_s (i := 141) (lt_s (i := 140) (h) (mcP_of mcd_140)) (mcP_of mcd_141)) (mcP_of mcd_142)) (mcP_of mcd_143)) (mcP_of mcd_144)) (mcP_of mcd_145)) (mcP_of mcd_146)) (mcP_of mcd_147)) (mcP_of mcd_148)) (mcP_of mcd_149)
theorem mcd_all : ∀ k, k < 150 → mcP k := (mcs_14 (mcs_13 (mcs_12 (mcs_11 (mcs_10 (mcs_9 (mcs_8 (mcs_7 (mcs_6 (mcs_5 (mcs_4 (mcs_3 (mcs_2 (mcs_1 (mcs_0 lt_0)))))))))))))))
