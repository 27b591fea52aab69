/-! what the tables say of the names: every word by its place -/
def kAW : List Cond := lw_tbl.filter goodWord
theorem kAW_of {w : Cond} {i : Nat} (h : lw_tbl[i]? = some w) (hg : goodWord w = true) : w ∈ kAW := List.mem_filter.mpr ⟨List.mem_of_getElem? h, hg⟩
theorem kAW_good : GoodIn kAW kAW := fun w h => ⟨h, good_of_word (List.mem_filter.mp h).2⟩
theorem kc_0 : lw_tbl[mpc 0]? = some (.code (my 0) (mbyt 0) (mnL 0) (mrt 0)) := by decide +kernel
theorem kc_1 : lw_tbl[mpc 1]? = some (.code (my 1) (mbyt 1) (mnL 1) (mrt 1)) := by decide +kernel
theorem kc_2 : lw_tbl[mpc 2]? = some (.code (my 2) (mbyt 2) (mnL 2) (mrt 2)) := by decide +kernel
theorem kc_3 : lw_tbl[mpc 3]? = some (.code (my 3) (mbyt 3) (mnL 3) (mrt 3)) := by decide +kernel
theorem kc_4 : lw_tbl[mpc 4]? = some (.code (my 4) (mbyt 4) (mnL 4) (mrt 4)) := by decide +kernel
theorem kc_5 : lw_tbl[mpc 5]? = some (.code (my 5) (mbyt 5) (mnL 5) (mrt 5)) := by decide +kernel
theorem kc_6 : lw_tbl[mpc 6]? = some (.code (my 6) (mbyt 6) (mnL 6) (mrt 6)) := by decide +kernel
theorem kc_7 : lw_tbl[mpc 7]? = some (.code (my 7) (mbyt 7) (mnL 7) (mrt 7)) := by decide +kernel
theorem kc_8 : lw_tbl[mpc 8]? = some (.code (my 8) (mbyt 8) (mnL 8) (mrt 8)) := by decide +kernel
theorem kc_9 : lw_tbl[mpc 9]? = some (.code (my 9) (mbyt 9) (mnL 9) (mrt 9)) := by decide +kernel
theorem kc_10 : lw_tbl[mpc 10]? = some (.code (my 10) (mbyt 10) (mnL 10) (mrt 10)) := by decide +kernel
theorem kc_11 : lw_tbl[mpc 11]? = some (.code (my 11) (mbyt 11) (mnL 11) (mrt 11)) := by decide +kernel
theorem kc_12 : lw_tbl[mpc 12]? = some (.code (my 12) (mbyt 12) (mnL 12) (mrt 12)) := by decide +kernel
theorem kc_13 : lw_tbl[mpc 13]? = some (.code (my 13) (mbyt 13) (mnL 13) (mrt 13)) := by decide +kernel
theorem kc_14 : lw_tbl[mpc 14]? = some (.code (my 14) (mbyt 14) (mnL 14) (mrt 14)) := by decide +kernel
theorem kc_15 : lw_tbl[mpc 15]? = some (.code (my 15) (mbyt 15) (mnL 15) (mrt 15)) := by decide +kernel
theorem kc_16 : lw_tbl[mpc 16]? = some (.code (my 16) (mbyt 16) (mnL 16) (mrt 16)) := by decide +kernel
theorem kc_17 : lw_tbl[mpc 17]? = some (.code (my 17) (mbyt 17) (mnL 17) (mrt 17)) := by decide +kernel
theorem kc_18 : lw_tbl[mpc 18]? = some (.code (my 18) (mbyt 18) (mnL 18) (mrt 18)) := by decide +kernel
theorem kc_19 : lw_tbl[mpc 19]? = some (.code (my 19) (mbyt 19) (mnL 19) (mrt 19)) := by decide +kernel
theorem kc_20 : lw_tbl[mpc 20]? = some (.code (my 20) (mbyt 20) (mnL 20) (mrt 20)) := by decide +kernel
theorem kc_21 : lw_tbl[mpc 21]? = some (.code (my 21) (mbyt 21) (mnL 21) (mrt 21)) := by decide +kernel
theorem kc_22 : lw_tbl[mpc 22]? = some (.code (my 22) (mbyt 22) (mnL 22) (mrt 22)) := by decide +kernel
theorem kc_23 : lw_tbl[mpc 23]? = some (.code (my 23) (mbyt 23) (mnL 23) (mrt 23)) := by decide +kernel
theorem kc_24 : lw_tbl[mpc 24]? = some (.code (my 24) (mbyt 24) (mnL 24) (mrt 24)) := by decide +kernel
theorem kc_25 : lw_tbl[mpc 25]? = some (.code (my 25) (mbyt 25) (mnL 25) (mrt 25)) := by decide +kernel
theorem kc_26 : lw_tbl[mpc 26]? = some (.code (my 26) (mbyt 26) (mnL 26) (mrt 26)) := by decide +kernel
theorem kc_27 : lw_tbl[mpc 27]? = some (.code (my 27) (mbyt 27) (mnL 27) (mrt 27)) := by decide +kernel
theorem kc_28 : lw_tbl[mpc 28]? = some (.code (my 28) (mbyt 28) (mnL 28) (mrt 28)) := by decide +kernel
theorem kc_29 : lw_tbl[mpc 29]? = some (.code (my 29) (mbyt 29) (mnL 29) (mrt 29)) := by decide +kernel
theorem kc_30 : lw_tbl[mpc 30]? = some (.code (my 30) (mbyt 30) (mnL 30) (mrt 30)) := by decide +kernel
theorem kc_31 : lw_tbl[mpc 31]? = some (.code (my 31) (mbyt 31) (mnL 31) (mrt 31)) := by decide +kernel
theorem kc_32 : lw_tbl[mpc 32]? = some (.code (my 32) (mbyt 32) (mnL 32) (mrt 32)) := by decide +kernel
theorem kc_33 : lw_tbl[mpc 33]? = some (.code (my 33) (mbyt 33) (mnL 33) (mrt 33)) := by decide +kernel
theorem kc_34 : lw_tbl[mpc 34]? = some (.code (my 34) (mbyt 34) (mnL 34) (mrt 34)) := by decide +kernel
theorem kc_35 : lw_tbl[mpc 35]? = some (.code (my 35) (mbyt 35) (mnL 35) (mrt 35)) := by decide +kernel
theorem kc_36 : lw_tbl[mpc 36]? = some (.code (my 36) (mbyt 36) (mnL 36) (mrt 36)) := by decide +kernel
theorem kc_37 : lw_tbl[mpc 37]? = some (.code (my 37) (mbyt 37) (mnL 37) (mrt 37)) := by decide +kernel
theorem kc_38 : lw_tbl[mpc 38]? = some (.code (my 38) (mbyt 38) (mnL 38) (mrt 38)) := by decide +kernel
theorem kc_39 : lw_tbl[mpc 39]? = some (.code (my 39) (mbyt 39) (mnL 39) (mrt 39)) := by decide +kernel
theorem kc_40 : lw_tbl[mpc 40]? = some (.code (my 40) (mbyt 40) (mnL 40) (mrt 40)) := by decide +kernel
theorem kc_41 : lw_tbl[mpc 41]? = some (.code (my 41) (mbyt 41) (mnL 41) (mrt 41)) := by decide +kernel
theorem kc_42 : lw_tbl[mpc 42]? = some (.code (my 42) (mbyt 42) (mnL 42) (mrt 42)) := by decide +kernel
theorem kc_43 : lw_tbl[mpc 43]? = some (.code (my 43) (mbyt 43) (mnL 43) (mrt 43)) := by decide +kernel
theorem kc_44 : lw_tbl[mpc 44]? = some (.code (my 44) (mbyt 44) (mnL 44) (mrt 44)) := by decide +kernel
theorem kc_45 : lw_tbl[mpc 45]? = some (.code (my 45) (mbyt 45) (mnL 45) (mrt 45)) := by decide +kernel
theorem kc_46 : lw_tbl[mpc 46]? = some (.code (my 46) (mbyt 46) (mnL 46) (mrt 46)) := by decide +kernel
theorem kc_47 : lw_tbl[mpc 47]? = some (.code (my 47) (mbyt 47) (mnL 47) (mrt 47)) := by decide +kernel
theorem kc_48 : lw_tbl[mpc 48]? = some (.code (my 48) (mbyt 48) (mnL 48) (mrt 48)) := by decide +kernel
theorem kc_49 : lw_tbl[mpc 49]? = some (.code (my 49) (mbyt 49) (mnL 49) (mrt 49)) := by decide +kernel
theorem kc_50 : lw_tbl[mpc 50]? = some (.code (my 50) (mbyt 50) (mnL 50) (mrt 50)) := by decide +kernel
theorem kc_51 : lw_tbl[mpc 51]? = some (.code (my 51) (mbyt 51) (mnL 51) (mrt 51)) := by decide +kernel
theorem kc_52 : lw_tbl[mpc 52]? = some (.code (my 52) (mbyt 52) (mnL 52) (mrt 52)) := by decide +kernel
theorem kc_53 : lw_tbl[mpc 53]? = some (.code (my 53) (mbyt 53) (mnL 53) (mrt 53)) := by decide +kernel
theorem kc_54 : lw_tbl[mpc 54]? = some (.code (my 54) (mbyt 54) (mnL 54) (mrt 54)) := by decide +kernel
theorem kc_55 : lw_tbl[mpc 55]? = some (.code (my 55) (mbyt 55) (mnL 55) (mrt 55)) := by decide +kernel
theorem kc_56 : lw_tbl[mpc 56]? = some (.code (my 56) (mbyt 56) (mnL 56) (mrt 56)) := by decide +kernel
theorem kc_57 : lw_tbl[mpc 57]? = some (.code (my 57) (mbyt 57) (mnL 57) (mrt 57)) := by decide +kernel
theorem kc_58 : lw_tbl[mpc 58]? = some (.code (my 58) (mbyt 58) (mnL 58) (mrt 58)) := by decide +kernel
theorem kc_59 : lw_tbl[mpc 59]? = some (.code (my 59) (mbyt 59) (mnL 59) (mrt 59)) := by decide +kernel
theorem kc_60 : lw_tbl[mpc 60]? = some (.code (my 60) (mbyt 60) (mnL 60) (mrt 60)) := by decide +kernel
theorem kc_61 : lw_tbl[mpc 61]? = some (.code (my 61) (mbyt 61) (mnL 61) (mrt 61)) := by decide +kernel
theorem kc_62 : lw_tbl[mpc 62]? = some (.code (my 62) (mbyt 62) (mnL 62) (mrt 62)) := by decide +kernel
theorem kc_63 : lw_tbl[mpc 63]? = some (.code (my 63) (mbyt 63) (mnL 63) (mrt 63)) := by decide +kernel
theorem kc_64 : lw_tbl[mpc 64]? = some (.code (my 64) (mbyt 64) (mnL 64) (mrt 64)) := by decide +kernel
theorem kc_65 : lw_tbl[mpc 65]? = some (.code (my 65) (mbyt 65) (mnL 65) (mrt 65)) := by decide +kernel
theorem kc_66 : lw_tbl[mpc 66]? = some (.code (my 66) (mbyt 66) (mnL 66) (mrt 66)) := by decide +kernel
theorem kc_67 : lw_tbl[mpc 67]? = some (.code (my 67) (mbyt 67) (mnL 67) (mrt 67)) := by decide +kernel
theorem kc_68 : lw_tbl[mpc 68]? = some (.code (my 68) (mbyt 68) (mnL 68) (mrt 68)) := by decide +kernel
theorem kc_69 : lw_tbl[mpc 69]? = some (.code (my 69) (mbyt 69) (mnL 69) (mrt 69)) := by decide +kernel
theorem kc_70 : lw_tbl[mpc 70]? = some (.code (my 70) (mbyt 70) (mnL 70) (mrt 70)) := by decide +kernel
theorem kc_71 : lw_tbl[mpc 71]? = some (.code (my 71) (mbyt 71) (mnL 71) (mrt 71)) := by decide +kernel
theorem kc_72 : lw_tbl[mpc 72]? = some (.code (my 72) (mbyt 72) (mnL 72) (mrt 72)) := by decide +kernel
theorem kc_73 : lw_tbl[mpc 73]? = some (.code (my 73) (mbyt 73) (mnL 73) (mrt 73)) := by decide +kernel
theorem kc_74 : lw_tbl[mpc 74]? = some (.code (my 74) (mbyt 74) (mnL 74) (mrt 74)) := by decide +kernel
theorem kc_75 : lw_tbl[mpc 75]? = some (.code (my 75) (mbyt 75) (mnL 75) (mrt 75)) := by decide +kernel
theorem kc_76 : lw_tbl[mpc 76]? = some (.code (my 76) (mbyt 76) (mnL 76) (mrt 76)) := by decide +kernel
theorem kc_77 : lw_tbl[mpc 77]? = some (.code (my 77) (mbyt 77) (mnL 77) (mrt 77)) := by decide +kernel
theorem kc_78 : lw_tbl[mpc 78]? = some (.code (my 78) (mbyt 78) (mnL 78) (mrt 78)) := by decide +kernel
theorem kc_79 : lw_tbl[mpc 79]? = some (.code (my 79) (mbyt 79) (mnL 79) (mrt 79)) := by decide +kernel
theorem kc_80 : lw_tbl[mpc 80]? = some (.code (my 80) (mbyt 80) (mnL 80) (mrt 80)) := by decide +kernel
theorem kc_81 : lw_tbl[mpc 81]? = some (.code (my 81) (mbyt 81) (mnL 81) (mrt 81)) := by decide +kernel
theorem kc_82 : lw_tbl[mpc 82]? = some (.code (my 82) (mbyt 82) (mnL 82) (mrt 82)) := by decide +kernel
theorem kc_83 : lw_tbl[mpc 83]? = some (.code (my 83) (mbyt 83) (mnL 83) (mrt 83)) := by decide +kernel
theorem kc_84 : lw_tbl[mpc 84]? = some (.code (my 84) (mbyt 84) (mnL 84) (mrt 84)) := by decide +kernel
theorem kc_85 : lw_tbl[mpc 85]? = some (.code (my 85) (mbyt 85) (mnL 85) (mrt 85)) := by decide +kernel
theorem kc_86 : lw_tbl[mpc 86]? = some (.code (my 86) (mbyt 86) (mnL 86) (mrt 86)) := by decide +kernel
theorem kc_87 : lw_tbl[mpc 87]? = some (.code (my 87) (mbyt 87) (mnL 87) (mrt 87)) := by decide +kernel
theorem kc_88 : lw_tbl[mpc 88]? = some (.code (my 88) (mbyt 88) (mnL 88) (mrt 88)) := by decide +kernel
theorem kc_89 : lw_tbl[mpc 89]? = some (.code (my 89) (mbyt 89) (mnL 89) (mrt 89)) := by decide +kernel
theorem kc_90 : lw_tbl[mpc 90]? = some (.code (my 90) (mbyt 90) (mnL 90) (mrt 90)) := by decide +kernel
theorem kc_91 : lw_tbl[mpc 91]? = some (.code (my 91) (mbyt 91) (mnL 91) (mrt 91)) := by decide +kernel
theorem kc_92 : lw_tbl[mpc 92]? = some (.code (my 92) (mbyt 92) (mnL 92) (mrt 92)) := by decide +kernel
theorem kc_93 : lw_tbl[mpc 93]? = some (.code (my 93) (mbyt 93) (mnL 93) (mrt 93)) := by decide +kernel
theorem kc_94 : lw_tbl[mpc 94]? = some (.code (my 94) (mbyt 94) (mnL 94) (mrt 94)) := by decide +kernel
theorem kc_95 : lw_tbl[mpc 95]? = some (.code (my 95) (mbyt 95) (mnL 95) (mrt 95)) := by decide +kernel
theorem kc_96 : lw_tbl[mpc 96]? = some (.code (my 96) (mbyt 96) (mnL 96) (mrt 96)) := by decide +kernel
theorem kc_97 : lw_tbl[mpc 97]? = some (.code (my 97) (mbyt 97) (mnL 97) (mrt 97)) := by decide +kernel
theorem kc_98 : lw_tbl[mpc 98]? = some (.code (my 98) (mbyt 98) (mnL 98) (mrt 98)) := by decide +kernel
theorem kc_99 : lw_tbl[mpc 99]? = some (.code (my 99) (mbyt 99) (mnL 99) (mrt 99)) := by decide +kernel
theorem kc_100 : lw_tbl[mpc 100]? = some (.code (my 100) (mbyt 100) (mnL 100) (mrt 100)) := by decide +kernel
theorem kc_101 : lw_tbl[mpc 101]? = some (.code (my 101) (mbyt 101) (mnL 101) (mrt 101)) := by decide +kernel
theorem kc_102 : lw_tbl[mpc 102]? = some (.code (my 102) (mbyt 102) (mnL 102) (mrt 102)) := by decide +kernel
theorem kc_103 : lw_tbl[mpc 103]? = some (.code (my 103) (mbyt 103) (mnL 103) (mrt 103)) := by decide +kernel
theorem kc_104 : lw_tbl[mpc 104]? = some (.code (my 104) (mbyt 104) (mnL 104) (mrt 104)) := by decide +kernel
theorem kc_105 : lw_tbl[mpc 105]? = some (.code (my 105) (mbyt 105) (mnL 105) (mrt 105)) := by decide +kernel
theorem kc_106 : lw_tbl[mpc 106]? = some (.code (my 106) (mbyt 106) (mnL 106) (mrt 106)) := by decide +kernel
theorem kc_107 : lw_tbl[mpc 107]? = some (.code (my 107) (mbyt 107) (mnL 107) (mrt 107)) := by decide +kernel
theorem kc_108 : lw_tbl[mpc 108]? = some (.code (my 108) (mbyt 108) (mnL 108) (mrt 108)) := by decide +kernel
theorem kc_109 : lw_tbl[mpc 109]? = some (.code (my 109) (mbyt 109) (mnL 109) (mrt 109)) := by decide +kernel
theorem kc_110 : lw_tbl[mpc 110]? = some (.code (my 110) (mbyt 110) (mnL 110) (mrt 110)) := by decide +kernel
theorem kc_111 : lw_tbl[mpc 111]? = some (.code (my 111) (mbyt 111) (mnL 111) (mrt 111)) := by decide +kernel
theorem kc_112 : lw_tbl[mpc 112]? = some (.code (my 112) (mbyt 112) (mnL 112) (mrt 112)) := by decide +kernel
theorem kc_113 : lw_tbl[mpc 113]? = some (.code (my 113) (mbyt 113) (mnL 113) (mrt 113)) := by decide +kernel
theorem kc_114 : lw_tbl[mpc 114]? = some (.code (my 114) (mbyt 114) (mnL 114) (mrt 114)) := by decide +kernel
theorem kc_115 : lw_tbl[mpc 115]? = some (.code (my 115) (mbyt 115) (mnL 115) (mrt 115)) := by decide +kernel
theorem kc_116 : lw_tbl[mpc 116]? = some (.code (my 116) (mbyt 116) (mnL 116) (mrt 116)) := by decide +kernel
theorem kc_117 : lw_tbl[mpc 117]? = some (.code (my 117) (mbyt 117) (mnL 117) (mrt 117)) := by decide +kernel
theorem kc_118 : lw_tbl[mpc 118]? = some (.code (my 118) (mbyt 118) (mnL 118) (mrt 118)) := by decide +kernel
theorem kc_119 : lw_tbl[mpc 119]? = some (.code (my 119) (mbyt 119) (mnL 119) (mrt 119)) := by decide +kernel
theorem kc_120 : lw_tbl[mpc 120]? = some (.code (my 120) (mbyt 120) (mnL 120) (mrt 120)) := by decide +kernel
theorem kc_121 : lw_tbl[mpc 121]? = some (.code (my 121) (mbyt 121) (mnL 121) (mrt 121)) := by decide +kernel
theorem kc_122 : lw_tbl[mpc 122]? = some (.code (my 122) (mbyt 122) (mnL 122) (mrt 122)) := by decide +kernel
theorem kc_123 : lw_tbl[mpc 123]? = some (.code (my 123) (mbyt 123) (mnL 123) (mrt 123)) := by decide +kernel
theorem kc_124 : lw_tbl[mpc 124]? = some (.code (my 124) (mbyt 124) (mnL 124) (mrt 124)) := by decide +kernel
theorem kc_125 : lw_tbl[mpc 125]? = some (.code (my 125) (mbyt 125) (mnL 125) (mrt 125)) := by decide +kernel
theorem kc_126 : lw_tbl[mpc 126]? = some (.code (my 126) (mbyt 126) (mnL 126) (mrt 126)) := by decide +kernel
theorem kc_127 : lw_tbl[mpc 127]? = some (.code (my 127) (mbyt 127) (mnL 127) (mrt 127)) := by decide +kernel
theorem kc_128 : lw_tbl[mpc 128]? = some (.code (my 128) (mbyt 128) (mnL 128) (mrt 128)) := by decide +kernel
theorem kc_129 : lw_tbl[mpc 129]? = some (.code (my 129) (mbyt 129) (mnL 129) (mrt 129)) := by decide +kernel
theorem kc_130 : lw_tbl[mpc 130]? = some (.code (my 130) (mbyt 130) (mnL 130) (mrt 130)) := by decide +kernel
theorem kc_131 : lw_tbl[mpc 131]? = some (.code (my 131) (mbyt 131) (mnL 131) (mrt 131)) := by decide +kernel
theorem kc_132 : lw_tbl[mpc 132]? = some (.code (my 132) (mbyt 132) (mnL 132) (mrt 132)) := by decide +kernel
theorem kc_133 : lw_tbl[mpc 133]? = some (.code (my 133) (mbyt 133) (mnL 133) (mrt 133)) := by decide +kernel
theorem kc_134 : lw_tbl[mpc 134]? = some (.code (my 134) (mbyt 134) (mnL 134) (mrt 134)) := by decide +kernel
theorem kc_135 : lw_tbl[mpc 135]? = some (.code (my 135) (mbyt 135) (mnL 135) (mrt 135)) := by decide +kernel
theorem kc_136 : lw_tbl[mpc 136]? = some (.code (my 136) (mbyt 136) (mnL 136) (mrt 136)) := by decide +kernel
theorem kc_137 : lw_tbl[mpc 137]? = some (.code (my 137) (mbyt 137) (mnL 137) (mrt 137)) := by decide +kernel
theorem kc_138 : lw_tbl[mpc 138]? = some (.code (my 138) (mbyt 138) (mnL 138) (mrt 138)) := by decide +kernel
theorem kc_139 : lw_tbl[mpc 139]? = some (.code (my 139) (mbyt 139) (mnL 139) (mrt 139)) := by decide +kernel
theorem kc_140 : lw_tbl[mpc 140]? = some (.code (my 140) (mbyt 140) (mnL 140) (mrt 140)) := by decide +kernel
theorem kc_141 : lw_tbl[mpc 141]? = some (.code (my 141) (mbyt 141) (mnL 141) (mrt 141)) := by decide +kernel
theorem kc_142 : lw_tbl[mpc 142]? = some (.code (my 142) (mbyt 142) (mnL 142) (mrt 142)) := by decide +kernel
theorem kc_143 : lw_tbl[mpc 143]? = some (.code (my 143) (mbyt 143) (mnL 143) (mrt 143)) := by decide +kernel
theorem kc_144 : lw_tbl[mpc 144]? = some (.code (my 144) (mbyt 144) (mnL 144) (mrt 144)) := by decide +kernel
theorem kc_145 : lw_tbl[mpc 145]? = some (.code (my 145) (mbyt 145) (mnL 145) (mrt 145)) := by decide +kernel
theorem kc_146 : lw_tbl[mpc 146]? = some (.code (my 146) (mbyt 146) (mnL 146) (mrt 146)) := by decide +kernel
theorem kc_147 : lw_tbl[mpc 147]? = some (.code (my 147) (mbyt 147) (mnL 147) (mrt 147)) := by decide +kernel
theorem kc_148 : lw_tbl[mpc 148]? = some (.code (my 148) (mbyt 148) (mnL 148) (mrt 148)) := by decide +kernel
theorem kc_149 : lw_tbl[mpc 149]? = some (.code (my 149) (mbyt 149) (mnL 149) (mrt 149)) := by decide +kernel
theorem kc_150 : lw_tbl[mpc 150]? = some (.code (my 150) (mbyt 150) (mnL 150) (mrt 150)) := by decide +kernel
theorem kc_152 : lw_tbl[mpc 152]? = some (.code (my 152) (mbyt 152) (mnL 152) (mrt 152)) := by decide +kernel
theorem kc_153 : lw_tbl[mpc 153]? = some (.code (my 153) (mbyt 153) (mnL 153) (mrt 153)) := by decide +kernel
theorem kc_154 : lw_tbl[mpc 154]? = some (.code (my 154) (mbyt 154) (mnL 154) (mrt 154)) := by decide +kernel
theorem kc_155 : lw_tbl[mpc 155]? = some (.code (my 155) (mbyt 155) (mnL 155) (mrt 155)) := by decide +kernel
theorem kc_156 : lw_tbl[mpc 156]? = some (.code (my 156) (mbyt 156) (mnL 156) (mrt 156)) := by decide +kernel
theorem kc_157 : lw_tbl[mpc 157]? = some (.code (my 157) (mbyt 157) (mnL 157) (mrt 157)) := by decide +kernel
theorem kc_158 : lw_tbl[mpc 158]? = some (.code (my 158) (mbyt 158) (mnL 158) (mrt 158)) := by decide +kernel
theorem kc_159 : lw_tbl[mpc 159]? = some (.code (my 159) (mbyt 159) (mnL 159) (mrt 159)) := by decide +kernel
theorem kc_160 : lw_tbl[mpc 160]? = some (.code (my 160) (mbyt 160) (mnL 160) (mrt 160)) := by decide +kernel
theorem kc_161 : lw_tbl[mpc 161]? = some (.code (my 161) (mbyt 161) (mnL 161) (mrt 161)) := by decide +kernel
theorem kc_162 : lw_tbl[mpc 162]? = some (.code (my 162) (mbyt 162) (mnL 162) (mrt 162)) := by decide +kernel
theorem kT_code : ∀ m, m < 163 → m ≠ 151 → lw_tbl[mpc m]? = some (.code (my m) (mbyt m) (mnL m) (mrt m)) :=
  lt_s (lt_s (lt_s (lt_s (lt_s (lt_s (lt_s (lt_s (lt_s (lt_s (lt_s (lt_s (lt_s (lt_s (lt_s (lt_s (lt_s (lt_s (lt_s (lt_s (lt_s (lt_s (lt_s (lt_s (lt_s (lt_s (lt_s (lt_s (lt_s (lt_s (lt_s (lt_s (lt_s (lt_s (lt_s (lt_s (lt_s (lt_s (lt_s (lt_s (lt_s (lt_s (lt_s (lt_s (lt_s (lt_s (lt_s (lt_s (lt_s (lt_s (lt_s (lt_s (lt_s (lt_s (lt_s (lt_s (lt_s (lt_s (lt_s (lt_s (lt_s (lt_s (lt_s (lt_s (lt_s (lt_s (lt_s (lt_s (lt_s (lt_s (lt_s (lt_s (lt_s (lt_s (lt_s (lt_s (lt_s (lt_s (lt_s (lt_s (lt_s (lt_s (lt_s (lt_s (lt_s (lt_s (lt_s (lt_s (lt_s (lt_s (lt_s (lt_s (lt_s (lt_s (lt_s (lt_s (lt_s (lt_s (lt_s (lt_s (lt_s (lt_s (lt_s (lt_s (lt_s (lt_s (lt_s (lt_s (lt_s (lt_s (lt_s (lt_s (lt_s (lt_s (lt_s (lt_s (lt_s (lt_s (lt_s (lt_s (lt_s (lt_s (lt_s (lt_s (lt_s (lt_s (lt_s (lt_s (lt_s (lt_s (lt_s (lt_s (lt_s (lt_s (lt_s (lt_s (lt_s (lt_s (lt_s (lt_s (lt_s (lt_s (lt_s (lt_s (lt_s (lt_s (lt_s (lt_s (lt_s (lt_s (lt_s (lt_s (lt_s (lt_s (lt_s (lt_s (lt_s (lt_s (lt_s (lt_s (lt_s (lt_s (lt_s (lt_0) (fun _ => kc_0)) (fun _ => kc_1)) (fun _ => kc_2)) (fun _ => kc_3)) (fun _ => kc_4)) (fun _ => kc_5)) (fun _ => kc_6)) (fun _ => kc_7)) (fun _ => kc_8)) (fun _ => kc_9)) (fun _ => kc_10)) (fun _ => kc_11)) (fun _ => kc_12)) (fun _ => kc_13)) (fun _ => kc_14)) (fun _ => kc_15)) (fun _ => kc_16)) (fun _ => kc_17)) (fun _ => kc_18)) (fun _ => kc_19)) (fun _ => kc_20)) (fun _ => kc_21)) (fun _ => kc_22)) (fun _ => kc_23)) (fun _ => kc_24)) (fun _ => kc_25)) (fun _ => kc_26)) (fun _ => kc_27)) (fun _ => kc_28)) (fun _ => kc_29)) (fun _ => kc_30)) (fun _ => kc_31)) (fun _ => kc_32)) (fun _ => kc_33)) (fun _ => kc_34)) (fun _ => kc_35)) (fun _ => kc_36)) (fun _ => kc_37)) (fun _ => kc_38)) (fun _ => kc_39)) (fun _ => kc_40)) (fun _ => kc_41)) (fun _ => kc_42)) (fun _ => kc_43)) (fun _ => kc_44)) (fun _ => kc_45)) (fun _ => kc_46)) (fun _ => kc_47)) (fun _ => kc_48)) (fun _ => kc_49)) (fun _ => kc_50)) (fun _ => kc_51)) (fun _ => kc_52)) (fun _ => kc_53)) (fun _ => kc_54)) (fun _ => kc_55)) (fun _ => kc_56)) (fun _ => kc_57)) (fun _ => kc_58)) (fun _ => kc_59)) (fun _ => kc_60)) (fun _ => kc_61)) (fun _ => kc_62)) (fun _ => kc_63)) (fun _ => kc_64)) (fun _ => kc_65)) (fun _ => kc_66)) (fun _ => kc_67)) (fun _ => kc_68)) (fun _ => kc_69)) (fun _ => kc_70)) (fun _ => kc_71)) (fun _ => kc_72)) (fun _ => kc_73)) (fun _ => kc_74)) (fun _ => kc_75)) (fun _ => kc_76)) (fun _ => kc_77)) (fun _ => kc_78)) (fun _ => kc_79)) (fun _ => kc_80)) (fun _ => kc_81)) (fun _ => kc_82)) (fun _ => kc_83)) (fun _ => kc_84)) (fun _ => kc_85)) (fun _ => kc_86)) (fun _ => kc_87)) (fun _ => kc_88)) (fun _ => kc_89)) (fun _ => kc_90)) (fun _ => kc_91)) (fun _ => kc_92)) (fun _ => kc_93)) (fun _ => kc_94)) (fun _ => kc_95)) (fun _ => kc_96)) (fun _ => kc_97)) (fun _ => kc_98)) (fun _ => kc_99)) (fun _ => kc_100)) (fun _ => kc_101)) (fun _ => kc_102)) (fun _ => kc_103)) (fun _ => kc_104)) (fun _ => kc_105)) (fun _ => kc_106)) (fun _ => kc_107)) (fun _ => kc_108)) (fun _ => kc_109)) (fun _ => kc_110)) (fun _ => kc_111)) (fun _ => kc_112)) (fun _ => kc_113)) (fun _ => kc_114)) (fun _ => kc_115)) (fun _ => kc_116)) (fun _ => kc_117)) (fun _ => kc_118)) (fun _ => kc_119)) (fun _ => kc_120)) (fun _ => kc_121)) (fun _ => kc_122)) (fun _ => kc_123)) (fun _ => kc_124)) (fun _ => kc_125)) (fun _ => kc_126)) (fun _ => kc_127)) (fun _ => kc_128)) (fun _ => kc_129)) (fun _ => kc_130)) (fun _ => kc_131)) (fun _ => kc_132)) (fun _ => kc_133)) (fun _ => kc_134)) (fun _ => kc_135)) (fun _ => kc_136)) (fun _ => kc_137)) (fun _ => kc_138)) (fun _ => kc_139)) (fun _ => kc_140)) (fun _ => kc_141)) (fun _ => kc_142)) (fun _ => kc_143)) (fun _ => kc_144)) (fun _ => kc_145)) (fun _ => kc_146)) (fun _ => kc_147)) (fun _ => kc_148)) (fun _ => kc_149)) (fun _ => kc_150)) (fun h => absurd rfl h)) (fun _ => kc_152)) (fun _ => kc_153)) (fun _ => kc_154)) (fun _ => kc_155)) (fun _ => kc_156)) (fun _ => kc_157)) (fun _ => kc_158)) (fun _ => kc_159)) (fun _ => kc_160)) (fun _ => kc_161)) (fun _ => kc_162)
theorem kT_init : ∀ m, m < 163 → lw_tbl[mpi m]? = some (.initialized (my m).cls) := by decide +kernel
theorem kT_own1 : ∀ m, m < 163 → (my m).cls = cow (mow m) := by decide +kernel
theorem kT_own2 : ∀ m, m < 163 → plainName (my m).cls = true := by decide +kernel
theorem kT_own3 : ∀ m, m < 163 → (my m).cls ≠ "java/lang/invoke/MethodHandle" ∧ (my m).cls ≠ "java/lang/invoke/VarHandle" := by decide +kernel
theorem kT_own4 : ∀ m, m < 163 → (parseMethodDescriptor (my m).desc).map (fun d => d.parameters.length) = some (mna m) := by decide +kernel
theorem kT_fld : ∀ q ∈ kfT, q.2.2.1 < 6 → ∀ r, vwCl[q.2.2.1]? = some r → lw_tbl[q.2.2.2.2]? = some (.fieldLink (cow q.1) q.2.1 r.1 (r.2.1 q.2.2.2.1).2.1 (r.2.1 q.2.2.2.1).2.2.1) ∧ q.2.2.2.1 < r.2.2 ∧ (r.2.1 q.2.2.2.1).1 = r.1 := by
  intro q hq
  have h : ∀ q ∈ kfT, q.2.2.1 < 6 → (vwCl[q.2.2.1]?).elim true (fun r => decide (lw_tbl[q.2.2.2.2]? = some (.fieldLink (cow q.1) q.2.1 r.1 (r.2.1 q.2.2.2.1).2.1 (r.2.1 q.2.2.2.1).2.2.1) ∧ q.2.2.2.1 < r.2.2 ∧ (r.2.1 q.2.2.2.1).1 = r.1)) = true := by decide +kernel
  intro h6 r hr
  have h1 := h q hq h6
  rw [hr] at h1
  exact of_decide_eq_true h1
theorem kT_fldS : ∀ q ∈ kfT, ¬ q.2.2.1 < 6 → (q.2.2.2.1 = 0 ∧ lw_tbl[q.2.2.2.2]? = some (.fieldLink (cow q.1) q.2.1 "java/lang/String" "value" "[B")) ∨ (q.2.2.2.1 = 1 ∧ lw_tbl[q.2.2.2.2]? = some (.fieldLink (cow q.1) q.2.1 "java/lang/String" "coder" "B")) := by decide +kernel
theorem kT_cal : ∀ q ∈ kcT, q.2.2.2.1 < 163 ∧ q.2.2.2.1 ≠ 151 ∧
    ((q.2.2.1 = 0 ∧ lw_tbl[q.2.2.2.2.1]? = some (.methodLink (cow q.1) q.2.1 (my q.2.2.2.1)) ∧ lw_tbl[q.2.2.2.2.2.1]? = some (.instanceMethod (my q.2.2.2.1)) ∧ lw_tbl[q.2.2.2.2.2.2]? = some (.selects (my q.2.2.2.1).cls (my q.2.2.2.1) (my q.2.2.2.1)))
    ∨ (q.2.2.1 = 1 ∧ lw_tbl[q.2.2.2.2.1]? = some (.methodLink (cow q.1) q.2.1 (my q.2.2.2.1)) ∧ lw_tbl[q.2.2.2.2.2.1]? = some (.static (my q.2.2.2.1)))
    ∨ (q.2.2.1 = 2 ∧ lw_tbl[q.2.2.2.2.1]? = some (.methodLinkNest (cow q.1) q.2.1 (my q.2.2.2.1) "SneezeKing") ∧ lw_tbl[q.2.2.2.2.2.1]? = some (.static (my q.2.2.2.1)))) := by decide +kernel
theorem kT_int : ∀ q ∈ kiT, lw_tbl[q.2.2.2]? = some (.constant (cow q.1) q.2.1 q.2.2.1) := by decide +kernel
theorem kT_lng : ∀ q ∈ klT, lw_tbl[q.2.2.2]? = some (.constantLong (cow q.1) q.2.1 q.2.2.1) := by decide +kernel
theorem kT_gst : lw_tbl[kgs.2.2]? = some (.fieldLink (cow kgs.1) kgs.2.1 "java/lang/String" "COMPACT_STRINGS" "Z") := by decide +kernel
theorem kT_acp : lw_tbl[kac.2.2]? = some (.methodLink (cow kac.1) kac.2.1 arraycopyName) ∧ lw_tbl[kacn]? = some (.native arraycopyName) ∧ lw_tbl[kacs]? = some (.static arraycopyName) ∧ lw_tbl[kaci]? = some (.initialized "java/lang/System") := by decide +kernel
theorem kT_mmx : ∀ q ∈ kmT, (q.2.2.1 = 0 ∧ lw_tbl[q.2.2.2.1]? = some (.methodLink (cow q.1) q.2.1 Lib.Math.max.name) ∧ lw_tbl[q.2.2.2.2.1]? = some (.static Lib.Math.max.name) ∧ lw_tbl[q.2.2.2.2.2]? = some (.code Lib.Math.max.name Lib.Math.max.code 2 (some .int))) ∨ (q.2.2.1 = 1 ∧ lw_tbl[q.2.2.2.1]? = some (.methodLink (cow q.1) q.2.1 Lib.Math.min.name) ∧ lw_tbl[q.2.2.2.2.1]? = some (.static Lib.Math.min.name) ∧ lw_tbl[q.2.2.2.2.2]? = some (.code Lib.Math.min.name Lib.Math.min.code 2 (some .int))) := by decide +kernel
theorem kT_mini : lw_tbl[kmi]? = some (.initialized "java/lang/Math") := by decide +kernel
