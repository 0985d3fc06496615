set_option maxRecDepth 100000 in
theorem eMp_w0 : lw_tbl[86]? = some (Cond.code (eM 0) (eBy 0) (eMx.getD 0 0) (eRt.getD 0 none)) := rfl
set_option maxRecDepth 100000 in
theorem eMp_w1 : lw_tbl[94]? = some (Cond.code (eM 1) (eBy 1) (eMx.getD 1 0) (eRt.getD 1 none)) := rfl
set_option maxRecDepth 100000 in
theorem eMp_w2 : lw_tbl[167]? = some (Cond.code (eM 2) (eBy 2) (eMx.getD 2 0) (eRt.getD 2 none)) := rfl
set_option maxRecDepth 100000 in
theorem eMp_w3 : lw_tbl[186]? = some (Cond.code (eM 3) (eBy 3) (eMx.getD 3 0) (eRt.getD 3 none)) := rfl
set_option maxRecDepth 100000 in
theorem eMp_w4 : lw_tbl[249]? = some (Cond.code (eM 4) (eBy 4) (eMx.getD 4 0) (eRt.getD 4 none)) := rfl
set_option maxRecDepth 100000 in
theorem eMp_w5 : lw_tbl[295]? = some (Cond.code (eM 5) (eBy 5) (eMx.getD 5 0) (eRt.getD 5 none)) := rfl
set_option maxRecDepth 100000 in
theorem eMp_w6 : lw_tbl[305]? = some (Cond.code (eM 6) (eBy 6) (eMx.getD 6 0) (eRt.getD 6 none)) := rfl
set_option maxRecDepth 100000 in
theorem eMp_w7 : lw_tbl[349]? = some (Cond.code (eM 7) (eBy 7) (eMx.getD 7 0) (eRt.getD 7 none)) := rfl
set_option maxRecDepth 100000 in
theorem eMp_w8 : lw_tbl[352]? = some (Cond.code (eM 8) (eBy 8) (eMx.getD 8 0) (eRt.getD 8 none)) := rfl
set_option maxRecDepth 100000 in
theorem eMp_w9 : lw_tbl[355]? = some (Cond.code (eM 9) (eBy 9) (eMx.getD 9 0) (eRt.getD 9 none)) := rfl
set_option maxRecDepth 100000 in
theorem eMp_w10 : lw_tbl[358]? = some (Cond.code (eM 10) (eBy 10) (eMx.getD 10 0) (eRt.getD 10 none)) := rfl
set_option maxRecDepth 100000 in
theorem eMp_w11 : lw_tbl[361]? = some (Cond.code (eM 11) (eBy 11) (eMx.getD 11 0) (eRt.getD 11 none)) := rfl
set_option maxRecDepth 100000 in
theorem eMp_w12 : lw_tbl[365]? = some (Cond.code (eM 12) (eBy 12) (eMx.getD 12 0) (eRt.getD 12 none)) := rfl
set_option maxRecDepth 100000 in
theorem eMp_w13 : lw_tbl[369]? = some (Cond.code (eM 13) (eBy 13) (eMx.getD 13 0) (eRt.getD 13 none)) := rfl
set_option maxRecDepth 100000 in
theorem eMp_w14 : lw_tbl[373]? = some (Cond.code (eM 14) (eBy 14) (eMx.getD 14 0) (eRt.getD 14 none)) := rfl
set_option maxRecDepth 100000 in
theorem eMp_w15 : lw_tbl[377]? = some (Cond.code (eM 15) (eBy 15) (eMx.getD 15 0) (eRt.getD 15 none)) := rfl
set_option maxRecDepth 100000 in
theorem eMp_w16 : lw_tbl[381]? = some (Cond.code (eM 16) (eBy 16) (eMx.getD 16 0) (eRt.getD 16 none)) := rfl
set_option maxRecDepth 100000 in
theorem eMp_w17 : lw_tbl[385]? = some (Cond.code (eM 17) (eBy 17) (eMx.getD 17 0) (eRt.getD 17 none)) := rfl
set_option maxRecDepth 100000 in
theorem eMp_w18 : lw_tbl[389]? = some (Cond.code (eM 18) (eBy 18) (eMx.getD 18 0) (eRt.getD 18 none)) := rfl
set_option maxRecDepth 100000 in
theorem eMp_w19 : lw_tbl[393]? = some (Cond.code (eM 19) (eBy 19) (eMx.getD 19 0) (eRt.getD 19 none)) := rfl
set_option maxRecDepth 100000 in
theorem eMp_w20 : lw_tbl[397]? = some (Cond.code (eM 20) (eBy 20) (eMx.getD 20 0) (eRt.getD 20 none)) := rfl
set_option maxRecDepth 100000 in
theorem eMp_w21 : lw_tbl[401]? = some (Cond.code (eM 21) (eBy 21) (eMx.getD 21 0) (eRt.getD 21 none)) := rfl
set_option maxRecDepth 100000 in
theorem eMp_w22 : lw_tbl[405]? = some (Cond.code (eM 22) (eBy 22) (eMx.getD 22 0) (eRt.getD 22 none)) := rfl
set_option maxRecDepth 100000 in
theorem eMp_w23 : lw_tbl[409]? = some (Cond.code (eM 23) (eBy 23) (eMx.getD 23 0) (eRt.getD 23 none)) := rfl
set_option maxRecDepth 100000 in
theorem eMp_w24 : lw_tbl[413]? = some (Cond.code (eM 24) (eBy 24) (eMx.getD 24 0) (eRt.getD 24 none)) := rfl
set_option maxRecDepth 100000 in
theorem eMp_w25 : lw_tbl[417]? = some (Cond.code (eM 25) (eBy 25) (eMx.getD 25 0) (eRt.getD 25 none)) := rfl
set_option maxRecDepth 100000 in
theorem eMp_w26 : lw_tbl[421]? = some (Cond.code (eM 26) (eBy 26) (eMx.getD 26 0) (eRt.getD 26 none)) := rfl
set_option maxRecDepth 100000 in
theorem eMp_w27 : lw_tbl[424]? = some (Cond.code (eM 27) (eBy 27) (eMx.getD 27 0) (eRt.getD 27 none)) := rfl
set_option maxRecDepth 100000 in
theorem eMp_w28 : lw_tbl[431]? = some (Cond.code (eM 28) (eBy 28) (eMx.getD 28 0) (eRt.getD 28 none)) := rfl
set_option maxRecDepth 100000 in
theorem eMp_w29 : lw_tbl[435]? = some (Cond.code (eM 29) (eBy 29) (eMx.getD 29 0) (eRt.getD 29 none)) := rfl
set_option maxRecDepth 100000 in
theorem eMp_w30 : lw_tbl[439]? = some (Cond.code (eM 30) (eBy 30) (eMx.getD 30 0) (eRt.getD 30 none)) := rfl
set_option maxRecDepth 100000 in
theorem eMp_w31 : lw_tbl[443]? = some (Cond.code (eM 31) (eBy 31) (eMx.getD 31 0) (eRt.getD 31 none)) := rfl
set_option maxRecDepth 100000 in
theorem eMp_w32 : lw_tbl[450]? = some (Cond.code (eM 32) (eBy 32) (eMx.getD 32 0) (eRt.getD 32 none)) := rfl
set_option maxRecDepth 100000 in
theorem eMp_w33 : lw_tbl[454]? = some (Cond.code (eM 33) (eBy 33) (eMx.getD 33 0) (eRt.getD 33 none)) := rfl
set_option maxRecDepth 100000 in
theorem eMp_w34 : lw_tbl[458]? = some (Cond.code (eM 34) (eBy 34) (eMx.getD 34 0) (eRt.getD 34 none)) := rfl
set_option maxRecDepth 100000 in
theorem eMp_w35 : lw_tbl[463]? = some (Cond.code (eM 35) (eBy 35) (eMx.getD 35 0) (eRt.getD 35 none)) := rfl
set_option maxRecDepth 100000 in
theorem eMp_w36 : lw_tbl[494]? = some (Cond.code (eM 36) (eBy 36) (eMx.getD 36 0) (eRt.getD 36 none)) := rfl
set_option maxRecDepth 100000 in
theorem eMp_w37 : lw_tbl[497]? = some (Cond.code (eM 37) (eBy 37) (eMx.getD 37 0) (eRt.getD 37 none)) := rfl
set_option maxRecDepth 100000 in
theorem eMp_w38 : lw_tbl[553]? = some (Cond.code (eM 38) (eBy 38) (eMx.getD 38 0) (eRt.getD 38 none)) := rfl
set_option maxRecDepth 100000 in
theorem eMp_w39 : lw_tbl[556]? = some (Cond.code (eM 39) (eBy 39) (eMx.getD 39 0) (eRt.getD 39 none)) := rfl
set_option maxRecDepth 100000 in
theorem eMp_w40 : lw_tbl[561]? = some (Cond.code (eM 40) (eBy 40) (eMx.getD 40 0) (eRt.getD 40 none)) := rfl
set_option maxRecDepth 100000 in
theorem eMp_w41 : lw_tbl[565]? = some (Cond.code (eM 41) (eBy 41) (eMx.getD 41 0) (eRt.getD 41 none)) := rfl
set_option maxRecDepth 100000 in
theorem eMp_w42 : lw_tbl[569]? = some (Cond.code (eM 42) (eBy 42) (eMx.getD 42 0) (eRt.getD 42 none)) := rfl
set_option maxRecDepth 100000 in
theorem eMp_w43 : lw_tbl[574]? = some (Cond.code (eM 43) (eBy 43) (eMx.getD 43 0) (eRt.getD 43 none)) := rfl
set_option maxRecDepth 100000 in
theorem eMp_w44 : lw_tbl[578]? = some (Cond.code (eM 44) (eBy 44) (eMx.getD 44 0) (eRt.getD 44 none)) := rfl
set_option maxRecDepth 100000 in
theorem eMp_w45 : lw_tbl[583]? = some (Cond.code (eM 45) (eBy 45) (eMx.getD 45 0) (eRt.getD 45 none)) := rfl
set_option maxRecDepth 100000 in
theorem eMp_w46 : lw_tbl[587]? = some (Cond.code (eM 46) (eBy 46) (eMx.getD 46 0) (eRt.getD 46 none)) := rfl
set_option maxRecDepth 100000 in
theorem eMp_w47 : lw_tbl[592]? = some (Cond.code (eM 47) (eBy 47) (eMx.getD 47 0) (eRt.getD 47 none)) := rfl
set_option maxRecDepth 100000 in
theorem eMp_w48 : lw_tbl[596]? = some (Cond.code (eM 48) (eBy 48) (eMx.getD 48 0) (eRt.getD 48 none)) := rfl
set_option maxRecDepth 100000 in
theorem eMp_w49 : lw_tbl[600]? = some (Cond.code (eM 49) (eBy 49) (eMx.getD 49 0) (eRt.getD 49 none)) := rfl
set_option maxRecDepth 100000 in
theorem eMp_w50 : lw_tbl[604]? = some (Cond.code (eM 50) (eBy 50) (eMx.getD 50 0) (eRt.getD 50 none)) := rfl
set_option maxRecDepth 100000 in
theorem eMp_w51 : lw_tbl[608]? = some (Cond.code (eM 51) (eBy 51) (eMx.getD 51 0) (eRt.getD 51 none)) := rfl
set_option maxRecDepth 100000 in
theorem eMp_w52 : lw_tbl[613]? = some (Cond.code (eM 52) (eBy 52) (eMx.getD 52 0) (eRt.getD 52 none)) := rfl
set_option maxRecDepth 100000 in
theorem eMp_w53 : lw_tbl[617]? = some (Cond.code (eM 53) (eBy 53) (eMx.getD 53 0) (eRt.getD 53 none)) := rfl
set_option maxRecDepth 100000 in
theorem eMp_w54 : lw_tbl[621]? = some (Cond.code (eM 54) (eBy 54) (eMx.getD 54 0) (eRt.getD 54 none)) := rfl
set_option maxRecDepth 100000 in
theorem eMp_w55 : lw_tbl[625]? = some (Cond.code (eM 55) (eBy 55) (eMx.getD 55 0) (eRt.getD 55 none)) := rfl
set_option maxRecDepth 100000 in
theorem eMp_w56 : lw_tbl[631]? = some (Cond.code (eM 56) (eBy 56) (eMx.getD 56 0) (eRt.getD 56 none)) := rfl
set_option maxRecDepth 100000 in
theorem eMp_w57 : lw_tbl[636]? = some (Cond.code (eM 57) (eBy 57) (eMx.getD 57 0) (eRt.getD 57 none)) := rfl
set_option maxRecDepth 100000 in
theorem eMp_w58 : lw_tbl[640]? = some (Cond.code (eM 58) (eBy 58) (eMx.getD 58 0) (eRt.getD 58 none)) := rfl
set_option maxRecDepth 100000 in
theorem eMp_w59 : lw_tbl[645]? = some (Cond.code (eM 59) (eBy 59) (eMx.getD 59 0) (eRt.getD 59 none)) := rfl
set_option maxRecDepth 100000 in
theorem eMp_w60 : lw_tbl[649]? = some (Cond.code (eM 60) (eBy 60) (eMx.getD 60 0) (eRt.getD 60 none)) := rfl
set_option maxRecDepth 100000 in
theorem eMp_w61 : lw_tbl[654]? = some (Cond.code (eM 61) (eBy 61) (eMx.getD 61 0) (eRt.getD 61 none)) := rfl
set_option maxRecDepth 100000 in
theorem eMp_w62 : lw_tbl[658]? = some (Cond.code (eM 62) (eBy 62) (eMx.getD 62 0) (eRt.getD 62 none)) := rfl
set_option maxRecDepth 100000 in
theorem eMp_w63 : lw_tbl[662]? = some (Cond.code (eM 63) (eBy 63) (eMx.getD 63 0) (eRt.getD 63 none)) := rfl
set_option maxRecDepth 100000 in
theorem eMp_w64 : lw_tbl[670]? = some (Cond.code (eM 64) (eBy 64) (eMx.getD 64 0) (eRt.getD 64 none)) := rfl
set_option maxRecDepth 100000 in
theorem eMp_w65 : lw_tbl[673]? = some (Cond.code (eM 65) (eBy 65) (eMx.getD 65 0) (eRt.getD 65 none)) := rfl
set_option maxRecDepth 100000 in
theorem eMp_w66 : lw_tbl[676]? = some (Cond.code (eM 66) (eBy 66) (eMx.getD 66 0) (eRt.getD 66 none)) := rfl
set_option maxRecDepth 100000 in
theorem eMp_w67 : lw_tbl[680]? = some (Cond.code (eM 67) (eBy 67) (eMx.getD 67 0) (eRt.getD 67 none)) := rfl
set_option maxRecDepth 100000 in
theorem eMp_w68 : lw_tbl[683]? = some (Cond.code (eM 68) (eBy 68) (eMx.getD 68 0) (eRt.getD 68 none)) := rfl
set_option maxRecDepth 100000 in
theorem eMp_w69 : lw_tbl[697]? = some (Cond.code (eM 69) (eBy 69) (eMx.getD 69 0) (eRt.getD 69 none)) := rfl
set_option maxRecDepth 100000 in
theorem eMp_w70 : lw_tbl[701]? = some (Cond.code (eM 70) (eBy 70) (eMx.getD 70 0) (eRt.getD 70 none)) := rfl
set_option maxRecDepth 100000 in
theorem eMp_w71 : lw_tbl[706]? = some (Cond.code (eM 71) (eBy 71) (eMx.getD 71 0) (eRt.getD 71 none)) := rfl
set_option maxRecDepth 100000 in
theorem eMp_w72 : lw_tbl[710]? = some (Cond.code (eM 72) (eBy 72) (eMx.getD 72 0) (eRt.getD 72 none)) := rfl
set_option maxRecDepth 100000 in
theorem eMp_w73 : lw_tbl[715]? = some (Cond.code (eM 73) (eBy 73) (eMx.getD 73 0) (eRt.getD 73 none)) := rfl
set_option maxRecDepth 100000 in
theorem eMp_w74 : lw_tbl[719]? = some (Cond.code (eM 74) (eBy 74) (eMx.getD 74 0) (eRt.getD 74 none)) := rfl
set_option maxRecDepth 100000 in
theorem eMp_w75 : lw_tbl[723]? = some (Cond.code (eM 75) (eBy 75) (eMx.getD 75 0) (eRt.getD 75 none)) := rfl
set_option maxRecDepth 100000 in
theorem eMp_w76 : lw_tbl[726]? = some (Cond.code (eM 76) (eBy 76) (eMx.getD 76 0) (eRt.getD 76 none)) := rfl
set_option maxRecDepth 100000 in
theorem eMp_w77 : lw_tbl[730]? = some (Cond.code (eM 77) (eBy 77) (eMx.getD 77 0) (eRt.getD 77 none)) := rfl
set_option maxRecDepth 100000 in
theorem eMp_w78 : lw_tbl[735]? = some (Cond.code (eM 78) (eBy 78) (eMx.getD 78 0) (eRt.getD 78 none)) := rfl
set_option maxRecDepth 100000 in
theorem eMp_w79 : lw_tbl[739]? = some (Cond.code (eM 79) (eBy 79) (eMx.getD 79 0) (eRt.getD 79 none)) := rfl
set_option maxRecDepth 100000 in
theorem eMp_w80 : lw_tbl[743]? = some (Cond.code (eM 80) (eBy 80) (eMx.getD 80 0) (eRt.getD 80 none)) := rfl
set_option maxRecDepth 100000 in
theorem eMp_w81 : lw_tbl[747]? = some (Cond.code (eM 81) (eBy 81) (eMx.getD 81 0) (eRt.getD 81 none)) := rfl
set_option maxRecDepth 100000 in
theorem eMp_w82 : lw_tbl[752]? = some (Cond.code (eM 82) (eBy 82) (eMx.getD 82 0) (eRt.getD 82 none)) := rfl
set_option maxRecDepth 100000 in
theorem eMp_w83 : lw_tbl[756]? = some (Cond.code (eM 83) (eBy 83) (eMx.getD 83 0) (eRt.getD 83 none)) := rfl
set_option maxRecDepth 100000 in
theorem eMp_w84 : lw_tbl[759]? = some (Cond.code (eM 84) (eBy 84) (eMx.getD 84 0) (eRt.getD 84 none)) := rfl
set_option maxRecDepth 100000 in
theorem eMp_w85 : lw_tbl[763]? = some (Cond.code (eM 85) (eBy 85) (eMx.getD 85 0) (eRt.getD 85 none)) := rfl
set_option maxRecDepth 100000 in
theorem eMp_w86 : lw_tbl[767]? = some (Cond.code (eM 86) (eBy 86) (eMx.getD 86 0) (eRt.getD 86 none)) := rfl
set_option maxRecDepth 100000 in
theorem eMp_w87 : lw_tbl[772]? = some (Cond.code (eM 87) (eBy 87) (eMx.getD 87 0) (eRt.getD 87 none)) := rfl
set_option maxRecDepth 100000 in
theorem eMp_w88 : lw_tbl[776]? = some (Cond.code (eM 88) (eBy 88) (eMx.getD 88 0) (eRt.getD 88 none)) := rfl
set_option maxRecDepth 100000 in
theorem eMp_w89 : lw_tbl[779]? = some (Cond.code (eM 89) (eBy 89) (eMx.getD 89 0) (eRt.getD 89 none)) := rfl
set_option maxRecDepth 100000 in
theorem eMp_w90 : lw_tbl[783]? = some (Cond.code (eM 90) (eBy 90) (eMx.getD 90 0) (eRt.getD 90 none)) := rfl
set_option maxRecDepth 100000 in
theorem eMp_w91 : lw_tbl[787]? = some (Cond.code (eM 91) (eBy 91) (eMx.getD 91 0) (eRt.getD 91 none)) := rfl
set_option maxRecDepth 100000 in
theorem eMp_w92 : lw_tbl[791]? = some (Cond.code (eM 92) (eBy 92) (eMx.getD 92 0) (eRt.getD 92 none)) := rfl
set_option maxRecDepth 100000 in
theorem eMp_w93 : lw_tbl[795]? = some (Cond.code (eM 93) (eBy 93) (eMx.getD 93 0) (eRt.getD 93 none)) := rfl
set_option maxRecDepth 100000 in
theorem eMp_w94 : lw_tbl[799]? = some (Cond.code (eM 94) (eBy 94) (eMx.getD 94 0) (eRt.getD 94 none)) := rfl
set_option maxRecDepth 100000 in
theorem eMp_w95 : lw_tbl[805]? = some (Cond.code (eM 95) (eBy 95) (eMx.getD 95 0) (eRt.getD 95 none)) := rfl
set_option maxRecDepth 100000 in
theorem eMp_w96 : lw_tbl[809]? = some (Cond.code (eM 96) (eBy 96) (eMx.getD 96 0) (eRt.getD 96 none)) := rfl
set_option maxRecDepth 100000 in
theorem eMp_w97 : lw_tbl[813]? = some (Cond.code (eM 97) (eBy 97) (eMx.getD 97 0) (eRt.getD 97 none)) := rfl
set_option maxRecDepth 100000 in
theorem eMp_w98 : lw_tbl[817]? = some (Cond.code (eM 98) (eBy 98) (eMx.getD 98 0) (eRt.getD 98 none)) := rfl
set_option maxRecDepth 100000 in
theorem eMp_w99 : lw_tbl[820]? = some (Cond.code (eM 99) (eBy 99) (eMx.getD 99 0) (eRt.getD 99 none)) := rfl
set_option maxRecDepth 100000 in
theorem eMp_w100 : lw_tbl[823]? = some (Cond.code (eM 100) (eBy 100) (eMx.getD 100 0) (eRt.getD 100 none)) := rfl
set_option maxRecDepth 100000 in
theorem eMp_w101 : lw_tbl[826]? = some (Cond.code (eM 101) (eBy 101) (eMx.getD 101 0) (eRt.getD 101 none)) := rfl
set_option maxRecDepth 100000 in
theorem eMp_w102 : lw_tbl[831]? = some (Cond.code (eM 102) (eBy 102) (eMx.getD 102 0) (eRt.getD 102 none)) := rfl
set_option maxRecDepth 100000 in
theorem eMp_w103 : lw_tbl[837]? = some (Cond.code (eM 103) (eBy 103) (eMx.getD 103 0) (eRt.getD 103 none)) := rfl
set_option maxRecDepth 100000 in
theorem eMp_w104 : lw_tbl[842]? = some (Cond.code (eM 104) (eBy 104) (eMx.getD 104 0) (eRt.getD 104 none)) := rfl
set_option maxRecDepth 100000 in
theorem eMp_w105 : lw_tbl[846]? = some (Cond.code (eM 105) (eBy 105) (eMx.getD 105 0) (eRt.getD 105 none)) := rfl
set_option maxRecDepth 100000 in
theorem eMp_w106 : lw_tbl[850]? = some (Cond.code (eM 106) (eBy 106) (eMx.getD 106 0) (eRt.getD 106 none)) := rfl
set_option maxRecDepth 100000 in
theorem eMp_w107 : lw_tbl[854]? = some (Cond.code (eM 107) (eBy 107) (eMx.getD 107 0) (eRt.getD 107 none)) := rfl
set_option maxRecDepth 100000 in
theorem eMp_w108 : lw_tbl[858]? = some (Cond.code (eM 108) (eBy 108) (eMx.getD 108 0) (eRt.getD 108 none)) := rfl
set_option maxRecDepth 100000 in
theorem eMp_w109 : lw_tbl[861]? = some (Cond.code (eM 109) (eBy 109) (eMx.getD 109 0) (eRt.getD 109 none)) := rfl
set_option maxRecDepth 100000 in
theorem eMp_w110 : lw_tbl[864]? = some (Cond.code (eM 110) (eBy 110) (eMx.getD 110 0) (eRt.getD 110 none)) := rfl
set_option maxRecDepth 100000 in
theorem eMp_w111 : lw_tbl[868]? = some (Cond.code (eM 111) (eBy 111) (eMx.getD 111 0) (eRt.getD 111 none)) := rfl
set_option maxRecDepth 100000 in
theorem eMp_w112 : lw_tbl[872]? = some (Cond.code (eM 112) (eBy 112) (eMx.getD 112 0) (eRt.getD 112 none)) := rfl
set_option maxRecDepth 100000 in
theorem eMp_w113 : lw_tbl[876]? = some (Cond.code (eM 113) (eBy 113) (eMx.getD 113 0) (eRt.getD 113 none)) := rfl
set_option maxRecDepth 100000 in
theorem eMp_w114 : lw_tbl[880]? = some (Cond.code (eM 114) (eBy 114) (eMx.getD 114 0) (eRt.getD 114 none)) := rfl
set_option maxRecDepth 100000 in
theorem eMp_w115 : lw_tbl[884]? = some (Cond.code (eM 115) (eBy 115) (eMx.getD 115 0) (eRt.getD 115 none)) := rfl
set_option maxRecDepth 100000 in
theorem eMp_w116 : lw_tbl[888]? = some (Cond.code (eM 116) (eBy 116) (eMx.getD 116 0) (eRt.getD 116 none)) := rfl
set_option maxRecDepth 100000 in
theorem eMp_w117 : lw_tbl[892]? = some (Cond.code (eM 117) (eBy 117) (eMx.getD 117 0) (eRt.getD 117 none)) := rfl
set_option maxRecDepth 100000 in
theorem eMp_w118 : lw_tbl[897]? = some (Cond.code (eM 118) (eBy 118) (eMx.getD 118 0) (eRt.getD 118 none)) := rfl
set_option maxRecDepth 100000 in
theorem eMp_w119 : lw_tbl[900]? = some (Cond.code (eM 119) (eBy 119) (eMx.getD 119 0) (eRt.getD 119 none)) := rfl
set_option maxRecDepth 100000 in
theorem eMp_w120 : lw_tbl[904]? = some (Cond.code (eM 120) (eBy 120) (eMx.getD 120 0) (eRt.getD 120 none)) := rfl
set_option maxRecDepth 100000 in
theorem eMp_w121 : lw_tbl[910]? = some (Cond.code (eM 121) (eBy 121) (eMx.getD 121 0) (eRt.getD 121 none)) := rfl
set_option maxRecDepth 100000 in
theorem eMp_w122 : lw_tbl[914]? = some (Cond.code (eM 122) (eBy 122) (eMx.getD 122 0) (eRt.getD 122 none)) := rfl
set_option maxRecDepth 100000 in
theorem eMp_w123 : lw_tbl[918]? = some (Cond.code (eM 123) (eBy 123) (eMx.getD 123 0) (eRt.getD 123 none)) := rfl
set_option maxRecDepth 100000 in
theorem eMp_w124 : lw_tbl[922]? = some (Cond.code (eM 124) (eBy 124) (eMx.getD 124 0) (eRt.getD 124 none)) := rfl
set_option maxRecDepth 100000 in
theorem eMp_w125 : lw_tbl[926]? = some (Cond.code (eM 125) (eBy 125) (eMx.getD 125 0) (eRt.getD 125 none)) := rfl
set_option maxRecDepth 100000 in
theorem eMp_w126 : lw_tbl[930]? = some (Cond.code (eM 126) (eBy 126) (eMx.getD 126 0) (eRt.getD 126 none)) := rfl
set_option maxRecDepth 100000 in
theorem eMp_w127 : lw_tbl[935]? = some (Cond.code (eM 127) (eBy 127) (eMx.getD 127 0) (eRt.getD 127 none)) := rfl
set_option maxRecDepth 100000 in
theorem eMp_w128 : lw_tbl[941]? = some (Cond.code (eM 128) (eBy 128) (eMx.getD 128 0) (eRt.getD 128 none)) := rfl
set_option maxRecDepth 100000 in
theorem eMp_w129 : lw_tbl[1056]? = some (Cond.code (eM 129) (eBy 129) (eMx.getD 129 0) (eRt.getD 129 none)) := rfl
set_option maxRecDepth 100000 in
theorem eMp_w130 : lw_tbl[1060]? = some (Cond.code (eM 130) (eBy 130) (eMx.getD 130 0) (eRt.getD 130 none)) := rfl
set_option maxRecDepth 100000 in
theorem eMp_w131 : lw_tbl[1065]? = some (Cond.code (eM 131) (eBy 131) (eMx.getD 131 0) (eRt.getD 131 none)) := rfl
set_option maxRecDepth 100000 in
theorem eMp_w132 : lw_tbl[1069]? = some (Cond.code (eM 132) (eBy 132) (eMx.getD 132 0) (eRt.getD 132 none)) := rfl
set_option maxRecDepth 100000 in
theorem eMp_w133 : lw_tbl[1073]? = some (Cond.code (eM 133) (eBy 133) (eMx.getD 133 0) (eRt.getD 133 none)) := rfl
set_option maxRecDepth 100000 in
theorem eMp_w134 : lw_tbl[1078]? = some (Cond.code (eM 134) (eBy 134) (eMx.getD 134 0) (eRt.getD 134 none)) := rfl
set_option maxRecDepth 100000 in
theorem eMp_w135 : lw_tbl[1082]? = some (Cond.code (eM 135) (eBy 135) (eMx.getD 135 0) (eRt.getD 135 none)) := rfl
set_option maxRecDepth 100000 in
theorem eMp_w136 : lw_tbl[1085]? = some (Cond.code (eM 136) (eBy 136) (eMx.getD 136 0) (eRt.getD 136 none)) := rfl
set_option maxRecDepth 100000 in
theorem eMp_w137 : lw_tbl[1089]? = some (Cond.code (eM 137) (eBy 137) (eMx.getD 137 0) (eRt.getD 137 none)) := rfl
set_option maxRecDepth 100000 in
theorem eMp_w138 : lw_tbl[1093]? = some (Cond.code (eM 138) (eBy 138) (eMx.getD 138 0) (eRt.getD 138 none)) := rfl
set_option maxRecDepth 100000 in
theorem eMp_w139 : lw_tbl[1098]? = some (Cond.code (eM 139) (eBy 139) (eMx.getD 139 0) (eRt.getD 139 none)) := rfl
set_option maxRecDepth 100000 in
theorem eMp_w140 : lw_tbl[1102]? = some (Cond.code (eM 140) (eBy 140) (eMx.getD 140 0) (eRt.getD 140 none)) := rfl
set_option maxRecDepth 100000 in
theorem eMp_w141 : lw_tbl[1106]? = some (Cond.code (eM 141) (eBy 141) (eMx.getD 141 0) (eRt.getD 141 none)) := rfl
set_option maxRecDepth 100000 in
theorem eMp_w142 : lw_tbl[1110]? = some (Cond.code (eM 142) (eBy 142) (eMx.getD 142 0) (eRt.getD 142 none)) := rfl
set_option maxRecDepth 100000 in
theorem eMp_w143 : lw_tbl[1114]? = some (Cond.code (eM 143) (eBy 143) (eMx.getD 143 0) (eRt.getD 143 none)) := rfl
set_option maxRecDepth 100000 in
theorem eMp_w144 : lw_tbl[1122]? = some (Cond.code (eM 144) (eBy 144) (eMx.getD 144 0) (eRt.getD 144 none)) := rfl
set_option maxRecDepth 100000 in
theorem eMp_w145 : lw_tbl[1126]? = some (Cond.code (eM 145) (eBy 145) (eMx.getD 145 0) (eRt.getD 145 none)) := rfl
set_option maxRecDepth 100000 in
theorem eMp_w146 : lw_tbl[1130]? = some (Cond.code (eM 146) (eBy 146) (eMx.getD 146 0) (eRt.getD 146 none)) := rfl
set_option maxRecDepth 100000 in
theorem eMp_w147 : lw_tbl[1134]? = some (Cond.code (eM 147) (eBy 147) (eMx.getD 147 0) (eRt.getD 147 none)) := rfl
set_option maxRecDepth 100000 in
theorem eMp_w148 : lw_tbl[1138]? = some (Cond.code (eM 148) (eBy 148) (eMx.getD 148 0) (eRt.getD 148 none)) := rfl
set_option maxRecDepth 100000 in
theorem eMp_w149 : lw_tbl[1144]? = some (Cond.code (eM 149) (eBy 149) (eMx.getD 149 0) (eRt.getD 149 none)) := rfl
set_option maxRecDepth 100000 in
theorem eMp_w150 : lw_tbl[1148]? = some (Cond.code (eM 150) (eBy 150) (eMx.getD 150 0) (eRt.getD 150 none)) := rfl
set_option maxRecDepth 100000 in
theorem eMp_w151 : lw_tbl[1152]? = some (Cond.code (eM 151) (eBy 151) (eMx.getD 151 0) (eRt.getD 151 none)) := rfl
set_option maxRecDepth 100000 in
theorem eMp_w152 : lw_tbl[1156]? = some (Cond.code (eM 152) (eBy 152) (eMx.getD 152 0) (eRt.getD 152 none)) := rfl
set_option maxRecDepth 100000 in
theorem eMp_w153 : lw_tbl[1160]? = some (Cond.code (eM 153) (eBy 153) (eMx.getD 153 0) (eRt.getD 153 none)) := rfl
set_option maxRecDepth 100000 in
theorem eMp_w154 : lw_tbl[1164]? = some (Cond.code (eM 154) (eBy 154) (eMx.getD 154 0) (eRt.getD 154 none)) := rfl
set_option maxRecDepth 100000 in
theorem eMp_w155 : lw_tbl[1168]? = some (Cond.code (eM 155) (eBy 155) (eMx.getD 155 0) (eRt.getD 155 none)) := rfl
set_option maxRecDepth 100000 in
theorem eMp_w156 : lw_tbl[1172]? = some (Cond.code (eM 156) (eBy 156) (eMx.getD 156 0) (eRt.getD 156 none)) := rfl
set_option maxRecDepth 100000 in
theorem eMp_w157 : lw_tbl[1176]? = some (Cond.code (eM 157) (eBy 157) (eMx.getD 157 0) (eRt.getD 157 none)) := rfl
set_option maxRecDepth 100000 in
theorem eMp_w158 : lw_tbl[1180]? = some (Cond.code (eM 158) (eBy 158) (eMx.getD 158 0) (eRt.getD 158 none)) := rfl
set_option maxRecDepth 100000 in
theorem eMp_w159 : lw_tbl[1184]? = some (Cond.code (eM 159) (eBy 159) (eMx.getD 159 0) (eRt.getD 159 none)) := rfl
set_option maxRecDepth 100000 in
theorem eMp_w160 : lw_tbl[1188]? = some (Cond.code (eM 160) (eBy 160) (eMx.getD 160 0) (eRt.getD 160 none)) := rfl
set_option maxRecDepth 100000 in
theorem eMp_w161 : lw_tbl[1191]? = some (Cond.code (eM 161) (eBy 161) (eMx.getD 161 0) (eRt.getD 161 none)) := rfl
set_option maxRecDepth 100000 in
theorem eMp_w162 : lw_tbl[1195]? = some (Cond.code (eM 162) (eBy 162) (eMx.getD 162 0) (eRt.getD 162 none)) := rfl
set_option maxRecDepth 100000 in
theorem eMp_w163 : lw_tbl[1200]? = some (Cond.code (eM 163) (eBy 163) (eMx.getD 163 0) (eRt.getD 163 none)) := rfl
set_option maxRecDepth 100000 in
theorem eMp_w164 : lw_tbl[1204]? = some (Cond.code (eM 164) (eBy 164) (eMx.getD 164 0) (eRt.getD 164 none)) := rfl
set_option maxRecDepth 100000 in
theorem eMp_w165 : lw_tbl[1208]? = some (Cond.code (eM 165) (eBy 165) (eMx.getD 165 0) (eRt.getD 165 none)) := rfl
set_option maxRecDepth 100000 in
theorem eMp_w166 : lw_tbl[1213]? = some (Cond.code (eM 166) (eBy 166) (eMx.getD 166 0) (eRt.getD 166 none)) := rfl
set_option maxRecDepth 100000 in
theorem eMp_w167 : lw_tbl[1217]? = some (Cond.code (eM 167) (eBy 167) (eMx.getD 167 0) (eRt.getD 167 none)) := rfl
set_option maxRecDepth 100000 in
theorem eMp_w168 : lw_tbl[1221]? = some (Cond.code (eM 168) (eBy 168) (eMx.getD 168 0) (eRt.getD 168 none)) := rfl
set_option maxRecDepth 100000 in
theorem eMp_w169 : lw_tbl[1225]? = some (Cond.code (eM 169) (eBy 169) (eMx.getD 169 0) (eRt.getD 169 none)) := rfl
set_option maxRecDepth 100000 in
theorem eMp_w170 : lw_tbl[1229]? = some (Cond.code (eM 170) (eBy 170) (eMx.getD 170 0) (eRt.getD 170 none)) := rfl
set_option maxRecDepth 100000 in
theorem eMp_w171 : lw_tbl[1233]? = some (Cond.code (eM 171) (eBy 171) (eMx.getD 171 0) (eRt.getD 171 none)) := rfl
set_option maxRecDepth 100000 in
theorem eMp_w172 : lw_tbl[1237]? = some (Cond.code (eM 172) (eBy 172) (eMx.getD 172 0) (eRt.getD 172 none)) := rfl
set_option maxRecDepth 100000 in
theorem eMp_w173 : lw_tbl[1241]? = some (Cond.code (eM 173) (eBy 173) (eMx.getD 173 0) (eRt.getD 173 none)) := rfl
set_option maxRecDepth 100000 in
theorem eMp_w174 : lw_tbl[1245]? = some (Cond.code (eM 174) (eBy 174) (eMx.getD 174 0) (eRt.getD 174 none)) := rfl
set_option maxRecDepth 100000 in
theorem eMp_w175 : lw_tbl[1250]? = some (Cond.code (eM 175) (eBy 175) (eMx.getD 175 0) (eRt.getD 175 none)) := rfl
set_option maxRecDepth 100000 in
theorem eMp_w176 : lw_tbl[1254]? = some (Cond.code (eM 176) (eBy 176) (eMx.getD 176 0) (eRt.getD 176 none)) := rfl
set_option maxRecDepth 100000 in
theorem eMp_w177 : lw_tbl[1258]? = some (Cond.code (eM 177) (eBy 177) (eMx.getD 177 0) (eRt.getD 177 none)) := rfl
set_option maxRecDepth 100000 in
theorem eMp_w178 : lw_tbl[1262]? = some (Cond.code (eM 178) (eBy 178) (eMx.getD 178 0) (eRt.getD 178 none)) := rfl
set_option maxRecDepth 100000 in
theorem eMp_w179 : lw_tbl[1265]? = some (Cond.code (eM 179) (eBy 179) (eMx.getD 179 0) (eRt.getD 179 none)) := rfl
set_option maxRecDepth 100000 in
theorem eMp_w180 : lw_tbl[1268]? = some (Cond.code (eM 180) (eBy 180) (eMx.getD 180 0) (eRt.getD 180 none)) := rfl
set_option maxRecDepth 100000 in
theorem eMp_w181 : lw_tbl[1272]? = some (Cond.code (eM 181) (eBy 181) (eMx.getD 181 0) (eRt.getD 181 none)) := rfl
set_option maxRecDepth 100000 in
theorem eMp_w182 : lw_tbl[1276]? = some (Cond.code (eM 182) (eBy 182) (eMx.getD 182 0) (eRt.getD 182 none)) := rfl
set_option maxRecDepth 100000 in
theorem eMp_w183 : lw_tbl[1280]? = some (Cond.code (eM 183) (eBy 183) (eMx.getD 183 0) (eRt.getD 183 none)) := rfl
set_option maxRecDepth 100000 in
theorem eMp_w184 : lw_tbl[1283]? = some (Cond.code (eM 184) (eBy 184) (eMx.getD 184 0) (eRt.getD 184 none)) := rfl
set_option maxRecDepth 100000 in
theorem eMp_w185 : lw_tbl[1288]? = some (Cond.code (eM 185) (eBy 185) (eMx.getD 185 0) (eRt.getD 185 none)) := rfl
set_option maxRecDepth 100000 in
theorem eMp_w186 : lw_tbl[1292]? = some (Cond.code (eM 186) (eBy 186) (eMx.getD 186 0) (eRt.getD 186 none)) := rfl
set_option maxRecDepth 100000 in
theorem eMp_w187 : lw_tbl[1296]? = some (Cond.code (eM 187) (eBy 187) (eMx.getD 187 0) (eRt.getD 187 none)) := rfl
set_option maxRecDepth 100000 in
theorem eMp_w188 : lw_tbl[1299]? = some (Cond.code (eM 188) (eBy 188) (eMx.getD 188 0) (eRt.getD 188 none)) := rfl
set_option maxRecDepth 100000 in
theorem eMp_w189 : lw_tbl[1303]? = some (Cond.code (eM 189) (eBy 189) (eMx.getD 189 0) (eRt.getD 189 none)) := rfl
set_option maxRecDepth 100000 in
theorem eMp_w190 : lw_tbl[1307]? = some (Cond.code (eM 190) (eBy 190) (eMx.getD 190 0) (eRt.getD 190 none)) := rfl
set_option maxRecDepth 100000 in
theorem eMp_w191 : lw_tbl[1311]? = some (Cond.code (eM 191) (eBy 191) (eMx.getD 191 0) (eRt.getD 191 none)) := rfl
set_option maxRecDepth 100000 in
theorem eMp_w192 : lw_tbl[1315]? = some (Cond.code (eM 192) (eBy 192) (eMx.getD 192 0) (eRt.getD 192 none)) := rfl
set_option maxRecDepth 100000 in
theorem eMp_w193 : lw_tbl[1319]? = some (Cond.code (eM 193) (eBy 193) (eMx.getD 193 0) (eRt.getD 193 none)) := rfl
set_option maxRecDepth 100000 in
theorem eMp_w194 : lw_tbl[467]? = some (Cond.code (eM 194) (eBy 194) (eMx.getD 194 0) (eRt.getD 194 none)) := rfl
set_option maxRecDepth 100000 in
theorem eMp_w195 : lw_tbl[471]? = some (Cond.code (eM 195) (eBy 195) (eMx.getD 195 0) (eRt.getD 195 none)) := rfl
set_option maxRecDepth 100000 in
theorem eMp_w196 : lw_tbl[475]? = some (Cond.code (eM 196) (eBy 196) (eMx.getD 196 0) (eRt.getD 196 none)) := rfl
set_option maxRecDepth 100000 in
theorem eMp_w197 : lw_tbl[481]? = some (Cond.code (eM 197) (eBy 197) (eMx.getD 197 0) (eRt.getD 197 none)) := rfl
set_option maxRecDepth 100000 in
theorem eMp_w198 : lw_tbl[485]? = some (Cond.code (eM 198) (eBy 198) (eMx.getD 198 0) (eRt.getD 198 none)) := rfl
set_option maxRecDepth 100000 in
theorem eMp_w199 : lw_tbl[488]? = some (Cond.code (eM 199) (eBy 199) (eMx.getD 199 0) (eRt.getD 199 none)) := rfl
set_option maxRecDepth 100000 in
theorem eMp_w200 : lw_tbl[491]? = some (Cond.code (eM 200) (eBy 200) (eMx.getD 200 0) (eRt.getD 200 none)) := rfl
set_option maxRecDepth 100000 in
theorem eMp_w201 : lw_tbl[500]? = some (Cond.code (eM 201) (eBy 201) (eMx.getD 201 0) (eRt.getD 201 none)) := rfl
theorem eMp_in (k : Nat) (hk : k < 202) : Cond.code (eM k) (eBy k) (eMx.getD k 0) (eRt.getD k none) ∈ eWs := by
  match k, hk with
  | 0, _ => exact eWs_in eMp_w0 rfl
  | 1, _ => exact eWs_in eMp_w1 rfl
  | 2, _ => exact eWs_in eMp_w2 rfl
  | 3, _ => exact eWs_in eMp_w3 rfl
  | 4, _ => exact eWs_in eMp_w4 rfl
  | 5, _ => exact eWs_in eMp_w5 rfl
  | 6, _ => exact eWs_in eMp_w6 rfl
  | 7, _ => exact eWs_in eMp_w7 rfl
  | 8, _ => exact eWs_in eMp_w8 rfl
  | 9, _ => exact eWs_in eMp_w9 rfl
  | 10, _ => exact eWs_in eMp_w10 rfl
  | 11, _ => exact eWs_in eMp_w11 rfl
  | 12, _ => exact eWs_in eMp_w12 rfl
  | 13, _ => exact eWs_in eMp_w13 rfl
  | 14, _ => exact eWs_in eMp_w14 rfl
  | 15, _ => exact eWs_in eMp_w15 rfl
  | 16, _ => exact eWs_in eMp_w16 rfl
  | 17, _ => exact eWs_in eMp_w17 rfl
  | 18, _ => exact eWs_in eMp_w18 rfl
  | 19, _ => exact eWs_in eMp_w19 rfl
  | 20, _ => exact eWs_in eMp_w20 rfl
  | 21, _ => exact eWs_in eMp_w21 rfl
  | 22, _ => exact eWs_in eMp_w22 rfl
  | 23, _ => exact eWs_in eMp_w23 rfl
  | 24, _ => exact eWs_in eMp_w24 rfl
  | 25, _ => exact eWs_in eMp_w25 rfl
  | 26, _ => exact eWs_in eMp_w26 rfl
  | 27, _ => exact eWs_in eMp_w27 rfl
  | 28, _ => exact eWs_in eMp_w28 rfl
  | 29, _ => exact eWs_in eMp_w29 rfl
  | 30, _ => exact eWs_in eMp_w30 rfl
  | 31, _ => exact eWs_in eMp_w31 rfl
  | 32, _ => exact eWs_in eMp_w32 rfl
  | 33, _ => exact eWs_in eMp_w33 rfl
  | 34, _ => exact eWs_in eMp_w34 rfl
  | 35, _ => exact eWs_in eMp_w35 rfl
  | 36, _ => exact eWs_in eMp_w36 rfl
  | 37, _ => exact eWs_in eMp_w37 rfl
  | 38, _ => exact eWs_in eMp_w38 rfl
  | 39, _ => exact eWs_in eMp_w39 rfl
  | 40, _ => exact eWs_in eMp_w40 rfl
  | 41, _ => exact eWs_in eMp_w41 rfl
  | 42, _ => exact eWs_in eMp_w42 rfl
  | 43, _ => exact eWs_in eMp_w43 rfl
  | 44, _ => exact eWs_in eMp_w44 rfl
  | 45, _ => exact eWs_in eMp_w45 rfl
  | 46, _ => exact eWs_in eMp_w46 rfl
  | 47, _ => exact eWs_in eMp_w47 rfl
  | 48, _ => exact eWs_in eMp_w48 rfl
  | 49, _ => exact eWs_in eMp_w49 rfl
  | 50, _ => exact eWs_in eMp_w50 rfl
  | 51, _ => exact eWs_in eMp_w51 rfl
  | 52, _ => exact eWs_in eMp_w52 rfl
  | 53, _ => exact eWs_in eMp_w53 rfl
  | 54, _ => exact eWs_in eMp_w54 rfl
  | 55, _ => exact eWs_in eMp_w55 rfl
  | 56, _ => exact eWs_in eMp_w56 rfl
  | 57, _ => exact eWs_in eMp_w57 rfl
  | 58, _ => exact eWs_in eMp_w58 rfl
  | 59, _ => exact eWs_in eMp_w59 rfl
  | 60, _ => exact eWs_in eMp_w60 rfl
  | 61, _ => exact eWs_in eMp_w61 rfl
  | 62, _ => exact eWs_in eMp_w62 rfl
  | 63, _ => exact eWs_in eMp_w63 rfl
  | 64, _ => exact eWs_in eMp_w64 rfl
  | 65, _ => exact eWs_in eMp_w65 rfl
  | 66, _ => exact eWs_in eMp_w66 rfl
  | 67, _ => exact eWs_in eMp_w67 rfl
  | 68, _ => exact eWs_in eMp_w68 rfl
  | 69, _ => exact eWs_in eMp_w69 rfl
  | 70, _ => exact eWs_in eMp_w70 rfl
  | 71, _ => exact eWs_in eMp_w71 rfl
  | 72, _ => exact eWs_in eMp_w72 rfl
  | 73, _ => exact eWs_in eMp_w73 rfl
  | 74, _ => exact eWs_in eMp_w74 rfl
  | 75, _ => exact eWs_in eMp_w75 rfl
  | 76, _ => exact eWs_in eMp_w76 rfl
  | 77, _ => exact eWs_in eMp_w77 rfl
  | 78, _ => exact eWs_in eMp_w78 rfl
  | 79, _ => exact eWs_in eMp_w79 rfl
  | 80, _ => exact eWs_in eMp_w80 rfl
  | 81, _ => exact eWs_in eMp_w81 rfl
  | 82, _ => exact eWs_in eMp_w82 rfl
  | 83, _ => exact eWs_in eMp_w83 rfl
  | 84, _ => exact eWs_in eMp_w84 rfl
  | 85, _ => exact eWs_in eMp_w85 rfl
  | 86, _ => exact eWs_in eMp_w86 rfl
  | 87, _ => exact eWs_in eMp_w87 rfl
  | 88, _ => exact eWs_in eMp_w88 rfl
  | 89, _ => exact eWs_in eMp_w89 rfl
  | 90, _ => exact eWs_in eMp_w90 rfl
  | 91, _ => exact eWs_in eMp_w91 rfl
  | 92, _ => exact eWs_in eMp_w92 rfl
  | 93, _ => exact eWs_in eMp_w93 rfl
  | 94, _ => exact eWs_in eMp_w94 rfl
  | 95, _ => exact eWs_in eMp_w95 rfl
  | 96, _ => exact eWs_in eMp_w96 rfl
  | 97, _ => exact eWs_in eMp_w97 rfl
  | 98, _ => exact eWs_in eMp_w98 rfl
  | 99, _ => exact eWs_in eMp_w99 rfl
  | 100, _ => exact eWs_in eMp_w100 rfl
  | 101, _ => exact eWs_in eMp_w101 rfl
  | 102, _ => exact eWs_in eMp_w102 rfl
  | 103, _ => exact eWs_in eMp_w103 rfl
  | 104, _ => exact eWs_in eMp_w104 rfl
  | 105, _ => exact eWs_in eMp_w105 rfl
  | 106, _ => exact eWs_in eMp_w106 rfl
  | 107, _ => exact eWs_in eMp_w107 rfl
  | 108, _ => exact eWs_in eMp_w108 rfl
  | 109, _ => exact eWs_in eMp_w109 rfl
  | 110, _ => exact eWs_in eMp_w110 rfl
  | 111, _ => exact eWs_in eMp_w111 rfl
  | 112, _ => exact eWs_in eMp_w112 rfl
  | 113, _ => exact eWs_in eMp_w113 rfl
  | 114, _ => exact eWs_in eMp_w114 rfl
  | 115, _ => exact eWs_in eMp_w115 rfl
  | 116, _ => exact eWs_in eMp_w116 rfl
  | 117, _ => exact eWs_in eMp_w117 rfl
  | 118, _ => exact eWs_in eMp_w118 rfl
  | 119, _ => exact eWs_in eMp_w119 rfl
  | 120, _ => exact eWs_in eMp_w120 rfl
  | 121, _ => exact eWs_in eMp_w121 rfl
  | 122, _ => exact eWs_in eMp_w122 rfl
  | 123, _ => exact eWs_in eMp_w123 rfl
  | 124, _ => exact eWs_in eMp_w124 rfl
  | 125, _ => exact eWs_in eMp_w125 rfl
  | 126, _ => exact eWs_in eMp_w126 rfl
  | 127, _ => exact eWs_in eMp_w127 rfl
  | 128, _ => exact eWs_in eMp_w128 rfl
  | 129, _ => exact eWs_in eMp_w129 rfl
  | 130, _ => exact eWs_in eMp_w130 rfl
  | 131, _ => exact eWs_in eMp_w131 rfl
  | 132, _ => exact eWs_in eMp_w132 rfl
  | 133, _ => exact eWs_in eMp_w133 rfl
  | 134, _ => exact eWs_in eMp_w134 rfl
  | 135, _ => exact eWs_in eMp_w135 rfl
  | 136, _ => exact eWs_in eMp_w136 rfl
  | 137, _ => exact eWs_in eMp_w137 rfl
  | 138, _ => exact eWs_in eMp_w138 rfl
  | 139, _ => exact eWs_in eMp_w139 rfl
  | 140, _ => exact eWs_in eMp_w140 rfl
  | 141, _ => exact eWs_in eMp_w141 rfl
  | 142, _ => exact eWs_in eMp_w142 rfl
  | 143, _ => exact eWs_in eMp_w143 rfl
  | 144, _ => exact eWs_in eMp_w144 rfl
  | 145, _ => exact eWs_in eMp_w145 rfl
  | 146, _ => exact eWs_in eMp_w146 rfl
  | 147, _ => exact eWs_in eMp_w147 rfl
  | 148, _ => exact eWs_in eMp_w148 rfl
  | 149, _ => exact eWs_in eMp_w149 rfl
  | 150, _ => exact eWs_in eMp_w150 rfl
  | 151, _ => exact eWs_in eMp_w151 rfl
  | 152, _ => exact eWs_in eMp_w152 rfl
  | 153, _ => exact eWs_in eMp_w153 rfl
  | 154, _ => exact eWs_in eMp_w154 rfl
  | 155, _ => exact eWs_in eMp_w155 rfl
  | 156, _ => exact eWs_in eMp_w156 rfl
  | 157, _ => exact eWs_in eMp_w157 rfl
  | 158, _ => exact eWs_in eMp_w158 rfl
  | 159, _ => exact eWs_in eMp_w159 rfl
  | 160, _ => exact eWs_in eMp_w160 rfl
  | 161, _ => exact eWs_in eMp_w161 rfl
  | 162, _ => exact eWs_in eMp_w162 rfl
  | 163, _ => exact eWs_in eMp_w163 rfl
  | 164, _ => exact eWs_in eMp_w164 rfl
  | 165, _ => exact eWs_in eMp_w165 rfl
  | 166, _ => exact eWs_in eMp_w166 rfl
  | 167, _ => exact eWs_in eMp_w167 rfl
  | 168, _ => exact eWs_in eMp_w168 rfl
  | 169, _ => exact eWs_in eMp_w169 rfl
  | 170, _ => exact eWs_in eMp_w170 rfl
  | 171, _ => exact eWs_in eMp_w171 rfl
  | 172, _ => exact eWs_in eMp_w172 rfl
  | 173, _ => exact eWs_in eMp_w173 rfl
  | 174, _ => exact eWs_in eMp_w174 rfl
  | 175, _ => exact eWs_in eMp_w175 rfl
  | 176, _ => exact eWs_in eMp_w176 rfl
  | 177, _ => exact eWs_in eMp_w177 rfl
  | 178, _ => exact eWs_in eMp_w178 rfl
  | 179, _ => exact eWs_in eMp_w179 rfl
  | 180, _ => exact eWs_in eMp_w180 rfl
  | 181, _ => exact eWs_in eMp_w181 rfl
  | 182, _ => exact eWs_in eMp_w182 rfl
  | 183, _ => exact eWs_in eMp_w183 rfl
  | 184, _ => exact eWs_in eMp_w184 rfl
  | 185, _ => exact eWs_in eMp_w185 rfl
  | 186, _ => exact eWs_in eMp_w186 rfl
  | 187, _ => exact eWs_in eMp_w187 rfl
  | 188, _ => exact eWs_in eMp_w188 rfl
  | 189, _ => exact eWs_in eMp_w189 rfl
  | 190, _ => exact eWs_in eMp_w190 rfl
  | 191, _ => exact eWs_in eMp_w191 rfl
  | 192, _ => exact eWs_in eMp_w192 rfl
  | 193, _ => exact eWs_in eMp_w193 rfl
  | 194, _ => exact eWs_in eMp_w194 rfl
  | 195, _ => exact eWs_in eMp_w195 rfl
  | 196, _ => exact eWs_in eMp_w196 rfl
  | 197, _ => exact eWs_in eMp_w197 rfl
  | 198, _ => exact eWs_in eMp_w198 rfl
  | 199, _ => exact eWs_in eMp_w199 rfl
  | 200, _ => exact eWs_in eMp_w200 rfl
  | 201, _ => exact eWs_in eMp_w201 rfl
  | n + 202, h => exact absurd h (by omega)
