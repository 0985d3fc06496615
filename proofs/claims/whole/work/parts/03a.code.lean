set_option maxRecDepth 100000 in
theorem eCd_w0 : (eCd0.all fun q => decide (decode (eBy 0) q.1 = .ok q.2)) = true := by decide +kernel
set_option maxRecDepth 100000 in
theorem eCd_w1 : (eCd1.all fun q => decide (decode (eBy 1) q.1 = .ok q.2)) = true := by decide +kernel
set_option maxRecDepth 100000 in
theorem eCd_w2 : (eCd2.all fun q => decide (decode (eBy 2) q.1 = .ok q.2)) = true := by decide +kernel
set_option maxRecDepth 100000 in
theorem eCd_w3 : (eCd3.all fun q => decide (decode (eBy 3) q.1 = .ok q.2)) = true := by decide +kernel
set_option maxRecDepth 100000 in
theorem eCd_w4 : (eCd4.all fun q => decide (decode (eBy 4) q.1 = .ok q.2)) = true := by decide +kernel
set_option maxRecDepth 100000 in
theorem eCd_w5 : (eCd5.all fun q => decide (decode (eBy 5) q.1 = .ok q.2)) = true := by decide +kernel
set_option maxRecDepth 100000 in
theorem eCd_w6 : (eCd6.all fun q => decide (decode (eBy 6) q.1 = .ok q.2)) = true := by decide +kernel
set_option maxRecDepth 100000 in
theorem eCd_w7 : (eCd7.all fun q => decide (decode (eBy 7) q.1 = .ok q.2)) = true := by decide +kernel
set_option maxRecDepth 100000 in
theorem eCd_w8 : (eCd8.all fun q => decide (decode (eBy 8) q.1 = .ok q.2)) = true := by decide +kernel
set_option maxRecDepth 100000 in
theorem eCd_w9 : (eCd9.all fun q => decide (decode (eBy 9) q.1 = .ok q.2)) = true := by decide +kernel
set_option maxRecDepth 100000 in
theorem eCd_w10 : (eCd10.all fun q => decide (decode (eBy 10) q.1 = .ok q.2)) = true := by decide +kernel
set_option maxRecDepth 100000 in
theorem eCd_w11 : (eCd11.all fun q => decide (decode (eBy 11) q.1 = .ok q.2)) = true := by decide +kernel
set_option maxRecDepth 100000 in
theorem eCd_w12 : (eCd12.all fun q => decide (decode (eBy 12) q.1 = .ok q.2)) = true := by decide +kernel
set_option maxRecDepth 100000 in
theorem eCd_w13 : (eCd13.all fun q => decide (decode (eBy 13) q.1 = .ok q.2)) = true := by decide +kernel
set_option maxRecDepth 100000 in
theorem eCd_w14 : (eCd14.all fun q => decide (decode (eBy 14) q.1 = .ok q.2)) = true := by decide +kernel
set_option maxRecDepth 100000 in
theorem eCd_w15 : (eCd15.all fun q => decide (decode (eBy 15) q.1 = .ok q.2)) = true := by decide +kernel
set_option maxRecDepth 100000 in
theorem eCd_w16 : (eCd16.all fun q => decide (decode (eBy 16) q.1 = .ok q.2)) = true := by decide +kernel
set_option maxRecDepth 100000 in
theorem eCd_w17 : (eCd17.all fun q => decide (decode (eBy 17) q.1 = .ok q.2)) = true := by decide +kernel
set_option maxRecDepth 100000 in
theorem eCd_w18 : (eCd18.all fun q => decide (decode (eBy 18) q.1 = .ok q.2)) = true := by decide +kernel
set_option maxRecDepth 100000 in
theorem eCd_w19 : (eCd19.all fun q => decide (decode (eBy 19) q.1 = .ok q.2)) = true := by decide +kernel
set_option maxRecDepth 100000 in
theorem eCd_w20 : (eCd20.all fun q => decide (decode (eBy 20) q.1 = .ok q.2)) = true := by decide +kernel
set_option maxRecDepth 100000 in
theorem eCd_w21 : (eCd21.all fun q => decide (decode (eBy 21) q.1 = .ok q.2)) = true := by decide +kernel
set_option maxRecDepth 100000 in
theorem eCd_w22 : (eCd22.all fun q => decide (decode (eBy 22) q.1 = .ok q.2)) = true := by decide +kernel
set_option maxRecDepth 100000 in
theorem eCd_w23 : (eCd23.all fun q => decide (decode (eBy 23) q.1 = .ok q.2)) = true := by decide +kernel
set_option maxRecDepth 100000 in
theorem eCd_w24 : (eCd24.all fun q => decide (decode (eBy 24) q.1 = .ok q.2)) = true := by decide +kernel
set_option maxRecDepth 100000 in
theorem eCd_w25 : (eCd25.all fun q => decide (decode (eBy 25) q.1 = .ok q.2)) = true := by decide +kernel
set_option maxRecDepth 100000 in
theorem eCd_w26 : (eCd26.all fun q => decide (decode (eBy 26) q.1 = .ok q.2)) = true := by decide +kernel
set_option maxRecDepth 100000 in
theorem eCd_w27 : (eCd27.all fun q => decide (decode (eBy 27) q.1 = .ok q.2)) = true := by decide +kernel
set_option maxRecDepth 100000 in
theorem eCd_w28 : (eCd28.all fun q => decide (decode (eBy 28) q.1 = .ok q.2)) = true := by decide +kernel
set_option maxRecDepth 100000 in
theorem eCd_w29 : (eCd29.all fun q => decide (decode (eBy 29) q.1 = .ok q.2)) = true := by decide +kernel
set_option maxRecDepth 100000 in
theorem eCd_w30 : (eCd30.all fun q => decide (decode (eBy 30) q.1 = .ok q.2)) = true := by decide +kernel
set_option maxRecDepth 100000 in
theorem eCd_w31 : (eCd31.all fun q => decide (decode (eBy 31) q.1 = .ok q.2)) = true := by decide +kernel
set_option maxRecDepth 100000 in
theorem eCd_w32 : (eCd32.all fun q => decide (decode (eBy 32) q.1 = .ok q.2)) = true := by decide +kernel
set_option maxRecDepth 100000 in
theorem eCd_w33 : (eCd33.all fun q => decide (decode (eBy 33) q.1 = .ok q.2)) = true := by decide +kernel
set_option maxRecDepth 100000 in
theorem eCd_w34 : (eCd34.all fun q => decide (decode (eBy 34) q.1 = .ok q.2)) = true := by decide +kernel
set_option maxRecDepth 100000 in
theorem eCd_w35 : (eCd35.all fun q => decide (decode (eBy 35) q.1 = .ok q.2)) = true := by decide +kernel
set_option maxRecDepth 100000 in
theorem eCd_w36 : (eCd36.all fun q => decide (decode (eBy 36) q.1 = .ok q.2)) = true := by decide +kernel
set_option maxRecDepth 100000 in
theorem eCd_w37 : (eCd37.all fun q => decide (decode (eBy 37) q.1 = .ok q.2)) = true := by decide +kernel
set_option maxRecDepth 100000 in
theorem eCd_w38 : (eCd38.all fun q => decide (decode (eBy 38) q.1 = .ok q.2)) = true := by decide +kernel
set_option maxRecDepth 100000 in
theorem eCd_w39 : (eCd39.all fun q => decide (decode (eBy 39) q.1 = .ok q.2)) = true := by decide +kernel
set_option maxRecDepth 100000 in
theorem eCd_w40 : (eCd40.all fun q => decide (decode (eBy 40) q.1 = .ok q.2)) = true := by decide +kernel
set_option maxRecDepth 100000 in
theorem eCd_w41 : (eCd41.all fun q => decide (decode (eBy 41) q.1 = .ok q.2)) = true := by decide +kernel
set_option maxRecDepth 100000 in
theorem eCd_w42 : (eCd42.all fun q => decide (decode (eBy 42) q.1 = .ok q.2)) = true := by decide +kernel
set_option maxRecDepth 100000 in
theorem eCd_w43 : (eCd43.all fun q => decide (decode (eBy 43) q.1 = .ok q.2)) = true := by decide +kernel
set_option maxRecDepth 100000 in
theorem eCd_w44 : (eCd44.all fun q => decide (decode (eBy 44) q.1 = .ok q.2)) = true := by decide +kernel
set_option maxRecDepth 100000 in
theorem eCd_w45 : (eCd45.all fun q => decide (decode (eBy 45) q.1 = .ok q.2)) = true := by decide +kernel
set_option maxRecDepth 100000 in
theorem eCd_w46 : (eCd46.all fun q => decide (decode (eBy 46) q.1 = .ok q.2)) = true := by decide +kernel
set_option maxRecDepth 100000 in
theorem eCd_w47 : (eCd47.all fun q => decide (decode (eBy 47) q.1 = .ok q.2)) = true := by decide +kernel
set_option maxRecDepth 100000 in
theorem eCd_w48 : (eCd48.all fun q => decide (decode (eBy 48) q.1 = .ok q.2)) = true := by decide +kernel
set_option maxRecDepth 100000 in
theorem eCd_w49 : (eCd49.all fun q => decide (decode (eBy 49) q.1 = .ok q.2)) = true := by decide +kernel
set_option maxRecDepth 100000 in
theorem eCd_w50 : (eCd50.all fun q => decide (decode (eBy 50) q.1 = .ok q.2)) = true := by decide +kernel
set_option maxRecDepth 100000 in
theorem eCd_w51 : (eCd51.all fun q => decide (decode (eBy 51) q.1 = .ok q.2)) = true := by decide +kernel
set_option maxRecDepth 100000 in
theorem eCd_w52 : (eCd52.all fun q => decide (decode (eBy 52) q.1 = .ok q.2)) = true := by decide +kernel
set_option maxRecDepth 100000 in
theorem eCd_w53 : (eCd53.all fun q => decide (decode (eBy 53) q.1 = .ok q.2)) = true := by decide +kernel
set_option maxRecDepth 100000 in
theorem eCd_w54 : (eCd54.all fun q => decide (decode (eBy 54) q.1 = .ok q.2)) = true := by decide +kernel
set_option maxRecDepth 100000 in
theorem eCd_w55 : (eCd55.all fun q => decide (decode (eBy 55) q.1 = .ok q.2)) = true := by decide +kernel
set_option maxRecDepth 100000 in
theorem eCd_w56 : (eCd56.all fun q => decide (decode (eBy 56) q.1 = .ok q.2)) = true := by decide +kernel
set_option maxRecDepth 100000 in
theorem eCd_w57 : (eCd57.all fun q => decide (decode (eBy 57) q.1 = .ok q.2)) = true := by decide +kernel
