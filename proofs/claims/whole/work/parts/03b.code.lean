set_option maxRecDepth 100000 in
theorem eCd_w58 : (eCd58.all fun q => decide (decode (eBy 58) q.1 = .ok q.2)) = true := by decide +kernel
set_option maxRecDepth 100000 in
theorem eCd_w59 : (eCd59.all fun q => decide (decode (eBy 59) q.1 = .ok q.2)) = true := by decide +kernel
set_option maxRecDepth 100000 in
theorem eCd_w60 : (eCd60.all fun q => decide (decode (eBy 60) q.1 = .ok q.2)) = true := by decide +kernel
set_option maxRecDepth 100000 in
theorem eCd_w61 : (eCd61.all fun q => decide (decode (eBy 61) q.1 = .ok q.2)) = true := by decide +kernel
set_option maxRecDepth 100000 in
theorem eCd_w62 : (eCd62.all fun q => decide (decode (eBy 62) q.1 = .ok q.2)) = true := by decide +kernel
set_option maxRecDepth 100000 in
theorem eCd_w63 : (eCd63.all fun q => decide (decode (eBy 63) q.1 = .ok q.2)) = true := by decide +kernel
set_option maxRecDepth 100000 in
theorem eCd_w64 : (eCd64.all fun q => decide (decode (eBy 64) q.1 = .ok q.2)) = true := by decide +kernel
set_option maxRecDepth 100000 in
theorem eCd_w65 : (eCd65.all fun q => decide (decode (eBy 65) q.1 = .ok q.2)) = true := by decide +kernel
set_option maxRecDepth 100000 in
theorem eCd_w66 : (eCd66.all fun q => decide (decode (eBy 66) q.1 = .ok q.2)) = true := by decide +kernel
set_option maxRecDepth 100000 in
theorem eCd_w67 : (eCd67.all fun q => decide (decode (eBy 67) q.1 = .ok q.2)) = true := by decide +kernel
set_option maxRecDepth 100000 in
theorem eCd_w68 : (eCd68.all fun q => decide (decode (eBy 68) q.1 = .ok q.2)) = true := by decide +kernel
set_option maxRecDepth 100000 in
theorem eCd_w69 : (eCd69.all fun q => decide (decode (eBy 69) q.1 = .ok q.2)) = true := by decide +kernel
set_option maxRecDepth 100000 in
theorem eCd_w70 : (eCd70.all fun q => decide (decode (eBy 70) q.1 = .ok q.2)) = true := by decide +kernel
set_option maxRecDepth 100000 in
theorem eCd_w71 : (eCd71.all fun q => decide (decode (eBy 71) q.1 = .ok q.2)) = true := by decide +kernel
set_option maxRecDepth 100000 in
theorem eCd_w72 : (eCd72.all fun q => decide (decode (eBy 72) q.1 = .ok q.2)) = true := by decide +kernel
set_option maxRecDepth 100000 in
theorem eCd_w73 : (eCd73.all fun q => decide (decode (eBy 73) q.1 = .ok q.2)) = true := by decide +kernel
set_option maxRecDepth 100000 in
theorem eCd_w74 : (eCd74.all fun q => decide (decode (eBy 74) q.1 = .ok q.2)) = true := by decide +kernel
set_option maxRecDepth 100000 in
theorem eCd_w75 : (eCd75.all fun q => decide (decode (eBy 75) q.1 = .ok q.2)) = true := by decide +kernel
set_option maxRecDepth 100000 in
theorem eCd_w76 : (eCd76.all fun q => decide (decode (eBy 76) q.1 = .ok q.2)) = true := by decide +kernel
set_option maxRecDepth 100000 in
theorem eCd_w77 : (eCd77.all fun q => decide (decode (eBy 77) q.1 = .ok q.2)) = true := by decide +kernel
set_option maxRecDepth 100000 in
theorem eCd_w78 : (eCd78.all fun q => decide (decode (eBy 78) q.1 = .ok q.2)) = true := by decide +kernel
set_option maxRecDepth 100000 in
theorem eCd_w79 : (eCd79.all fun q => decide (decode (eBy 79) q.1 = .ok q.2)) = true := by decide +kernel
set_option maxRecDepth 100000 in
theorem eCd_w80 : (eCd80.all fun q => decide (decode (eBy 80) q.1 = .ok q.2)) = true := by decide +kernel
set_option maxRecDepth 100000 in
theorem eCd_w81 : (eCd81.all fun q => decide (decode (eBy 81) q.1 = .ok q.2)) = true := by decide +kernel
set_option maxRecDepth 100000 in
theorem eCd_w82 : (eCd82.all fun q => decide (decode (eBy 82) q.1 = .ok q.2)) = true := by decide +kernel
set_option maxRecDepth 100000 in
theorem eCd_w83 : (eCd83.all fun q => decide (decode (eBy 83) q.1 = .ok q.2)) = true := by decide +kernel
set_option maxRecDepth 100000 in
theorem eCd_w84 : (eCd84.all fun q => decide (decode (eBy 84) q.1 = .ok q.2)) = true := by decide +kernel
set_option maxRecDepth 100000 in
theorem eCd_w85 : (eCd85.all fun q => decide (decode (eBy 85) q.1 = .ok q.2)) = true := by decide +kernel
set_option maxRecDepth 100000 in
theorem eCd_w86 : (eCd86.all fun q => decide (decode (eBy 86) q.1 = .ok q.2)) = true := by decide +kernel
set_option maxRecDepth 100000 in
theorem eCd_w87 : (eCd87.all fun q => decide (decode (eBy 87) q.1 = .ok q.2)) = true := by decide +kernel
set_option maxRecDepth 100000 in
theorem eCd_w88 : (eCd88.all fun q => decide (decode (eBy 88) q.1 = .ok q.2)) = true := by decide +kernel
set_option maxRecDepth 100000 in
theorem eCd_w89 : (eCd89.all fun q => decide (decode (eBy 89) q.1 = .ok q.2)) = true := by decide +kernel
set_option maxRecDepth 100000 in
theorem eCd_w90 : (eCd90.all fun q => decide (decode (eBy 90) q.1 = .ok q.2)) = true := by decide +kernel
set_option maxRecDepth 100000 in
theorem eCd_w91 : (eCd91.all fun q => decide (decode (eBy 91) q.1 = .ok q.2)) = true := by decide +kernel
set_option maxRecDepth 100000 in
theorem eCd_w92 : (eCd92.all fun q => decide (decode (eBy 92) q.1 = .ok q.2)) = true := by decide +kernel
set_option maxRecDepth 100000 in
theorem eCd_w93 : (eCd93.all fun q => decide (decode (eBy 93) q.1 = .ok q.2)) = true := by decide +kernel
set_option maxRecDepth 100000 in
theorem eCd_w94 : (eCd94.all fun q => decide (decode (eBy 94) q.1 = .ok q.2)) = true := by decide +kernel
set_option maxRecDepth 100000 in
theorem eCd_w95 : (eCd95.all fun q => decide (decode (eBy 95) q.1 = .ok q.2)) = true := by decide +kernel
