set_option maxRecDepth 100000 in
theorem eCd_w96 : (eCd96.all fun q => decide (decode (eBy 96) q.1 = .ok q.2)) = true := by decide +kernel
set_option maxRecDepth 100000 in
theorem eCd_w97 : (eCd97.all fun q => decide (decode (eBy 97) q.1 = .ok q.2)) = true := by decide +kernel
set_option maxRecDepth 100000 in
theorem eCd_w98 : (eCd98.all fun q => decide (decode (eBy 98) q.1 = .ok q.2)) = true := by decide +kernel
set_option maxRecDepth 100000 in
theorem eCd_w99 : (eCd99.all fun q => decide (decode (eBy 99) q.1 = .ok q.2)) = true := by decide +kernel
set_option maxRecDepth 100000 in
theorem eCd_w100 : (eCd100.all fun q => decide (decode (eBy 100) q.1 = .ok q.2)) = true := by decide +kernel
set_option maxRecDepth 100000 in
theorem eCd_w101 : (eCd101.all fun q => decide (decode (eBy 101) q.1 = .ok q.2)) = true := by decide +kernel
set_option maxRecDepth 100000 in
theorem eCd_w102 : (eCd102.all fun q => decide (decode (eBy 102) q.1 = .ok q.2)) = true := by decide +kernel
set_option maxRecDepth 100000 in
theorem eCd_w103 : (eCd103.all fun q => decide (decode (eBy 103) q.1 = .ok q.2)) = true := by decide +kernel
set_option maxRecDepth 100000 in
theorem eCd_w104 : (eCd104.all fun q => decide (decode (eBy 104) q.1 = .ok q.2)) = true := by decide +kernel
set_option maxRecDepth 100000 in
theorem eCd_w105 : (eCd105.all fun q => decide (decode (eBy 105) q.1 = .ok q.2)) = true := by decide +kernel
set_option maxRecDepth 100000 in
theorem eCd_w106 : (eCd106.all fun q => decide (decode (eBy 106) q.1 = .ok q.2)) = true := by decide +kernel
set_option maxRecDepth 100000 in
theorem eCd_w107 : (eCd107.all fun q => decide (decode (eBy 107) q.1 = .ok q.2)) = true := by decide +kernel
set_option maxRecDepth 100000 in
theorem eCd_w108 : (eCd108.all fun q => decide (decode (eBy 108) q.1 = .ok q.2)) = true := by decide +kernel
set_option maxRecDepth 100000 in
theorem eCd_w109 : (eCd109.all fun q => decide (decode (eBy 109) q.1 = .ok q.2)) = true := by decide +kernel
set_option maxRecDepth 100000 in
theorem eCd_w110 : (eCd110.all fun q => decide (decode (eBy 110) q.1 = .ok q.2)) = true := by decide +kernel
set_option maxRecDepth 100000 in
theorem eCd_w111 : (eCd111.all fun q => decide (decode (eBy 111) q.1 = .ok q.2)) = true := by decide +kernel
set_option maxRecDepth 100000 in
theorem eCd_w112 : (eCd112.all fun q => decide (decode (eBy 112) q.1 = .ok q.2)) = true := by decide +kernel
set_option maxRecDepth 100000 in
theorem eCd_w113 : (eCd113.all fun q => decide (decode (eBy 113) q.1 = .ok q.2)) = true := by decide +kernel
set_option maxRecDepth 100000 in
theorem eCd_w114 : (eCd114.all fun q => decide (decode (eBy 114) q.1 = .ok q.2)) = true := by decide +kernel
set_option maxRecDepth 100000 in
theorem eCd_w115 : (eCd115.all fun q => decide (decode (eBy 115) q.1 = .ok q.2)) = true := by decide +kernel
set_option maxRecDepth 100000 in
theorem eCd_w116 : (eCd116.all fun q => decide (decode (eBy 116) q.1 = .ok q.2)) = true := by decide +kernel
set_option maxRecDepth 100000 in
theorem eCd_w117 : (eCd117.all fun q => decide (decode (eBy 117) q.1 = .ok q.2)) = true := by decide +kernel
set_option maxRecDepth 100000 in
theorem eCd_w118 : (eCd118.all fun q => decide (decode (eBy 118) q.1 = .ok q.2)) = true := by decide +kernel
set_option maxRecDepth 100000 in
theorem eCd_w119 : (eCd119.all fun q => decide (decode (eBy 119) q.1 = .ok q.2)) = true := by decide +kernel
set_option maxRecDepth 100000 in
theorem eCd_w120 : (eCd120.all fun q => decide (decode (eBy 120) q.1 = .ok q.2)) = true := by decide +kernel
set_option maxRecDepth 100000 in
theorem eCd_w121 : (eCd121.all fun q => decide (decode (eBy 121) q.1 = .ok q.2)) = true := by decide +kernel
set_option maxRecDepth 100000 in
theorem eCd_w122 : (eCd122.all fun q => decide (decode (eBy 122) q.1 = .ok q.2)) = true := by decide +kernel
set_option maxRecDepth 100000 in
theorem eCd_w123 : (eCd123.all fun q => decide (decode (eBy 123) q.1 = .ok q.2)) = true := by decide +kernel
set_option maxRecDepth 100000 in
theorem eCd_w124 : (eCd124.all fun q => decide (decode (eBy 124) q.1 = .ok q.2)) = true := by decide +kernel
set_option maxRecDepth 100000 in
theorem eCd_w125 : (eCd125.all fun q => decide (decode (eBy 125) q.1 = .ok q.2)) = true := by decide +kernel
set_option maxRecDepth 100000 in
theorem eCd_w126 : (eCd126.all fun q => decide (decode (eBy 126) q.1 = .ok q.2)) = true := by decide +kernel
set_option maxRecDepth 100000 in
theorem eCd_w127 : (eCd127.all fun q => decide (decode (eBy 127) q.1 = .ok q.2)) = true := by decide +kernel
set_option maxRecDepth 100000 in
theorem eCd_w128 : (eCd128.all fun q => decide (decode (eBy 128) q.1 = .ok q.2)) = true := by decide +kernel
set_option maxRecDepth 100000 in
theorem eCd_w129 : (eCd129.all fun q => decide (decode (eBy 129) q.1 = .ok q.2)) = true := by decide +kernel
set_option maxRecDepth 100000 in
theorem eCd_w130 : (eCd130.all fun q => decide (decode (eBy 130) q.1 = .ok q.2)) = true := by decide +kernel
set_option maxRecDepth 100000 in
theorem eCd_w131 : (eCd131.all fun q => decide (decode (eBy 131) q.1 = .ok q.2)) = true := by decide +kernel
set_option maxRecDepth 100000 in
theorem eCd_w132 : (eCd132.all fun q => decide (decode (eBy 132) q.1 = .ok q.2)) = true := by decide +kernel
set_option maxRecDepth 100000 in
theorem eCd_w133 : (eCd133.all fun q => decide (decode (eBy 133) q.1 = .ok q.2)) = true := by decide +kernel
set_option maxRecDepth 100000 in
theorem eCd_w134 : (eCd134.all fun q => decide (decode (eBy 134) q.1 = .ok q.2)) = true := by decide +kernel
set_option maxRecDepth 100000 in
theorem eCd_w135 : (eCd135.all fun q => decide (decode (eBy 135) q.1 = .ok q.2)) = true := by decide +kernel
set_option maxRecDepth 100000 in
theorem eCd_w136 : (eCd136.all fun q => decide (decode (eBy 136) q.1 = .ok q.2)) = true := by decide +kernel
set_option maxRecDepth 100000 in
theorem eCd_w137 : (eCd137.all fun q => decide (decode (eBy 137) q.1 = .ok q.2)) = true := by decide +kernel
set_option maxRecDepth 100000 in
theorem eCd_w138 : (eCd138.all fun q => decide (decode (eBy 138) q.1 = .ok q.2)) = true := by decide +kernel
set_option maxRecDepth 100000 in
theorem eCd_w139 : (eCd139.all fun q => decide (decode (eBy 139) q.1 = .ok q.2)) = true := by decide +kernel
set_option maxRecDepth 100000 in
theorem eCd_w140 : (eCd140.all fun q => decide (decode (eBy 140) q.1 = .ok q.2)) = true := by decide +kernel
set_option maxRecDepth 100000 in
theorem eCd_w141 : (eCd141.all fun q => decide (decode (eBy 141) q.1 = .ok q.2)) = true := by decide +kernel
set_option maxRecDepth 100000 in
theorem eCd_w142 : (eCd142.all fun q => decide (decode (eBy 142) q.1 = .ok q.2)) = true := by decide +kernel
set_option maxRecDepth 100000 in
theorem eCd_w143 : (eCd143.all fun q => decide (decode (eBy 143) q.1 = .ok q.2)) = true := by decide +kernel
set_option maxRecDepth 100000 in
theorem eCd_w144 : (eCd144.all fun q => decide (decode (eBy 144) q.1 = .ok q.2)) = true := by decide +kernel
set_option maxRecDepth 100000 in
theorem eCd_w145 : (eCd145.all fun q => decide (decode (eBy 145) q.1 = .ok q.2)) = true := by decide +kernel
