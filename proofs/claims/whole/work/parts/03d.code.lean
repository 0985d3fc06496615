set_option maxRecDepth 100000 in
theorem eCd_w146 : (eCd146.all fun q => decide (decode (eBy 146) q.1 = .ok q.2)) = true := by decide +kernel
set_option maxRecDepth 100000 in
theorem eCd_w147 : (eCd147.all fun q => decide (decode (eBy 147) q.1 = .ok q.2)) = true := by decide +kernel
set_option maxRecDepth 100000 in
theorem eCd_w148 : (eCd148.all fun q => decide (decode (eBy 148) q.1 = .ok q.2)) = true := by decide +kernel
set_option maxRecDepth 100000 in
theorem eCd_w149 : (eCd149.all fun q => decide (decode (eBy 149) q.1 = .ok q.2)) = true := by decide +kernel
set_option maxRecDepth 100000 in
theorem eCd_w150 : (eCd150.all fun q => decide (decode (eBy 150) q.1 = .ok q.2)) = true := by decide +kernel
set_option maxRecDepth 100000 in
theorem eCd_w151 : (eCd151.all fun q => decide (decode (eBy 151) q.1 = .ok q.2)) = true := by decide +kernel
set_option maxRecDepth 100000 in
theorem eCd_w152 : (eCd152.all fun q => decide (decode (eBy 152) q.1 = .ok q.2)) = true := by decide +kernel
set_option maxRecDepth 100000 in
theorem eCd_w153 : (eCd153.all fun q => decide (decode (eBy 153) q.1 = .ok q.2)) = true := by decide +kernel
set_option maxRecDepth 100000 in
theorem eCd_w154 : (eCd154.all fun q => decide (decode (eBy 154) q.1 = .ok q.2)) = true := by decide +kernel
set_option maxRecDepth 100000 in
theorem eCd_w155 : (eCd155.all fun q => decide (decode (eBy 155) q.1 = .ok q.2)) = true := by decide +kernel
set_option maxRecDepth 100000 in
theorem eCd_w156 : (eCd156.all fun q => decide (decode (eBy 156) q.1 = .ok q.2)) = true := by decide +kernel
set_option maxRecDepth 100000 in
theorem eCd_w157 : (eCd157.all fun q => decide (decode (eBy 157) q.1 = .ok q.2)) = true := by decide +kernel
set_option maxRecDepth 100000 in
theorem eCd_w158 : (eCd158.all fun q => decide (decode (eBy 158) q.1 = .ok q.2)) = true := by decide +kernel
set_option maxRecDepth 100000 in
theorem eCd_w159 : (eCd159.all fun q => decide (decode (eBy 159) q.1 = .ok q.2)) = true := by decide +kernel
set_option maxRecDepth 100000 in
theorem eCd_w160 : (eCd160.all fun q => decide (decode (eBy 160) q.1 = .ok q.2)) = true := by decide +kernel
set_option maxRecDepth 100000 in
theorem eCd_w161 : (eCd161.all fun q => decide (decode (eBy 161) q.1 = .ok q.2)) = true := by decide +kernel
set_option maxRecDepth 100000 in
theorem eCd_w162 : (eCd162.all fun q => decide (decode (eBy 162) q.1 = .ok q.2)) = true := by decide +kernel
set_option maxRecDepth 100000 in
theorem eCd_w163 : (eCd163.all fun q => decide (decode (eBy 163) q.1 = .ok q.2)) = true := by decide +kernel
set_option maxRecDepth 100000 in
theorem eCd_w164 : (eCd164.all fun q => decide (decode (eBy 164) q.1 = .ok q.2)) = true := by decide +kernel
set_option maxRecDepth 100000 in
theorem eCd_w165 : (eCd165.all fun q => decide (decode (eBy 165) q.1 = .ok q.2)) = true := by decide +kernel
set_option maxRecDepth 100000 in
theorem eCd_w166 : (eCd166.all fun q => decide (decode (eBy 166) q.1 = .ok q.2)) = true := by decide +kernel
set_option maxRecDepth 100000 in
theorem eCd_w167 : (eCd167.all fun q => decide (decode (eBy 167) q.1 = .ok q.2)) = true := by decide +kernel
set_option maxRecDepth 100000 in
theorem eCd_w168 : (eCd168.all fun q => decide (decode (eBy 168) q.1 = .ok q.2)) = true := by decide +kernel
set_option maxRecDepth 100000 in
theorem eCd_w169 : (eCd169.all fun q => decide (decode (eBy 169) q.1 = .ok q.2)) = true := by decide +kernel
set_option maxRecDepth 100000 in
theorem eCd_w170 : (eCd170.all fun q => decide (decode (eBy 170) q.1 = .ok q.2)) = true := by decide +kernel
set_option maxRecDepth 100000 in
theorem eCd_w171 : (eCd171.all fun q => decide (decode (eBy 171) q.1 = .ok q.2)) = true := by decide +kernel
set_option maxRecDepth 100000 in
theorem eCd_w172 : (eCd172.all fun q => decide (decode (eBy 172) q.1 = .ok q.2)) = true := by decide +kernel
set_option maxRecDepth 100000 in
theorem eCd_w173 : (eCd173.all fun q => decide (decode (eBy 173) q.1 = .ok q.2)) = true := by decide +kernel
