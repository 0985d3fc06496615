set_option maxRecDepth 100000 in
theorem eCd_w174 : (eCd174.all fun q => decide (decode (eBy 174) q.1 = .ok q.2)) = true := by decide +kernel
set_option maxRecDepth 100000 in
theorem eCd_w175 : (eCd175.all fun q => decide (decode (eBy 175) q.1 = .ok q.2)) = true := by decide +kernel
set_option maxRecDepth 100000 in
theorem eCd_w176 : (eCd176.all fun q => decide (decode (eBy 176) q.1 = .ok q.2)) = true := by decide +kernel
set_option maxRecDepth 100000 in
theorem eCd_w177 : (eCd177.all fun q => decide (decode (eBy 177) q.1 = .ok q.2)) = true := by decide +kernel
set_option maxRecDepth 100000 in
theorem eCd_w178 : (eCd178.all fun q => decide (decode (eBy 178) q.1 = .ok q.2)) = true := by decide +kernel
set_option maxRecDepth 100000 in
theorem eCd_w179 : (eCd179.all fun q => decide (decode (eBy 179) q.1 = .ok q.2)) = true := by decide +kernel
set_option maxRecDepth 100000 in
theorem eCd_w180 : (eCd180.all fun q => decide (decode (eBy 180) q.1 = .ok q.2)) = true := by decide +kernel
set_option maxRecDepth 100000 in
theorem eCd_w181 : (eCd181.all fun q => decide (decode (eBy 181) q.1 = .ok q.2)) = true := by decide +kernel
set_option maxRecDepth 100000 in
theorem eCd_w182 : (eCd182.all fun q => decide (decode (eBy 182) q.1 = .ok q.2)) = true := by decide +kernel
set_option maxRecDepth 100000 in
theorem eCd_w183 : (eCd183.all fun q => decide (decode (eBy 183) q.1 = .ok q.2)) = true := by decide +kernel
set_option maxRecDepth 100000 in
theorem eCd_w184 : (eCd184.all fun q => decide (decode (eBy 184) q.1 = .ok q.2)) = true := by decide +kernel
set_option maxRecDepth 100000 in
theorem eCd_w185 : (eCd185.all fun q => decide (decode (eBy 185) q.1 = .ok q.2)) = true := by decide +kernel
set_option maxRecDepth 100000 in
theorem eCd_w186 : (eCd186.all fun q => decide (decode (eBy 186) q.1 = .ok q.2)) = true := by decide +kernel
set_option maxRecDepth 100000 in
theorem eCd_w187 : (eCd187.all fun q => decide (decode (eBy 187) q.1 = .ok q.2)) = true := by decide +kernel
set_option maxRecDepth 100000 in
theorem eCd_w188 : (eCd188.all fun q => decide (decode (eBy 188) q.1 = .ok q.2)) = true := by decide +kernel
set_option maxRecDepth 100000 in
theorem eCd_w189 : (eCd189.all fun q => decide (decode (eBy 189) q.1 = .ok q.2)) = true := by decide +kernel
set_option maxRecDepth 100000 in
theorem eCd_w190 : (eCd190.all fun q => decide (decode (eBy 190) q.1 = .ok q.2)) = true := by decide +kernel
set_option maxRecDepth 100000 in
theorem eCd_w191 : (eCd191.all fun q => decide (decode (eBy 191) q.1 = .ok q.2)) = true := by decide +kernel
set_option maxRecDepth 100000 in
theorem eCd_w192 : (eCd192.all fun q => decide (decode (eBy 192) q.1 = .ok q.2)) = true := by decide +kernel
set_option maxRecDepth 100000 in
theorem eCd_w193 : (eCd193.all fun q => decide (decode (eBy 193) q.1 = .ok q.2)) = true := by decide +kernel
set_option maxRecDepth 100000 in
theorem eCd_w194 : (eCd194.all fun q => decide (decode (eBy 194) q.1 = .ok q.2)) = true := by decide +kernel
set_option maxRecDepth 100000 in
theorem eCd_w195 : (eCd195.all fun q => decide (decode (eBy 195) q.1 = .ok q.2)) = true := by decide +kernel
set_option maxRecDepth 100000 in
theorem eCd_w196 : (eCd196.all fun q => decide (decode (eBy 196) q.1 = .ok q.2)) = true := by decide +kernel
set_option maxRecDepth 100000 in
theorem eCd_w197 : (eCd197.all fun q => decide (decode (eBy 197) q.1 = .ok q.2)) = true := by decide +kernel
set_option maxRecDepth 100000 in
theorem eCd_w198 : (eCd198.all fun q => decide (decode (eBy 198) q.1 = .ok q.2)) = true := by decide +kernel
set_option maxRecDepth 100000 in
theorem eCd_w199 : (eCd199.all fun q => decide (decode (eBy 199) q.1 = .ok q.2)) = true := by decide +kernel
set_option maxRecDepth 100000 in
theorem eCd_w200 : (eCd200.all fun q => decide (decode (eBy 200) q.1 = .ok q.2)) = true := by decide +kernel
set_option maxRecDepth 100000 in
theorem eCd_w201 : (eCd201.all fun q => decide (decode (eBy 201) q.1 = .ok q.2)) = true := by decide +kernel
