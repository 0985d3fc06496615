set_option maxRecDepth 100000 in
theorem eCd_l14 : (((eCd202.drop 672).take 48).all fun q => decide (decode code q.1 = .ok q.2)) = true := by decide +kernel
