theorem zok187_10 : zOKs 187 ((zp187.drop 400).take 40) = true := by decide +kernel
theorem zok187_11 : zOKs 187 ((zp187.drop 440).take 40) = true := by decide +kernel
theorem zok187_12 : zOKs 187 ((zp187.drop 480).take 40) = true := by decide +kernel
