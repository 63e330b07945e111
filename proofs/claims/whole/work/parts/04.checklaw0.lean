theorem zok187_0 : zOKs 187 ((zp187.drop 0).take 40) = true := by decide +kernel
theorem zok187_1 : zOKs 187 ((zp187.drop 40).take 40) = true := by decide +kernel
theorem zok187_2 : zOKs 187 ((zp187.drop 80).take 40) = true := by decide +kernel
theorem zok187_3 : zOKs 187 ((zp187.drop 120).take 40) = true := by decide +kernel
theorem zok187_4 : zOKs 187 ((zp187.drop 160).take 40) = true := by decide +kernel
