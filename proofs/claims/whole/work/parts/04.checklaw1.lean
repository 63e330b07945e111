theorem zok187_5 : zOKs 187 ((zp187.drop 200).take 40) = true := by decide +kernel
theorem zok187_6 : zOKs 187 ((zp187.drop 240).take 40) = true := by decide +kernel
theorem zok187_7 : zOKs 187 ((zp187.drop 280).take 40) = true := by decide +kernel
theorem zok187_8 : zOKs 187 ((zp187.drop 320).take 40) = true := by decide +kernel
theorem zok187_9 : zOKs 187 ((zp187.drop 360).take 40) = true := by decide +kernel
