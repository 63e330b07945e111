theorem zok188_5 : zOKs 188 ((zp188.drop 200).take 40) = true := by decide +kernel
theorem zok188_6 : zOKs 188 ((zp188.drop 240).take 40) = true := by decide +kernel
theorem zok188_7 : zOKs 188 ((zp188.drop 280).take 40) = true := by decide +kernel
theorem zok188_8 : zOKs 188 ((zp188.drop 320).take 40) = true := by decide +kernel
theorem zok188_9 : zOKs 188 ((zp188.drop 360).take 40) = true := by decide +kernel
