theorem zok188_0 : zOKs 188 ((zp188.drop 0).take 40) = true := by decide +kernel
theorem zok188_1 : zOKs 188 ((zp188.drop 40).take 40) = true := by decide +kernel
theorem zok188_2 : zOKs 188 ((zp188.drop 80).take 40) = true := by decide +kernel
theorem zok188_3 : zOKs 188 ((zp188.drop 120).take 40) = true := by decide +kernel
theorem zok188_4 : zOKs 188 ((zp188.drop 160).take 40) = true := by decide +kernel
