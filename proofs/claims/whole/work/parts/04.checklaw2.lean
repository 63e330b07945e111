theorem zok188_10 : zOKs 188 ((zp188.drop 400).take 40) = true := by decide +kernel
theorem zok188_11 : zOKs 188 ((zp188.drop 440).take 40) = true := by decide +kernel
