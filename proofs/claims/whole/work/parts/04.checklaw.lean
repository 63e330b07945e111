theorem zok187 : zOKs 187 zp187 = true := by decide +kernel
