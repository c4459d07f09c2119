/-! the same for the law -/
theorem kl_0 : ((cd_law.drop 0).take 6).all (fun l => l.all (aChk 9 code false)) = true := by decide +kernel
theorem kl_6 : ((cd_law.drop 6).take 6).all (fun l => l.all (aChk 9 code false)) = true := by decide +kernel
theorem kl_12 : ((cd_law.drop 12).take 6).all (fun l => l.all (aChk 9 code false)) = true := by decide +kernel
theorem kl_18 : ((cd_law.drop 18).take 6).all (fun l => l.all (aChk 9 code false)) = true := by decide +kernel
theorem kl_24 : ((cd_law.drop 24).take 6).all (fun l => l.all (aChk 9 code false)) = true := by decide +kernel
theorem kl_30 : ((cd_law.drop 30).take 6).all (fun l => l.all (aChk 9 code false)) = true := by decide +kernel
theorem kl_36 : ((cd_law.drop 36).take 6).all (fun l => l.all (aChk 9 code false)) = true := by decide +kernel
theorem kl_42 : ((cd_law.drop 42).take 6).all (fun l => l.all (aChk 9 code false)) = true := by decide +kernel
theorem kl_48 : ((cd_law.drop 48).take 6).all (fun l => l.all (aChk 9 code false)) = true := by decide +kernel
theorem kl_54 : ((cd_law.drop 54).take 6).all (fun l => l.all (aChk 9 code false)) = true := by decide +kernel
theorem kl_60 : ((cd_law.drop 60).take 6).all (fun l => l.all (aChk 9 code false)) = true := by decide +kernel
theorem kl_66 : ((cd_law.drop 66).take 6).all (fun l => l.all (aChk 9 code false)) = true := by decide +kernel
theorem kl_72 : ((cd_law.drop 72).take 6).all (fun l => l.all (aChk 9 code false)) = true := by decide +kernel
theorem kl_78 : ((cd_law.drop 78).take 6).all (fun l => l.all (aChk 9 code false)) = true := by decide +kernel
theorem kl_84 : ((cd_law.drop 84).take 6).all (fun l => l.all (aChk 9 code false)) = true := by decide +kernel
theorem kl_90 : ((cd_law.drop 90).take 6).all (fun l => l.all (aChk 9 code false)) = true := by decide +kernel
