theorem okkl_7_0 : ((cd_345_7.drop 0).take 40).all (fun q => okI ML mN mC 2 16 false code q.1 q.2 && okS 4 q.2) = true := by decide +kernel
theorem okkl_7_1 : ((cd_345_7.drop 40).take 40).all (fun q => okI ML mN mC 2 16 false code q.1 q.2 && okS 4 q.2) = true := by decide +kernel
theorem okkl_7_2 : ((cd_345_7.drop 80).take 40).all (fun q => okI ML mN mC 2 16 false code q.1 q.2 && okS 4 q.2) = true := by decide +kernel
theorem okkl_7_3 : ((cd_345_7.drop 120).take 40).all (fun q => okI ML mN mC 2 16 false code q.1 q.2 && okS 4 q.2) = true := by decide +kernel
theorem okkl_7_4 : ((cd_345_7.drop 160).take 40).all (fun q => okI ML mN mC 2 16 false code q.1 q.2 && okS 4 q.2) = true := by decide +kernel
theorem okkl_7 : cd_345_7.all (fun q => okI ML mN mC 2 16 false code q.1 q.2 && okS 4 q.2) = true := by
  rw [show cd_345_7 = (cd_345_7.drop 0).take 40 ++ ((cd_345_7.drop 40).take 40 ++ ((cd_345_7.drop 80).take 40 ++ ((cd_345_7.drop 120).take 40 ++ (cd_345_7.drop 160).take 40))) from rfl]
  simp only [List.all_append, okkl_7_0, okkl_7_1, okkl_7_2, okkl_7_3, okkl_7_4, Bool.and_self]
