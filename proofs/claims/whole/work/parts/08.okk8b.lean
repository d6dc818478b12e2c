theorem okkl_4_0 : ((cd_345_4.drop 0).take 40).all (fun q => okI ML mN mC 2 16 false code q.1 q.2 && okS 4 q.2) = true := by decide +kernel
theorem okkl_4_1 : ((cd_345_4.drop 40).take 40).all (fun q => okI ML mN mC 2 16 false code q.1 q.2 && okS 4 q.2) = true := by decide +kernel
theorem okkl_4_2 : ((cd_345_4.drop 80).take 40).all (fun q => okI ML mN mC 2 16 false code q.1 q.2 && okS 4 q.2) = true := by decide +kernel
theorem okkl_4_3 : ((cd_345_4.drop 120).take 40).all (fun q => okI ML mN mC 2 16 false code q.1 q.2 && okS 4 q.2) = true := by decide +kernel
theorem okkl_4_4 : ((cd_345_4.drop 160).take 40).all (fun q => okI ML mN mC 2 16 false code q.1 q.2 && okS 4 q.2) = true := by decide +kernel
theorem okkl_4 : cd_345_4.all (fun q => okI ML mN mC 2 16 false code q.1 q.2 && okS 4 q.2) = true := by
  rw [show cd_345_4 = (cd_345_4.drop 0).take 40 ++ ((cd_345_4.drop 40).take 40 ++ ((cd_345_4.drop 80).take 40 ++ ((cd_345_4.drop 120).take 40 ++ (cd_345_4.drop 160).take 40))) from rfl]
  simp only [List.all_append, okkl_4_0, okkl_4_1, okkl_4_2, okkl_4_3, okkl_4_4, Bool.and_self]
