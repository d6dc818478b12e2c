theorem okkl_7_0 : ((cd_345_7.drop 0).take 40).all (fun q => okI ML mN mC 2 16 false code q.1 q.2 && okS 4 q.2) = true := by decide +kernel
theorem okkl_7_1 : ((cd_345_7.drop 40).take 40).all (fun q => okI ML mN mC 2 16 false code q.1 q.2 && okS 4 q.2) = true := by decide +kernel
theorem okkl_7_2 : ((cd_345_7.drop 80).take 40).all (fun q => okI ML mN mC 2 16 false code q.1 q.2 && okS 4 q.2) = true := by decide +kernel
theorem okkl_7_3 : ((cd_345_7.drop 120).take 40).all (fun q => okI ML mN mC 2 16 false code q.1 q.2 && okS 4 q.2) = true := by decide +kernel
theorem okkl_7_4 : ((cd_345_7.drop 160).take 40).all (fun q => okI ML mN mC 2 16 false code q.1 q.2 && okS 4 q.2) = true := by decide +kernel
theorem okkl_7_5 : (cd_345_7.drop 200).all (fun q => okI ML mN mC 2 16 false code q.1 q.2 && okS 4 q.2) = true := by decide +kernel
theorem okkl_7 : cd_345_7.all (fun q => okI ML mN mC 2 16 false code q.1 q.2 && okS 4 q.2) = true := all_take okkl_7_0 (all_take okkl_7_1 (by rw [List.drop_drop]; exact all_take okkl_7_2 (by rw [List.drop_drop]; exact all_take okkl_7_3 (by rw [List.drop_drop]; exact all_take okkl_7_4 (by rw [List.drop_drop]; exact okkl_7_5)))))
