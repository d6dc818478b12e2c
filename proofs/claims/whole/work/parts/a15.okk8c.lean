theorem okkl_5_0 : ((cd_345_5.drop 0).take 40).all (fun q => okI ML mN mC 2 16 false code q.1 q.2 && okS 4 q.2) = true := by decide +kernel
theorem okkl_5_1 : ((cd_345_5.drop 40).take 40).all (fun q => okI ML mN mC 2 16 false code q.1 q.2 && okS 4 q.2) = true := by decide +kernel
theorem okkl_5_2 : ((cd_345_5.drop 80).take 40).all (fun q => okI ML mN mC 2 16 false code q.1 q.2 && okS 4 q.2) = true := by decide +kernel
theorem okkl_5_3 : ((cd_345_5.drop 120).take 40).all (fun q => okI ML mN mC 2 16 false code q.1 q.2 && okS 4 q.2) = true := by decide +kernel
theorem okkl_5_4 : ((cd_345_5.drop 160).take 40).all (fun q => okI ML mN mC 2 16 false code q.1 q.2 && okS 4 q.2) = true := by decide +kernel
theorem okkl_5_5 : (cd_345_5.drop 200).all (fun q => okI ML mN mC 2 16 false code q.1 q.2 && okS 4 q.2) = true := by decide +kernel
theorem okkl_5 : cd_345_5.all (fun q => okI ML mN mC 2 16 false code q.1 q.2 && okS 4 q.2) = true := all_take okkl_5_0 (all_take okkl_5_1 (by rw [List.drop_drop]; exact all_take okkl_5_2 (by rw [List.drop_drop]; exact all_take okkl_5_3 (by rw [List.drop_drop]; exact all_take okkl_5_4 (by rw [List.drop_drop]; exact okkl_5_5)))))
