theorem okkl_6_0 : ((cd_345_6.drop 0).take 40).all (fun q => okI ML mN mC 2 16 false code q.1 q.2 && okS 4 q.2) = true := by decide +kernel
theorem okkl_6_1 : ((cd_345_6.drop 40).take 40).all (fun q => okI ML mN mC 2 16 false code q.1 q.2 && okS 4 q.2) = true := by decide +kernel
theorem okkl_6_2 : ((cd_345_6.drop 80).take 40).all (fun q => okI ML mN mC 2 16 false code q.1 q.2 && okS 4 q.2) = true := by decide +kernel
theorem okkl_6_3 : ((cd_345_6.drop 120).take 40).all (fun q => okI ML mN mC 2 16 false code q.1 q.2 && okS 4 q.2) = true := by decide +kernel
theorem okkl_6_4 : ((cd_345_6.drop 160).take 40).all (fun q => okI ML mN mC 2 16 false code q.1 q.2 && okS 4 q.2) = true := by decide +kernel
theorem okkl_6_5 : (cd_345_6.drop 200).all (fun q => okI ML mN mC 2 16 false code q.1 q.2 && okS 4 q.2) = true := by decide +kernel
theorem okkl_6 : cd_345_6.all (fun q => okI ML mN mC 2 16 false code q.1 q.2 && okS 4 q.2) = true := all_take okkl_6_0 (all_take okkl_6_1 (by rw [List.drop_drop]; exact all_take okkl_6_2 (by rw [List.drop_drop]; exact all_take okkl_6_3 (by rw [List.drop_drop]; exact all_take okkl_6_4 (by rw [List.drop_drop]; exact okkl_6_5)))))
