theorem okkl_4 : cd_345_4.all (fun q => okI ML mN mC 2 16 false code q.1 q.2 && okS 4 q.2) = true := by decide +kernel
theorem okkl_5 : cd_345_5.all (fun q => okI ML mN mC 2 16 false code q.1 q.2 && okS 4 q.2) = true := by decide +kernel
