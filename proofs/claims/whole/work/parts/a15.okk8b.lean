theorem all_take {α : Type} {f : α → Bool} {l : List α} {k : Nat} (h1 : (l.take k).all f = true) (h2 : (l.drop k).all f = true) : l.all f = true := by rw [← List.take_append_drop k l, List.all_append, h1, h2]; rfl
theorem okkl_4_0 : ((cd_345_4.drop 0).take 40).all (fun q => okI ML mN mC 2 16 false code q.1 q.2 && okS 4 q.2) = true := by decide +kernel
theorem okkl_4_1 : ((cd_345_4.drop 40).take 40).all (fun q => okI ML mN mC 2 16 false code q.1 q.2 && okS 4 q.2) = true := by decide +kernel
theorem okkl_4_2 : ((cd_345_4.drop 80).take 40).all (fun q => okI ML mN mC 2 16 false code q.1 q.2 && okS 4 q.2) = true := by decide +kernel
theorem okkl_4_3 : ((cd_345_4.drop 120).take 40).all (fun q => okI ML mN mC 2 16 false code q.1 q.2 && okS 4 q.2) = true := by decide +kernel
theorem okkl_4_4 : ((cd_345_4.drop 160).take 40).all (fun q => okI ML mN mC 2 16 false code q.1 q.2 && okS 4 q.2) = true := by decide +kernel
theorem okkl_4_5 : (cd_345_4.drop 200).all (fun q => okI ML mN mC 2 16 false code q.1 q.2 && okS 4 q.2) = true := by decide +kernel
theorem okkl_4 : cd_345_4.all (fun q => okI ML mN mC 2 16 false code q.1 q.2 && okS 4 q.2) = true := all_take okkl_4_0 (all_take okkl_4_1 (by rw [List.drop_drop]; exact all_take okkl_4_2 (by rw [List.drop_drop]; exact all_take okkl_4_3 (by rw [List.drop_drop]; exact all_take okkl_4_4 (by rw [List.drop_drop]; exact okkl_4_5)))))
