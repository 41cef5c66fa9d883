noncomputable section
set_option maxRecDepth 100000 in
theorem xt_a : (Option.rec (motive := fun _ => Bool) false (fun R => and (Nat.beq R.1 1) (and (Nat.beq R.2.1.2.1 2147483649) (Nat.beq R.2.1.2.2 2147483649))) (xl xg_FD (xx xg_FD xg_MT 8) 9 [(5,25,0),(0,0,4294967295),(0,0,4294967295),(0,0,4294967295),(0,0,4294967295)] xg_m183.1 xg_m183.2.1 xg_m183.2.2.1 1000000 xg_m183.1 [(0, (7,0,0))] [] [] 0 0) : Bool) = true := by decide +kernel
set_option maxRecDepth 100000 in
theorem xt_c : (Option.rec (motive := fun _ => Bool) false (fun R => and (Nat.beq R.1 1) (and (Nat.beq R.2.1.2.1 2147483649) (Nat.beq R.2.1.2.2 2147483649))) (xl xg_FD (xx xg_FD xg_MT 8) 9 [(5,0,0),(0,2147483650,2147483650),(0,2147483648,2147483648),(0,0,4294967295),(0,0,4294967295)] xg_m183.1 xg_m183.2.1 xg_m183.2.2.1 1000000 xg_m183.1 [(0, (7,0,0))] [] [] 0 0) : Bool) = true := by decide +kernel
end
