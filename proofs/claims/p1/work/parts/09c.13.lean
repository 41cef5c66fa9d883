/-! boxes -/
def xv_e13 : List xv_En := [(26, (0, 0, 4294967295), [], [], []), (27, (0, 0, 4294967295), [], [], []), (28, (0, 0, 4294967295), [], [], []), (29, (0, 0, 4294967295), [], [], []), (30, (0, 0, 4294967295), [], [], []), (31, (0, 0, 4294967295), [], [], [])]
set_option maxRecDepth 1000000 in
theorem xv_g13 : xv_run (fun h nc ns => xv_e13.all (xv_ent h nc ns)) = true := by decide +kernel
