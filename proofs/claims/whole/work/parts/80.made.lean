/-! THE CONSTRUCTORS' memory, by the kernel -/
def MM : Option pm_M := (f_X9_init_0 (pm_row (fun _ _ => 0) 0 (fun _ => 0))).bind (fun μ1 => f_X10_init_50 (pm_row μ1 50 (fun _ => 0)))
def chk1 (μ : pm_M) : Bool := (List.range 49).all (fun i => decide (μ 3 i = -6) && decide (μ 51 i = -6) && decide (μ 4 i = 0) && decide (μ 53 i = 0)) && (List.range 7).all (fun i => decide (μ 5 i = nI i) && decide (μ 51 (49 + i) = nI i) && decide (μ 6 i = 5) && decide (μ 51 (56 + i) = 5)) && decide (μ 2 4 = 0) && decide (μ 51 63 = 0)
def chk2 (μ : pm_M) : Bool := (List.range 8).all (fun i => decide (μ 8 i = 123)) && (List.range 32).all (fun i => decide (μ 9 i = nI (i % 4)) && decide (μ 54 i = nI (i % 4)))
def chk3 (μ : pm_M) : Bool := decide (μ 10 2 = 410) && decide (μ 10 3 = 0) && decide (μ 50 4 = 0) && decide (μ 42 1 = 0) && decide (μ 50 6 = 0) && decide (μ 13 3 = 0) && decide (μ 25 3 = 0) && decide (μ 67 0 = 0) && decide (μ 67 1 = 0) && (List.range 61).all (fun i => decide (μ 49 i = nI (wlit.getD i 0)))
def chk4 (μ : pm_M) : Bool := (List.range 410).all (fun i => decide (μ 11 i = nI i))
theorem mm_1 : MM.map chk1 = some true := by decide +kernel
theorem mm_2 : MM.map chk2 = some true := by decide +kernel
theorem mm_3 : MM.map chk3 = some true := by decide +kernel
theorem mm_4 : MM.map chk4 = some true := by decide +kernel
