abbrev tz : Nat → Int32 := fun _ => 0
abbrev tP : PlanS := (tz, tz, tz, tz, 0, 0)
abbrev tM : MshS := (tz, tz, tz, tz, tz, tz, tz, tz, 0, 0, 0)
/-- a new object -/
def S00 : TopS := (tP, tM, tP, tM, tP, (tz, tz, tz, tz, 0, 0, false, 0, 0), ((fun _ => tP), 0, 0), false)
set_option maxRecDepth 1000000 in
theorem e_runs : (s_law_e 2000 S00).isSome = true := by decide +kernel
