/-! ===== comparing longs ===== -/
theorem ar_cmp0 {x y : Int} : ((if x < y then (-1 : Int) else if x = y then 0 else 1) < 0) = (x < y) := by
  apply propext
  repeat' split
  all_goals omega
theorem ar_cmp1 {x y : Int} : (0 < (if x < y then (-1 : Int) else if x = y then 0 else 1)) = (y < x) := by
  apply propext
  repeat' split
  all_goals omega
