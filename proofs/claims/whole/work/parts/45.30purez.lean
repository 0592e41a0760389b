def f_X7_planz (f_use_size : Int32)   : Option (Int64) := (if f_use_size = 0 then some (-1) else none)
def f_X7_freez (f_freeCost : Int64) (f_freeKnown : Int32) (f_use_size : Int32)   : Option (Int64) := (if f_use_size = 0 then some (-1) else (if f_use_size ≤ 10 then (if f_freeKnown = 0 then none else some f_freeCost) else some (-1)))
