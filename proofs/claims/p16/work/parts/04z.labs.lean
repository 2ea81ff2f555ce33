
def labs (w : Int64) : Int64 := if (lg_cmp w 0).toInt < 0 then -w else w
