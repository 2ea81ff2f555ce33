
abbrev ZZ := DD × List (Int32 × Int32)
