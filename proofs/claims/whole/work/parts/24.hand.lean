def rm_X9_work : Room := { frames := 50, cells := 10, slots := 200, locals := 1200 }
