def fX13_marginOf (h : vH) (x1 : Int) : Int := (if (h 2 310 x1 - 1) / 2 ≤ h 2 288 x1 then (h 2 310 x1 - 1) / 2 else h 2 288 x1)
