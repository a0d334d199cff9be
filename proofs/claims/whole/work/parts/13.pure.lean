theorem tk_dummy : True := trivial
