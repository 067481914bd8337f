theorem pf_dummy : True := trivial
