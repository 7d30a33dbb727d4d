theorem lw_dummy : True := trivial
