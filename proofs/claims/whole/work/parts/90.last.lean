theorem tt_0 : True := trivial
