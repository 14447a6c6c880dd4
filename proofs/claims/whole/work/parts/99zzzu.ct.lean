theorem zz_u : True := trivial
