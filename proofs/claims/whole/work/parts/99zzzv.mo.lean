theorem zz_v : True := trivial
