theorem zz_y : True := trivial
