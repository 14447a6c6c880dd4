theorem zz_r : True := trivial
