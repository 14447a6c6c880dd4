theorem zz_n : True := trivial
