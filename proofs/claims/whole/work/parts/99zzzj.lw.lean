theorem zz_j : True := trivial
