theorem zz_p : True := trivial
