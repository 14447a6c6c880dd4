theorem zz_m : True := trivial
