theorem zz_s : True := trivial
