theorem zz_w : True := trivial
