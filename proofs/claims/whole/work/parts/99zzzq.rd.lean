theorem zz_q : True := trivial
