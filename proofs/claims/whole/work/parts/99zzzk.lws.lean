theorem zz_k : True := trivial
