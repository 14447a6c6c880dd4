theorem zz_o : True := trivial
