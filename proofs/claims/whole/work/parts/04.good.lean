theorem zz_last0 : True := trivial
