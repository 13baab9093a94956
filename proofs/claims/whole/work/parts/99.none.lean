theorem zz_none : True := trivial
