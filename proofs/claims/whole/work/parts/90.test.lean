theorem zz : True := trivial
