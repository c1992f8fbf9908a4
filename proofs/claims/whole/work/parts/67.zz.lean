theorem zz67 : True := trivial
