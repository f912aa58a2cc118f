theorem sa_zz : True := trivial
