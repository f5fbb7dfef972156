theorem xz_dummy : True := trivial
