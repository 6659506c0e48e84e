theorem zz_last_probe : True := trivial
