theorem zz_tmp : True := trivial
