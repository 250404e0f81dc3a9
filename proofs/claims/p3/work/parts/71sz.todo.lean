theorem zz_todo0 : True := trivial
