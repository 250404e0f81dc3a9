theorem zz_todo1 : True := trivial
