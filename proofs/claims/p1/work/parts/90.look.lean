theorem look_0 : True := trivial
