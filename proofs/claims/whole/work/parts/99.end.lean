theorem sv_dummy : True := trivial
