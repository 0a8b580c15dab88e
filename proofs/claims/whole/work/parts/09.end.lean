theorem nd_end : True := trivial
