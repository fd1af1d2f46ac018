theorem x_x : True := trivial
