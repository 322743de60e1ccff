theorem lk_end : True := trivial
