theorem zw_end : True := trivial
