theorem tc_end : True := trivial
