theorem tmp_last : True := trivial
