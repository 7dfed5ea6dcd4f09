theorem qm_trivial : True := trivial
