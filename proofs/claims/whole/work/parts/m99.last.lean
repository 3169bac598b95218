-- last part
theorem zz_last : True := trivial
