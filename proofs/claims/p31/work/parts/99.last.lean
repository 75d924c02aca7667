/-- nothing yet -/
theorem zz_last : True := trivial
