theorem xx_last : True := trivial
