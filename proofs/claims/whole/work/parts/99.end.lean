theorem xx_end : True := trivial
