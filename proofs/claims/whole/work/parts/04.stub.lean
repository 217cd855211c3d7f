theorem xx_stub : True := trivial
