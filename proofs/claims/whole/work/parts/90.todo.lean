theorem todo_none : True := trivial
