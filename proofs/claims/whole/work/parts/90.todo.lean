theorem todo_none : True := trivial
theorem ok_read : Ok (f_X10_read) (f_X11_read) := by
  sorry
