theorem todo_none : True := trivial
theorem ok_road (x y : Int32) : Ok (f_X10_road x y) (f_X11_road x y) := by
  sorry
theorem ok_guard (x : Int32) (b : Int32) (hb : b = 0 ∨ b = 1) : Ok (f_X10_guard x b) (f_X11_guard x b) := by
  sorry
theorem ok_read : Ok (f_X10_read) (f_X11_read) := by
  sorry
theorem ok_moon (x : Int32) (b : Int32) (hb : b = 0 ∨ b = 1) : Ok (f_X10_moon x b) (f_X11_moon x b) := by
  sorry
theorem ok_greatest (x : Int32) : Ok (f_X10_greatest x) (f_X11_greatest x) := by
  sorry
theorem ok_least (x y z : Int32) : Ok (f_X10_least x y z) (f_X11_least x y z) := by
  sorry
theorem ok_chance (x : Int32) : Ok (f_X10_chance x) (f_X11_chance x) := by
  sorry
theorem ok_mean (x : Int32) : Ok (f_X10_mean x) (f_X11_mean x) := by
  sorry
theorem ok_painting (x y : Int32) : Ok (f_X10_painting x y) (f_X11_painting x y) := by
  sorry
theorem ok_unseen (x y : Int32) : Ok (f_X10_unseen x y) (f_X11_unseen x y) := by
  sorry
theorem ok_cut (x y z : Int32) : Ok (f_X10_cut x y z) (f_X11_cut x y z) := by
  sorry
theorem ok_game (x y z : Int32) : Ok (f_X10_game x y z) (f_X11_game x y z) := by
  sorry
theorem ok_league (x : Int32) : Ok (f_X10_league x) (f_X11_league x) := by
  sorry
theorem ok_share (x : Int32) : Ok (f_X10_share x) (f_X11_share x) := by
  sorry
theorem ok_pays (x y : Int32) : Ok (f_X10_pays x y) (f_X11_pays x y) := by
  sorry
theorem ok_fit (x y : Int32) : Ok (f_X10_fit x y) (f_X11_fit x y) := by
  sorry
theorem ok_drawn (x y : Int32) : Ok (f_X10_drawn x y) (f_X11_drawn x y) := by
  sorry
theorem ok_image (x : Int32) : Ok (f_X10_image x) (f_X11_image x) := by
  sorry
theorem ok_from (x : Int32) : Ok (f_X10_from x) (f_X11_from x) := by
  sorry
theorem ok_digest : ∀ μ, Rel μ → ∃ r, f_X10_digest μ = some r ∧ f_X11_digest μ = some r := by
  sorry
