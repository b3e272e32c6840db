theorem ob_ok : ob_all RR := sorry
theorem st_ok : RR mu0 nu0 := sorry
