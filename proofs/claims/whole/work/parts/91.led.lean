theorem led_dummy : True := trivial
