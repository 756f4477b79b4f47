def kX8_led : qK := (yX8_led, cX8_led, 5, some .int, 6, 100)
def kL_led : qK := (yL_led, cL_led, 4, some .int, 7, 130)
def f_L_led : Fn := fun _ _ => none
theorem k_L_led {G : qG} : CKW G kL_led [(0, 9, 12, 13)] f_L_led := sorry
