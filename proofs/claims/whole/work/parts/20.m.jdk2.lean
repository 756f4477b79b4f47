theorem k_J0_length_8abf5 {G : qG} : CK G kJ0_length_8abf5 f_J0_length_8abf5 := sorry
theorem k_J0_charAt_5068e {G : qG} : CK G kJ0_charAt_5068e f_J0_charAt_5068e := sorry
