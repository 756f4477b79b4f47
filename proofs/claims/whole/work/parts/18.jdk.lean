/-! String.length and String.charAt of String constants -/
def f_J0_length_8abf5 : Fn := fun args M => match args with
  | [.retAddr i] => if i < 40 then some (some (.int (Int32.ofNat (sY.getD i []).length)), M) else none
  | _ => none
def f_J0_charAt_5068e : Fn := fun args M => match args with
  | [.retAddr i, .int j] => if i < 40 ∧ inb j (sY.getD i []).length = true then some (some (.int ((sY.getD i []).getD j.toNatClampNeg 0)), M) else none
  | _ => none
