/-! EVERY CALL, BOTH SIDES -/
section
variable {A : Ab}
theorem tr_row (r w : Int32) : (rs_row (aTd A) (aPn A) r w).2 ≠ 4 ∧ (rs_row (aTd A) (aPn A) r w).2 ≤ 6 := by
  unfold rs_row
  (repeat' split) <;> first | exact ⟨show (0 : Nat) ≠ 4 by decide, show (0 : Nat) ≤ 6 by decide⟩ | exact ⟨show (1 : Nat) ≠ 4 by decide, show (1 : Nat) ≤ 6 by decide⟩ | exact ⟨show (2 : Nat) ≠ 4 by decide, show (2 : Nat) ≤ 6 by decide⟩ | exact ⟨show (3 : Nat) ≠ 4 by decide, show (3 : Nat) ≤ 6 by decide⟩ | exact ⟨show (5 : Nat) ≠ 4 by decide, show (5 : Nat) ≤ 6 by decide⟩ | exact ⟨show (6 : Nat) ≠ 4 by decide, show (6 : Nat) ≤ 6 by decide⟩
theorem sp_row (r w : Int32) : StI f_X8_row f_X10_row [.int r, .int w] A (setTr A (rs_row (aTd A) (aPn A) r w).2) (.int (rs_row (aTd A) (aPn A) r w).1) := sti_ro (fun M B P P2 L L2 ac h => c_row h r w) (fun M X C h => r_row h r w) (tr_row r w).1 (tr_row r w).2
theorem tr_next (r q : Int32) : (rs_next (aTd A) (aPn A) r q).2 ≠ 4 ∧ (rs_next (aTd A) (aPn A) r q).2 ≤ 6 := by
  unfold rs_next
  (repeat' split) <;> first | exact ⟨show (0 : Nat) ≠ 4 by decide, show (0 : Nat) ≤ 6 by decide⟩ | exact ⟨show (1 : Nat) ≠ 4 by decide, show (1 : Nat) ≤ 6 by decide⟩ | exact ⟨show (2 : Nat) ≠ 4 by decide, show (2 : Nat) ≤ 6 by decide⟩ | exact ⟨show (3 : Nat) ≠ 4 by decide, show (3 : Nat) ≤ 6 by decide⟩ | exact ⟨show (5 : Nat) ≠ 4 by decide, show (5 : Nat) ≤ 6 by decide⟩ | exact ⟨show (6 : Nat) ≠ 4 by decide, show (6 : Nat) ≤ 6 by decide⟩
theorem sp_next (r q : Int32) : StI f_X8_next f_X10_next [.int r, .int q] A (setTr A (rs_next (aTd A) (aPn A) r q).2) (.int (rs_next (aTd A) (aPn A) r q).1) := sti_ro (fun M B P P2 L L2 ac h => c_next h r q) (fun M X C h => r_next h r q) (tr_next r q).1 (tr_next r q).2
theorem tr_instead (r q : Int32) : (rs_instead (aTd A) (aPn A) r q).2 ≠ 4 ∧ (rs_instead (aTd A) (aPn A) r q).2 ≤ 6 := by
  unfold rs_instead
  (repeat' split) <;> first | exact ⟨show (0 : Nat) ≠ 4 by decide, show (0 : Nat) ≤ 6 by decide⟩ | exact ⟨show (1 : Nat) ≠ 4 by decide, show (1 : Nat) ≤ 6 by decide⟩ | exact ⟨show (2 : Nat) ≠ 4 by decide, show (2 : Nat) ≤ 6 by decide⟩ | exact ⟨show (3 : Nat) ≠ 4 by decide, show (3 : Nat) ≤ 6 by decide⟩ | exact ⟨show (5 : Nat) ≠ 4 by decide, show (5 : Nat) ≤ 6 by decide⟩ | exact ⟨show (6 : Nat) ≠ 4 by decide, show (6 : Nat) ≤ 6 by decide⟩
theorem sp_instead (r q : Int32) : StI f_X8_instead f_X10_instead [.int r, .int q] A (setTr A (rs_instead (aTd A) (aPn A) r q).2) (.int (rs_instead (aTd A) (aPn A) r q).1) := sti_ro (fun M B P P2 L L2 ac h => c_instead h r q) (fun M X C h => r_instead h r q) (tr_instead r q).1 (tr_instead r q).2
theorem tr_spare (r : Int32) : (rs_spare (aTd A) (aPn A) r).2 ≠ 4 ∧ (rs_spare (aTd A) (aPn A) r).2 ≤ 6 := by
  unfold rs_spare
  (repeat' split) <;> first | exact ⟨show (0 : Nat) ≠ 4 by decide, show (0 : Nat) ≤ 6 by decide⟩ | exact ⟨show (1 : Nat) ≠ 4 by decide, show (1 : Nat) ≤ 6 by decide⟩ | exact ⟨show (2 : Nat) ≠ 4 by decide, show (2 : Nat) ≤ 6 by decide⟩ | exact ⟨show (3 : Nat) ≠ 4 by decide, show (3 : Nat) ≤ 6 by decide⟩ | exact ⟨show (5 : Nat) ≠ 4 by decide, show (5 : Nat) ≤ 6 by decide⟩ | exact ⟨show (6 : Nat) ≠ 4 by decide, show (6 : Nat) ≤ 6 by decide⟩
theorem sp_spare (r : Int32) : StI f_X8_spare f_X10_spare [.int r] A (setTr A (rs_spare (aTd A) (aPn A) r).2) (.int (rs_spare (aTd A) (aPn A) r).1) := sti_ro (fun M B P P2 L L2 ac h => c_spare h r) (fun M X C h => r_spare h r) (tr_spare r).1 (tr_spare r).2
theorem tr_rows (s : Int32) : (rs_rows (aTd A) (aLm A) s).2 ≠ 4 ∧ (rs_rows (aTd A) (aLm A) s).2 ≤ 6 := by
  unfold rs_rows
  (repeat' split) <;> first | exact ⟨show (0 : Nat) ≠ 4 by decide, show (0 : Nat) ≤ 6 by decide⟩ | exact ⟨show (1 : Nat) ≠ 4 by decide, show (1 : Nat) ≤ 6 by decide⟩ | exact ⟨show (2 : Nat) ≠ 4 by decide, show (2 : Nat) ≤ 6 by decide⟩ | exact ⟨show (3 : Nat) ≠ 4 by decide, show (3 : Nat) ≤ 6 by decide⟩ | exact ⟨show (5 : Nat) ≠ 4 by decide, show (5 : Nat) ≤ 6 by decide⟩ | exact ⟨show (6 : Nat) ≠ 4 by decide, show (6 : Nat) ≤ 6 by decide⟩
theorem sp_rows (s : Int32) : StI f_X8_rows f_X10_rows [.int s] A (setTr A (rs_rows (aTd A) (aLm A) s).2) (.int (rs_rows (aTd A) (aLm A) s).1) := sti_ro (fun M B P P2 L L2 ac h => c_rows h s) (fun M X C h => r_rows h s) (tr_rows s).1 (tr_rows s).2
theorem tr_at (s i : Int32) : (rs_at (aTd A) (aLm A) s i).2 ≠ 4 ∧ (rs_at (aTd A) (aLm A) s i).2 ≤ 6 := by
  unfold rs_at
  (repeat' split) <;> first | exact ⟨show (0 : Nat) ≠ 4 by decide, show (0 : Nat) ≤ 6 by decide⟩ | exact ⟨show (1 : Nat) ≠ 4 by decide, show (1 : Nat) ≤ 6 by decide⟩ | exact ⟨show (2 : Nat) ≠ 4 by decide, show (2 : Nat) ≤ 6 by decide⟩ | exact ⟨show (3 : Nat) ≠ 4 by decide, show (3 : Nat) ≤ 6 by decide⟩ | exact ⟨show (5 : Nat) ≠ 4 by decide, show (5 : Nat) ≤ 6 by decide⟩ | exact ⟨show (6 : Nat) ≠ 4 by decide, show (6 : Nat) ≤ 6 by decide⟩
theorem sp_at (s i : Int32) : StI f_X8_at f_X10_at [.int s, .int i] A (setTr A (rs_at (aTd A) (aLm A) s i).2) (.int (rs_at (aTd A) (aLm A) s i).1) := sti_ro (fun M B P P2 L L2 ac h => c_at h s i) (fun M X C h => r_at h s i) (tr_at s i).1 (tr_at s i).2
theorem tr_colour (s c w : Int32) : (rs_colour (aTd A) (aPn A) (aLm A) s c w).2 ≠ 4 ∧ (rs_colour (aTd A) (aPn A) (aLm A) s c w).2 ≤ 6 := by
  unfold rs_colour
  (repeat' split) <;> first | exact ⟨show (0 : Nat) ≠ 4 by decide, show (0 : Nat) ≤ 6 by decide⟩ | exact ⟨show (1 : Nat) ≠ 4 by decide, show (1 : Nat) ≤ 6 by decide⟩ | exact ⟨show (2 : Nat) ≠ 4 by decide, show (2 : Nat) ≤ 6 by decide⟩ | exact ⟨show (3 : Nat) ≠ 4 by decide, show (3 : Nat) ≤ 6 by decide⟩ | exact ⟨show (5 : Nat) ≠ 4 by decide, show (5 : Nat) ≤ 6 by decide⟩ | exact ⟨show (6 : Nat) ≠ 4 by decide, show (6 : Nat) ≤ 6 by decide⟩
theorem sp_colour (s c w : Int32) : StI f_X8_colour f_X10_colour [.int s, .int c, .int w] A (setTr A (rs_colour (aTd A) (aPn A) (aLm A) s c w).2) (.int (rs_colour (aTd A) (aPn A) (aLm A) s c w).1) := sti_ro (fun M B P P2 L L2 ac h => c_colour h s c w) (fun M X C h => r_colour h s c w) (tr_colour s c w).1 (tr_colour s c w).2
theorem tr_units : (rs_units (aTd A) (aPn A) (aLm A) ).2 ≠ 4 ∧ (rs_units (aTd A) (aPn A) (aLm A) ).2 ≤ 6 := by
  unfold rs_units
  (repeat' split) <;> first | exact ⟨show (0 : Nat) ≠ 4 by decide, show (0 : Nat) ≤ 6 by decide⟩ | exact ⟨show (1 : Nat) ≠ 4 by decide, show (1 : Nat) ≤ 6 by decide⟩ | exact ⟨show (2 : Nat) ≠ 4 by decide, show (2 : Nat) ≤ 6 by decide⟩ | exact ⟨show (3 : Nat) ≠ 4 by decide, show (3 : Nat) ≤ 6 by decide⟩ | exact ⟨show (5 : Nat) ≠ 4 by decide, show (5 : Nat) ≤ 6 by decide⟩ | exact ⟨show (6 : Nat) ≠ 4 by decide, show (6 : Nat) ≤ 6 by decide⟩
theorem sp_units : StI f_X8_units f_X10_units [] A (setTr A (rs_units (aTd A) (aPn A) (aLm A) ).2) (.int (rs_units (aTd A) (aPn A) (aLm A) ).1) := sti_ro (fun M B P P2 L L2 ac h => c_units h ) (fun M X C h => r_units h ) (tr_units ).1 (tr_units ).2
theorem tr_may (s : Int32) : (rs_may (aTd A) (aPn A) (aLm A) s).2 ≠ 4 ∧ (rs_may (aTd A) (aPn A) (aLm A) s).2 ≤ 6 := by
  unfold rs_may
  (repeat' split) <;> first | exact ⟨show (0 : Nat) ≠ 4 by decide, show (0 : Nat) ≤ 6 by decide⟩ | exact ⟨show (1 : Nat) ≠ 4 by decide, show (1 : Nat) ≤ 6 by decide⟩ | exact ⟨show (2 : Nat) ≠ 4 by decide, show (2 : Nat) ≤ 6 by decide⟩ | exact ⟨show (3 : Nat) ≠ 4 by decide, show (3 : Nat) ≤ 6 by decide⟩ | exact ⟨show (5 : Nat) ≠ 4 by decide, show (5 : Nat) ≤ 6 by decide⟩ | exact ⟨show (6 : Nat) ≠ 4 by decide, show (6 : Nat) ≤ 6 by decide⟩
theorem sp_may (s : Int32) : StI f_X8_may f_X10_may [.int s] A (setTr A (rs_may (aTd A) (aPn A) (aLm A) s).2) (.int (rs_may (aTd A) (aPn A) (aLm A) s).1) := sti_ro (fun M B P P2 L L2 ac h => c_may h s) (fun M X C h => r_may h s) (tr_may s).1 (tr_may s).2
theorem tr_meets : (rs_meets (aTd A) (aPn A) (aLm A) ).2 ≠ 4 ∧ (rs_meets (aTd A) (aPn A) (aLm A) ).2 ≤ 6 := by
  unfold rs_meets
  (repeat' split) <;> first | exact ⟨show (0 : Nat) ≠ 4 by decide, show (0 : Nat) ≤ 6 by decide⟩ | exact ⟨show (1 : Nat) ≠ 4 by decide, show (1 : Nat) ≤ 6 by decide⟩ | exact ⟨show (2 : Nat) ≠ 4 by decide, show (2 : Nat) ≤ 6 by decide⟩ | exact ⟨show (3 : Nat) ≠ 4 by decide, show (3 : Nat) ≤ 6 by decide⟩ | exact ⟨show (5 : Nat) ≠ 4 by decide, show (5 : Nat) ≤ 6 by decide⟩ | exact ⟨show (6 : Nat) ≠ 4 by decide, show (6 : Nat) ≤ 6 by decide⟩
theorem sp_meets : StI f_X8_meets f_X10_meets [] A (setTr A (rs_meets (aTd A) (aPn A) (aLm A) ).2) (.int (rs_meets (aTd A) (aPn A) (aLm A) ).1) := sti_ro (fun M B P P2 L L2 ac h => c_meets h ) (fun M X C h => r_meets h ) (tr_meets ).1 (tr_meets ).2
theorem tr_third : (rs_third (aTd A) (aPn A) (aLm A) ).2 ≠ 4 ∧ (rs_third (aTd A) (aPn A) (aLm A) ).2 ≤ 6 := by
  unfold rs_third
  (repeat' split) <;> first | exact ⟨show (0 : Nat) ≠ 4 by decide, show (0 : Nat) ≤ 6 by decide⟩ | exact ⟨show (1 : Nat) ≠ 4 by decide, show (1 : Nat) ≤ 6 by decide⟩ | exact ⟨show (2 : Nat) ≠ 4 by decide, show (2 : Nat) ≤ 6 by decide⟩ | exact ⟨show (3 : Nat) ≠ 4 by decide, show (3 : Nat) ≤ 6 by decide⟩ | exact ⟨show (5 : Nat) ≠ 4 by decide, show (5 : Nat) ≤ 6 by decide⟩ | exact ⟨show (6 : Nat) ≠ 4 by decide, show (6 : Nat) ≤ 6 by decide⟩
theorem sp_third : StI f_X8_third f_X10_third [] A (setTr A (rs_third (aTd A) (aPn A) (aLm A) ).2) (.int (rs_third (aTd A) (aPn A) (aLm A) ).1) := sti_ro (fun M B P P2 L L2 ac h => c_third h ) (fun M X C h => r_third h ) (tr_third ).1 (tr_third ).2
theorem tr_answered (i : Int32) : (rs_answered (aTd A) (aPn A) (aLm A) i).2 ≠ 4 ∧ (rs_answered (aTd A) (aPn A) (aLm A) i).2 ≤ 6 := by
  unfold rs_answered
  (repeat' split) <;> first | exact ⟨show (0 : Nat) ≠ 4 by decide, show (0 : Nat) ≤ 6 by decide⟩ | exact ⟨show (1 : Nat) ≠ 4 by decide, show (1 : Nat) ≤ 6 by decide⟩ | exact ⟨show (2 : Nat) ≠ 4 by decide, show (2 : Nat) ≤ 6 by decide⟩ | exact ⟨show (3 : Nat) ≠ 4 by decide, show (3 : Nat) ≤ 6 by decide⟩ | exact ⟨show (5 : Nat) ≠ 4 by decide, show (5 : Nat) ≤ 6 by decide⟩ | exact ⟨show (6 : Nat) ≠ 4 by decide, show (6 : Nat) ≤ 6 by decide⟩
theorem sp_answered (i : Int32) : StI f_X8_answered f_X10_answered [.int i] A (setTr A (rs_answered (aTd A) (aPn A) (aLm A) i).2) (.int (rs_answered (aTd A) (aPn A) (aLm A) i).1) := sti_ro (fun M B P P2 L L2 ac h => c_answered h i) (fun M X C h => r_answered h i) (tr_answered i).1 (tr_answered i).2
theorem tr_wrongs : (rs_wrongs (aTd A) (aPn A) (aLm A) ).2 ≠ 4 ∧ (rs_wrongs (aTd A) (aPn A) (aLm A) ).2 ≤ 6 := by
  unfold rs_wrongs
  (repeat' split) <;> first | exact ⟨show (0 : Nat) ≠ 4 by decide, show (0 : Nat) ≤ 6 by decide⟩ | exact ⟨show (1 : Nat) ≠ 4 by decide, show (1 : Nat) ≤ 6 by decide⟩ | exact ⟨show (2 : Nat) ≠ 4 by decide, show (2 : Nat) ≤ 6 by decide⟩ | exact ⟨show (3 : Nat) ≠ 4 by decide, show (3 : Nat) ≤ 6 by decide⟩ | exact ⟨show (5 : Nat) ≠ 4 by decide, show (5 : Nat) ≤ 6 by decide⟩ | exact ⟨show (6 : Nat) ≠ 4 by decide, show (6 : Nat) ≤ 6 by decide⟩
theorem sp_wrongs : StI f_X8_wrongs f_X10_wrongs [] A (setTr A (rs_wrongs (aTd A) (aPn A) (aLm A) ).2) (.int (rs_wrongs (aTd A) (aPn A) (aLm A) ).1) := sti_ro (fun M B P P2 L L2 ac h => c_wrongs h ) (fun M X C h => r_wrongs h ) (tr_wrongs ).1 (tr_wrongs ).2
theorem tr_mend : (rs_mend (aTd A) (aPn A) (aLm A) ).2 ≠ 4 ∧ (rs_mend (aTd A) (aPn A) (aLm A) ).2 ≤ 6 := by
  unfold rs_mend
  (repeat' split) <;> first | exact ⟨show (0 : Nat) ≠ 4 by decide, show (0 : Nat) ≤ 6 by decide⟩ | exact ⟨show (1 : Nat) ≠ 4 by decide, show (1 : Nat) ≤ 6 by decide⟩ | exact ⟨show (2 : Nat) ≠ 4 by decide, show (2 : Nat) ≤ 6 by decide⟩ | exact ⟨show (3 : Nat) ≠ 4 by decide, show (3 : Nat) ≤ 6 by decide⟩ | exact ⟨show (5 : Nat) ≠ 4 by decide, show (5 : Nat) ≤ 6 by decide⟩ | exact ⟨show (6 : Nat) ≠ 4 by decide, show (6 : Nat) ≤ 6 by decide⟩
theorem sp_mend : StI f_X8_mend f_X10_mend [] A (setTr A (rs_mend (aTd A) (aPn A) (aLm A) ).2) (.int (rs_mend (aTd A) (aPn A) (aLm A) ).1) := sti_ro (fun M B P P2 L L2 ac h => c_mend h ) (fun M X C h => r_mend h ) (tr_mend ).1 (tr_mend ).2
theorem tr_mendBy : (rs_mendBy (aTd A) (aPn A) (aLm A) ).2 ≠ 4 ∧ (rs_mendBy (aTd A) (aPn A) (aLm A) ).2 ≤ 6 := by
  unfold rs_mendBy
  (repeat' split) <;> first | exact ⟨show (0 : Nat) ≠ 4 by decide, show (0 : Nat) ≤ 6 by decide⟩ | exact ⟨show (1 : Nat) ≠ 4 by decide, show (1 : Nat) ≤ 6 by decide⟩ | exact ⟨show (2 : Nat) ≠ 4 by decide, show (2 : Nat) ≤ 6 by decide⟩ | exact ⟨show (3 : Nat) ≠ 4 by decide, show (3 : Nat) ≤ 6 by decide⟩ | exact ⟨show (5 : Nat) ≠ 4 by decide, show (5 : Nat) ≤ 6 by decide⟩ | exact ⟨show (6 : Nat) ≠ 4 by decide, show (6 : Nat) ≤ 6 by decide⟩
theorem sp_mendBy : StI f_X8_mendBy f_X10_mendBy [] A (setTr A (rs_mendBy (aTd A) (aPn A) (aLm A) ).2) (.int (rs_mendBy (aTd A) (aPn A) (aLm A) ).1) := sti_ro (fun M B P P2 L L2 ac h => c_mendBy h ) (fun M X C h => r_mendBy h ) (tr_mendBy ).1 (tr_mendBy ).2
theorem tr_seen (m s : Int32) : (rs_seen (aTd A) (aPn A) (aLm A) m s).2 ≠ 4 ∧ (rs_seen (aTd A) (aPn A) (aLm A) m s).2 ≤ 6 := by
  unfold rs_seen
  (repeat' split) <;> first | exact ⟨show (0 : Nat) ≠ 4 by decide, show (0 : Nat) ≤ 6 by decide⟩ | exact ⟨show (1 : Nat) ≠ 4 by decide, show (1 : Nat) ≤ 6 by decide⟩ | exact ⟨show (2 : Nat) ≠ 4 by decide, show (2 : Nat) ≤ 6 by decide⟩ | exact ⟨show (3 : Nat) ≠ 4 by decide, show (3 : Nat) ≤ 6 by decide⟩ | exact ⟨show (5 : Nat) ≠ 4 by decide, show (5 : Nat) ≤ 6 by decide⟩ | exact ⟨show (6 : Nat) ≠ 4 by decide, show (6 : Nat) ≤ 6 by decide⟩
theorem sp_seen (m s : Int32) : StI f_X8_seen f_X10_seen [.int m, .int s] A (setTr A (rs_seen (aTd A) (aPn A) (aLm A) m s).2) (.int (rs_seen (aTd A) (aPn A) (aLm A) m s).1) := sti_ro (fun M B P P2 L L2 ac h => c_seen h m s) (fun M X C h => r_seen h m s) (tr_seen m s).1 (tr_seen m s).2
theorem tr_seenAt (m s : Int32) : (rs_seenAt (aTd A) (aPn A) (aLm A) m s).2 ≠ 4 ∧ (rs_seenAt (aTd A) (aPn A) (aLm A) m s).2 ≤ 6 := by
  unfold rs_seenAt
  (repeat' split) <;> first | exact ⟨show (0 : Nat) ≠ 4 by decide, show (0 : Nat) ≤ 6 by decide⟩ | exact ⟨show (1 : Nat) ≠ 4 by decide, show (1 : Nat) ≤ 6 by decide⟩ | exact ⟨show (2 : Nat) ≠ 4 by decide, show (2 : Nat) ≤ 6 by decide⟩ | exact ⟨show (3 : Nat) ≠ 4 by decide, show (3 : Nat) ≤ 6 by decide⟩ | exact ⟨show (5 : Nat) ≠ 4 by decide, show (5 : Nat) ≤ 6 by decide⟩ | exact ⟨show (6 : Nat) ≠ 4 by decide, show (6 : Nat) ≤ 6 by decide⟩
theorem sp_seenAt (m s : Int32) : StI f_X8_seenAt f_X10_seenAt [.int m, .int s] A (setTr A (rs_seenAt (aTd A) (aPn A) (aLm A) m s).2) (.int (rs_seenAt (aTd A) (aPn A) (aLm A) m s).1) := sti_ro (fun M B P P2 L L2 ac h => c_seenAt h m s) (fun M X C h => r_seenAt h m s) (tr_seenAt m s).1 (tr_seenAt m s).2
theorem sp_fault : StI f_X8_fault f_X10_fault [] A A (.int (n32 (aFt A))) := sti_no (fun M B P P2 L L2 ac h => c_fault h ) (fun M X C h => r_fault h )
theorem sp_where : StI f_X8_where f_X10_where [] A A (.int (rs_where A)) := sti_no (fun M B P P2 L L2 ac h => c_where h ) (fun M X C h => r_where h )
theorem sp_size (w : Int32) : StI f_X8_size f_X10_size [.int w] A A (.int (rs_size A w)) := sti_no (fun M B P P2 L L2 ac h => c_size h w) (fun M X C h => r_size h w)
theorem sp_trouble : StI f_X8_trouble f_X10_trouble [] A A (.int (n32 (aTr A))) := sti_no (fun M B P P2 L L2 ac h => c_trouble h ) (fun M X C h => r_trouble h )
theorem kp_weave (s r : Int32) : aTd (wv A s r).1 = aTd A ∧ aTl (wv A s r).1 = aTl A ∧ aTp (wv A s r).1 = aTp A := by unfold wv; (repeat' split) <;> exact ⟨rfl, rfl, rfl⟩
theorem sp_weave (s r : Int32) : StI f_X8_weave f_X10_weave [.int s, .int r] A (wv A s r).1 (.int (b2i (wv A s r).2)) := sti_cr (fun M B P P2 L L2 ac h => c_weave h s r) (fun M X C h => r_weave h s r) (kp_weave s r)
theorem kp_rip (s : Int32) : aTd (ripA A s).1 = aTd A ∧ aTl (ripA A s).1 = aTl A ∧ aTp (ripA A s).1 = aTp A := by unfold ripA; (repeat' split) <;> exact ⟨rfl, rfl, rfl⟩
theorem sp_rip (s : Int32) : StI f_X8_rip f_X10_rip [.int s] A (ripA A s).1 (.int (b2i (ripA A s).2)) := sti_cr (fun M B P P2 L L2 ac h => c_rip h s) (fun M X C h => r_rip h s) (kp_rip s)
theorem kp_undo : aTd (undoA A).1 = aTd A ∧ aTl (undoA A).1 = aTl A ∧ aTp (undoA A).1 = aTp A := by unfold undoA; (repeat' split) <;> exact ⟨rfl, rfl, rfl⟩
theorem sp_undo : StI f_X8_undo f_X10_undo [] A (undoA A).1 (.int (b2i (undoA A).2)) := sti_cr (fun M B P P2 L L2 ac h => c_undo h ) (fun M X C h => r_undo h ) (kp_undo )
theorem kp_mark : aTd (markA A).1 = aTd A ∧ aTl (markA A).1 = aTl A ∧ aTp (markA A).1 = aTp A := by unfold markA; (repeat' split) <;> exact ⟨rfl, rfl, rfl⟩
theorem sp_mark : StI f_X8_mark f_X10_mark [] A (markA A).1 (.int (markA A).2) := sti_cr (fun M B P P2 L L2 ac h => c_mark h ) (fun M X C h => r_mark h ) (kp_mark )
theorem kp_back (m : Int32) : aTd (backA A m).1 = aTd A ∧ aTl (backA A m).1 = aTl A ∧ aTp (backA A m).1 = aTp A := by unfold backA; (repeat' split) <;> exact ⟨rfl, rfl, rfl⟩
theorem sp_back (m : Int32) : StI f_X8_back f_X10_back [.int m] A (backA A m).1 (.int (b2i (backA A m).2)) := sti_cr (fun M B P P2 L L2 ac h => c_back h m) (fun M X C h => r_back h m) (kp_back m)
theorem kp_weeks (n : Int32) : aTd (weeksA A n).1 = aTd A ∧ aTl (weeksA A n).1 = aTl A ∧ aTp (weeksA A n).1 = aTp A := by unfold weeksA; (repeat' split) <;> exact ⟨rfl, rfl, rfl⟩
theorem sp_weeks (n : Int32) : StI f_X8_weeks f_X10_weeks [.int n] A (weeksA A n).1 (.int (weeksA A n).2) := sti_cb (fun M B P P2 L L2 ac h b => c_weeks h b n) (fun M X C h => r_weeks h n) (kp_weeks n)
theorem sp_meeting (w : Int32) : StI f_X8_meeting f_X10_meeting [.int w] A (setTr A (meetingR (aTd A) (aPn A) (aLm A) w).2) (.int (meetingR (aTd A) (aPn A) (aLm A) w).1) := sti_cb (fun M B P P2 L L2 ac h b => c_meeting h b w) (fun M X C h => r_meeting h w) ⟨rfl, rfl, rfl⟩
theorem sp_woven (w : Int32) : StI f_X8_woven f_X10_woven [.int w] A (setTr A (wovenR (aTd A) (aPn A) (aLm A) w).2) (.int (wovenR (aTd A) (aPn A) (aLm A) w).1) := sti_cb (fun M B P P2 L L2 ac h b => c_woven h b w) (fun M X C h => r_woven h w) ⟨rfl, rfl, rfl⟩
theorem sp_takes (s c : Int32) : StI f_X8_takes f_X10_takes [.int s, .int c] A (setTr A (takesR (aTd A) (aPn A) (aLm A) s c).2) (.int (takesR (aTd A) (aPn A) (aLm A) s c).1) := sti_cb (fun M B P P2 L L2 ac h b => c_takes h b s c) (fun M X C h => r_takes h s c) ⟨rfl, rfl, rfl⟩
theorem sp_far (s : Int32) : StI f_X8_far f_X10_far [.int s] A (setTr A (farR (aTd A) (aPn A) (aLm A) s).2) (.int (farR (aTd A) (aPn A) (aLm A) s).1) := sti_cr (fun M B P P2 L L2 ac h => c_far h s) (fun M X C h => r_far h s) ⟨rfl, rfl, rfl⟩
theorem sp_ways : StI f_X8_ways f_X10_ways [] A (setTr A (waysR (aTd A) (aPn A) (aLm A) ).2) (.long (waysR (aTd A) (aPn A) (aLm A) ).1) := sti_cr (fun M B P P2 L L2 ac h => c_ways h ) (fun M X C h => r_ways h ) ⟨rfl, rfl, rfl⟩
theorem sp_sure (s r : Int32) : StI f_X8_sure f_X10_sure [.int s, .int r] A (setTr A (sureR (aTd A) (aPn A) (aLm A) s r).2) (.int (sureR (aTd A) (aPn A) (aLm A) s r).1) := sti_cr (fun M B P P2 L L2 ac h => c_sure h s r) (fun M X C h => r_sure h s r) ⟨rfl, rfl, rfl⟩
theorem sp_sureRows (s : Int32) : StI f_X8_sureRows f_X10_sureRows [.int s] A (setTr A (sureRs (aTd A) (aPn A) (aLm A) s).2) (.int (sureRs (aTd A) (aPn A) (aLm A) s).1) := sti_cr (fun M B P P2 L L2 ac h => c_sureRows h s) (fun M X C h => r_sureRows h s) ⟨rfl, rfl, rfl⟩
theorem sp_orders : StI f_X8_orders f_X10_orders [] A (setTr A (ordR (aTd A) (aPn A) (aLm A) ).2) (.long (ordR (aTd A) (aPn A) (aLm A) ).1) := sti_cr (fun M B P P2 L L2 ac h => c_orders h ) (fun M X C h => r_orders h ) ⟨rfl, rfl, rfl⟩
theorem sp_ahead (l r : Int32) : StI f_X8_ahead f_X10_ahead [.int l, .int r] A (setTr A (ahdR (aTd A) (aPn A) (aLm A) l r).2) (.long (ahdR (aTd A) (aPn A) (aLm A) l r).1) := sti_cr (fun M B P P2 L L2 ac h => c_ahead h l r) (fun M X C h => r_ahead h l r) ⟨rfl, rfl, rfl⟩
theorem sp_feed (a b c d e : Int32) : StI f_X8_feed f_X10_feed [.int a, .int b, .int c, .int d, .int e] A (feedA A a b c d e).1 (.int (feedA A a b c d e).2) := by
  refine sti (fun M B P P2 L L2 ac h bk => ?_) (fun M X C h h9 => r_feed h h9 a b c d e) (fun z => ?_) (fun hb h9 i hi => ?_)
  · obtain ⟨M1, e1, g⟩ := c_feed h a b c d e
    exact ⟨M1, P, P2, L, L2, e1, g.crb bk⟩
  · unfold feedA at z
    split at z
    · exact z
    · exact z
  · unfold feedA at hi ⊢
    split at hi
    · rename_i g; rw [if_pos g]; exact hb i hi
    · rename_i g
      rw [if_neg g]
      show isBy (fe20 (aTp A) (aTl A) a b c d e i)
      unfold fe20
      split
      · rename_i g2; exact hb i g2
      · exact isBy_nar _
theorem sp_cloth (n : Int32) : StI f_X8_cloth f_X10_cloth [.int n] A (clothA A n).1 (.int (clothA A n).2) := by
  rintro M B ⟨⟨P, P2, L, L2, ac, hc⟩, hb, ⟨C, hm, hC⟩, hby, hn, ht⟩
  obtain ⟨M1, Q, Q2, J, J2, e1, ⟨ac1, c1⟩, o1, b1⟩ := c_cloth hc hb n
  have m1 := hm.out o1
  have n1 : mN M1 = mN M := by show M1.1.1 = M.1.1; rw [o1.1]
  have u1 : mU M1 = mU M := by show M1.1.2 = M.1.2; rw [o1.1]
  obtain ⟨M2, C', e2, m2, hC2, g⟩ := r_cloth m1 hc.V.tl9 hby (by omega) (fun z => by have := hC z; omega) n
  have a1 := g.n1
  have a2 := g.n2
  have a3 := g.u1
  have a4 := g.u2
  refine ⟨hc.T.t, M1, M2, e1, m1.T.t, e2, ⟨⟨Q, Q2, J, J2, ac1, c1.gx g (by omega)⟩, b1.bk (fun a h1 h2 => funext fun j => g.ki a (by omega) (by omega) j), ⟨C', m2, hC2⟩, fun i hi => ?_, by omega, ?_⟩, by omega, by omega, by omega, by omega⟩
  · cases ek : inO true (aTl A + 1) n with
    | none =>
      rw [clothA_n ek] at hi ⊢
      exact hby i hi
    | some k =>
      cases er : pRead (aTp A) k with
      | inl x =>
        rw [clothA_l ek er] at hi
        exact absurd hi (Nat.not_lt_zero _)
      | inr rd =>
        rw [clothA_r ek er] at hi
        exact absurd hi (Nat.not_lt_zero _)
  · rw [g.kt _ (by omega), (o1.2 (B + 153) (by omega)).1]; exact ht
end
