/-! EVERY CALL, BOTH SIDES -/
section
variable {A : Ab}
theorem tr_row (r w : Int32) : (rs_row (aTd A) (aPn A) r w).2 ≠ 4 ∧ (rs_row (aTd A) (aPn A) r w).2 ≤ 6 := by
  unfold rs_row
  (repeat' split) <;> exact ⟨by decide, by decide⟩
theorem st_row (r w : Int32) : StI f_X8_row f_X10_row [.int r, .int w] A (setTr A (rs_row (aTd A) (aPn A) r w).2) (.int (rs_row (aTd A) (aPn A) r w).1) := sti_ro (fun M B P P2 L L2 ac h => c_row h r w) (fun M X C h => r_row h r w) (tr_row r w).1 (tr_row r w).2
theorem tr_next (r q : Int32) : (rs_next (aTd A) (aPn A) r q).2 ≠ 4 ∧ (rs_next (aTd A) (aPn A) r q).2 ≤ 6 := by
  unfold rs_next
  (repeat' split) <;> exact ⟨by decide, by decide⟩
theorem st_next (r q : Int32) : StI f_X8_next f_X10_next [.int r, .int q] A (setTr A (rs_next (aTd A) (aPn A) r q).2) (.int (rs_next (aTd A) (aPn A) r q).1) := sti_ro (fun M B P P2 L L2 ac h => c_next h r q) (fun M X C h => r_next h r q) (tr_next r q).1 (tr_next r q).2
theorem tr_instead (r q : Int32) : (rs_instead (aTd A) (aPn A) r q).2 ≠ 4 ∧ (rs_instead (aTd A) (aPn A) r q).2 ≤ 6 := by
  unfold rs_instead
  (repeat' split) <;> exact ⟨by decide, by decide⟩
theorem st_instead (r q : Int32) : StI f_X8_instead f_X10_instead [.int r, .int q] A (setTr A (rs_instead (aTd A) (aPn A) r q).2) (.int (rs_instead (aTd A) (aPn A) r q).1) := sti_ro (fun M B P P2 L L2 ac h => c_instead h r q) (fun M X C h => r_instead h r q) (tr_instead r q).1 (tr_instead r q).2
theorem tr_spare (r : Int32) : (rs_spare (aTd A) (aPn A) r).2 ≠ 4 ∧ (rs_spare (aTd A) (aPn A) r).2 ≤ 6 := by
  unfold rs_spare
  (repeat' split) <;> exact ⟨by decide, by decide⟩
theorem st_spare (r : Int32) : StI f_X8_spare f_X10_spare [.int r] A (setTr A (rs_spare (aTd A) (aPn A) r).2) (.int (rs_spare (aTd A) (aPn A) r).1) := sti_ro (fun M B P P2 L L2 ac h => c_spare h r) (fun M X C h => r_spare h r) (tr_spare r).1 (tr_spare r).2
theorem tr_rows (s : Int32) : (rs_rows (aTd A) (aLm A) s).2 ≠ 4 ∧ (rs_rows (aTd A) (aLm A) s).2 ≤ 6 := by
  unfold rs_rows
  (repeat' split) <;> exact ⟨by decide, by decide⟩
theorem st_rows (s : Int32) : StI f_X8_rows f_X10_rows [.int s] A (setTr A (rs_rows (aTd A) (aLm A) s).2) (.int (rs_rows (aTd A) (aLm A) s).1) := sti_ro (fun M B P P2 L L2 ac h => c_rows h s) (fun M X C h => r_rows h s) (tr_rows s).1 (tr_rows s).2
theorem tr_at (s i : Int32) : (rs_at (aTd A) (aLm A) s i).2 ≠ 4 ∧ (rs_at (aTd A) (aLm A) s i).2 ≤ 6 := by
  unfold rs_at
  (repeat' split) <;> exact ⟨by decide, by decide⟩
theorem st_at (s i : Int32) : StI f_X8_at f_X10_at [.int s, .int i] A (setTr A (rs_at (aTd A) (aLm A) s i).2) (.int (rs_at (aTd A) (aLm A) s i).1) := sti_ro (fun M B P P2 L L2 ac h => c_at h s i) (fun M X C h => r_at h s i) (tr_at s i).1 (tr_at s i).2
theorem tr_colour (s c w : Int32) : (rs_colour (aTd A) (aPn A) (aLm A) s c w).2 ≠ 4 ∧ (rs_colour (aTd A) (aPn A) (aLm A) s c w).2 ≤ 6 := by
  unfold rs_colour
  (repeat' split) <;> exact ⟨by decide, by decide⟩
theorem st_colour (s c w : Int32) : StI f_X8_colour f_X10_colour [.int s, .int c, .int w] A (setTr A (rs_colour (aTd A) (aPn A) (aLm A) s c w).2) (.int (rs_colour (aTd A) (aPn A) (aLm A) s c w).1) := sti_ro (fun M B P P2 L L2 ac h => c_colour h s c w) (fun M X C h => r_colour h s c w) (tr_colour s c w).1 (tr_colour s c w).2
theorem tr_units : (rs_units (aTd A) (aPn A) (aLm A) ).2 ≠ 4 ∧ (rs_units (aTd A) (aPn A) (aLm A) ).2 ≤ 6 := by
  unfold rs_units
  (repeat' split) <;> exact ⟨by decide, by decide⟩
theorem st_units : StI f_X8_units f_X10_units [] A (setTr A (rs_units (aTd A) (aPn A) (aLm A) ).2) (.int (rs_units (aTd A) (aPn A) (aLm A) ).1) := sti_ro (fun M B P P2 L L2 ac h => c_units h ) (fun M X C h => r_units h ) (tr_units ).1 (tr_units ).2
theorem tr_may (s : Int32) : (rs_may (aTd A) (aPn A) (aLm A) s).2 ≠ 4 ∧ (rs_may (aTd A) (aPn A) (aLm A) s).2 ≤ 6 := by
  unfold rs_may
  (repeat' split) <;> exact ⟨by decide, by decide⟩
theorem st_may (s : Int32) : StI f_X8_may f_X10_may [.int s] A (setTr A (rs_may (aTd A) (aPn A) (aLm A) s).2) (.int (rs_may (aTd A) (aPn A) (aLm A) s).1) := sti_ro (fun M B P P2 L L2 ac h => c_may h s) (fun M X C h => r_may h s) (tr_may s).1 (tr_may s).2
theorem tr_meets : (rs_meets (aTd A) (aPn A) (aLm A) ).2 ≠ 4 ∧ (rs_meets (aTd A) (aPn A) (aLm A) ).2 ≤ 6 := by
  unfold rs_meets
  (repeat' split) <;> exact ⟨by decide, by decide⟩
theorem st_meets : StI f_X8_meets f_X10_meets [] A (setTr A (rs_meets (aTd A) (aPn A) (aLm A) ).2) (.int (rs_meets (aTd A) (aPn A) (aLm A) ).1) := sti_ro (fun M B P P2 L L2 ac h => c_meets h ) (fun M X C h => r_meets h ) (tr_meets ).1 (tr_meets ).2
theorem tr_third : (rs_third (aTd A) (aPn A) (aLm A) ).2 ≠ 4 ∧ (rs_third (aTd A) (aPn A) (aLm A) ).2 ≤ 6 := by
  unfold rs_third
  (repeat' split) <;> exact ⟨by decide, by decide⟩
theorem st_third : StI f_X8_third f_X10_third [] A (setTr A (rs_third (aTd A) (aPn A) (aLm A) ).2) (.int (rs_third (aTd A) (aPn A) (aLm A) ).1) := sti_ro (fun M B P P2 L L2 ac h => c_third h ) (fun M X C h => r_third h ) (tr_third ).1 (tr_third ).2
theorem tr_answered (i : Int32) : (rs_answered (aTd A) (aPn A) (aLm A) i).2 ≠ 4 ∧ (rs_answered (aTd A) (aPn A) (aLm A) i).2 ≤ 6 := by
  unfold rs_answered
  (repeat' split) <;> exact ⟨by decide, by decide⟩
theorem st_answered (i : Int32) : StI f_X8_answered f_X10_answered [.int i] A (setTr A (rs_answered (aTd A) (aPn A) (aLm A) i).2) (.int (rs_answered (aTd A) (aPn A) (aLm A) i).1) := sti_ro (fun M B P P2 L L2 ac h => c_answered h i) (fun M X C h => r_answered h i) (tr_answered i).1 (tr_answered i).2
theorem tr_wrongs : (rs_wrongs (aTd A) (aPn A) (aLm A) ).2 ≠ 4 ∧ (rs_wrongs (aTd A) (aPn A) (aLm A) ).2 ≤ 6 := by
  unfold rs_wrongs
  (repeat' split) <;> exact ⟨by decide, by decide⟩
theorem st_wrongs : StI f_X8_wrongs f_X10_wrongs [] A (setTr A (rs_wrongs (aTd A) (aPn A) (aLm A) ).2) (.int (rs_wrongs (aTd A) (aPn A) (aLm A) ).1) := sti_ro (fun M B P P2 L L2 ac h => c_wrongs h ) (fun M X C h => r_wrongs h ) (tr_wrongs ).1 (tr_wrongs ).2
theorem tr_mend : (rs_mend (aTd A) (aPn A) (aLm A) ).2 ≠ 4 ∧ (rs_mend (aTd A) (aPn A) (aLm A) ).2 ≤ 6 := by
  unfold rs_mend
  (repeat' split) <;> exact ⟨by decide, by decide⟩
theorem st_mend : StI f_X8_mend f_X10_mend [] A (setTr A (rs_mend (aTd A) (aPn A) (aLm A) ).2) (.int (rs_mend (aTd A) (aPn A) (aLm A) ).1) := sti_ro (fun M B P P2 L L2 ac h => c_mend h ) (fun M X C h => r_mend h ) (tr_mend ).1 (tr_mend ).2
theorem tr_mendBy : (rs_mendBy (aTd A) (aPn A) (aLm A) ).2 ≠ 4 ∧ (rs_mendBy (aTd A) (aPn A) (aLm A) ).2 ≤ 6 := by
  unfold rs_mendBy
  (repeat' split) <;> exact ⟨by decide, by decide⟩
theorem st_mendBy : StI f_X8_mendBy f_X10_mendBy [] A (setTr A (rs_mendBy (aTd A) (aPn A) (aLm A) ).2) (.int (rs_mendBy (aTd A) (aPn A) (aLm A) ).1) := sti_ro (fun M B P P2 L L2 ac h => c_mendBy h ) (fun M X C h => r_mendBy h ) (tr_mendBy ).1 (tr_mendBy ).2
theorem tr_seen (m s : Int32) : (rs_seen (aTd A) (aPn A) (aLm A) m s).2 ≠ 4 ∧ (rs_seen (aTd A) (aPn A) (aLm A) m s).2 ≤ 6 := by
  unfold rs_seen
  (repeat' split) <;> exact ⟨by decide, by decide⟩
theorem st_seen (m s : Int32) : StI f_X8_seen f_X10_seen [.int m, .int s] A (setTr A (rs_seen (aTd A) (aPn A) (aLm A) m s).2) (.int (rs_seen (aTd A) (aPn A) (aLm A) m s).1) := sti_ro (fun M B P P2 L L2 ac h => c_seen h m s) (fun M X C h => r_seen h m s) (tr_seen m s).1 (tr_seen m s).2
theorem tr_seenAt (m s : Int32) : (rs_seenAt (aTd A) (aPn A) (aLm A) m s).2 ≠ 4 ∧ (rs_seenAt (aTd A) (aPn A) (aLm A) m s).2 ≤ 6 := by
  unfold rs_seenAt
  (repeat' split) <;> exact ⟨by decide, by decide⟩
theorem st_seenAt (m s : Int32) : StI f_X8_seenAt f_X10_seenAt [.int m, .int s] A (setTr A (rs_seenAt (aTd A) (aPn A) (aLm A) m s).2) (.int (rs_seenAt (aTd A) (aPn A) (aLm A) m s).1) := sti_ro (fun M B P P2 L L2 ac h => c_seenAt h m s) (fun M X C h => r_seenAt h m s) (tr_seenAt m s).1 (tr_seenAt m s).2
theorem st_fault : StI f_X8_fault f_X10_fault [] A A (.int (n32 (aFt A))) := sti_no (fun M B P P2 L L2 ac h => c_fault h ) (fun M X C h => r_fault h )
theorem st_where : StI f_X8_where f_X10_where [] A A (.int (rs_where A)) := sti_no (fun M B P P2 L L2 ac h => c_where h ) (fun M X C h => r_where h )
theorem st_size (w : Int32) : StI f_X8_size f_X10_size [.int w] A A (.int (rs_size A w)) := sti_no (fun M B P P2 L L2 ac h => c_size h w) (fun M X C h => r_size h w)
theorem st_trouble : StI f_X8_trouble f_X10_trouble [] A A (.int (n32 (aTr A))) := sti_no (fun M B P P2 L L2 ac h => c_trouble h ) (fun M X C h => r_trouble h )
theorem kp_weave (s r : Int32) : aTd (wv A s r).1 = aTd A ∧ aTl (wv A s r).1 = aTl A ∧ aTp (wv A s r).1 = aTp A := by unfold wv; (repeat' split) <;> exact ⟨rfl, rfl, rfl⟩
theorem st_weave (s r : Int32) : StI f_X8_weave f_X10_weave [.int s, .int r] A (wv A s r).1 (.int (b2i (wv A s r).2)) := sti_cr (fun M B P P2 L L2 ac h => c_weave h s r) (fun M X C h => r_weave h s r) (kp_weave s r)
theorem kp_rip (s : Int32) : aTd (ripA A s).1 = aTd A ∧ aTl (ripA A s).1 = aTl A ∧ aTp (ripA A s).1 = aTp A := by unfold ripA; (repeat' split) <;> exact ⟨rfl, rfl, rfl⟩
theorem st_rip (s : Int32) : StI f_X8_rip f_X10_rip [.int s] A (ripA A s).1 (.int (b2i (ripA A s).2)) := sti_cr (fun M B P P2 L L2 ac h => c_rip h s) (fun M X C h => r_rip h s) (kp_rip s)
theorem kp_undo : aTd (undoA A).1 = aTd A ∧ aTl (undoA A).1 = aTl A ∧ aTp (undoA A).1 = aTp A := by unfold undoA; (repeat' split) <;> exact ⟨rfl, rfl, rfl⟩
theorem st_undo : StI f_X8_undo f_X10_undo [] A (undoA A).1 (.int (b2i (undoA A).2)) := sti_cr (fun M B P P2 L L2 ac h => c_undo h ) (fun M X C h => r_undo h ) (kp_undo )
theorem kp_mark : aTd (markA A).1 = aTd A ∧ aTl (markA A).1 = aTl A ∧ aTp (markA A).1 = aTp A := by unfold markA; (repeat' split) <;> exact ⟨rfl, rfl, rfl⟩
theorem st_mark : StI f_X8_mark f_X10_mark [] A (markA A).1 (.int (markA A).2) := sti_cr (fun M B P P2 L L2 ac h => c_mark h ) (fun M X C h => r_mark h ) (kp_mark )
theorem kp_back (m : Int32) : aTd (backA A m).1 = aTd A ∧ aTl (backA A m).1 = aTl A ∧ aTp (backA A m).1 = aTp A := by unfold backA; (repeat' split) <;> exact ⟨rfl, rfl, rfl⟩
theorem st_back (m : Int32) : StI f_X8_back f_X10_back [.int m] A (backA A m).1 (.int (b2i (backA A m).2)) := sti_cr (fun M B P P2 L L2 ac h => c_back h m) (fun M X C h => r_back h m) (kp_back m)
theorem kp_weeks (n : Int32) : aTd (weeksA A n).1 = aTd A ∧ aTl (weeksA A n).1 = aTl A ∧ aTp (weeksA A n).1 = aTp A := by unfold weeksA; (repeat' split) <;> exact ⟨rfl, rfl, rfl⟩
theorem st_weeks (n : Int32) : StI f_X8_weeks f_X10_weeks [.int n] A (weeksA A n).1 (.int (weeksA A n).2) := sti_cb (fun M B P P2 L L2 ac h b => c_weeks h b n) (fun M X C h => r_weeks h n) (kp_weeks n)
theorem st_meeting (w : Int32) : StI f_X8_meeting f_X10_meeting [.int w] A (setTr A (meetingR (aTd A) (aPn A) (aLm A) w).2) (.int (meetingR (aTd A) (aPn A) (aLm A) w).1) := sti_cb (fun M B P P2 L L2 ac h b => c_meeting h b w) (fun M X C h => r_meeting h w) ⟨rfl, rfl, rfl⟩
theorem st_woven (w : Int32) : StI f_X8_woven f_X10_woven [.int w] A (setTr A (wovenR (aTd A) (aPn A) (aLm A) w).2) (.int (wovenR (aTd A) (aPn A) (aLm A) w).1) := sti_cb (fun M B P P2 L L2 ac h b => c_woven h b w) (fun M X C h => r_woven h w) ⟨rfl, rfl, rfl⟩
theorem st_takes (s c : Int32) : StI f_X8_takes f_X10_takes [.int s, .int c] A (setTr A (takesR (aTd A) (aPn A) (aLm A) s c).2) (.int (takesR (aTd A) (aPn A) (aLm A) s c).1) := sti_cb (fun M B P P2 L L2 ac h b => c_takes h b s c) (fun M X C h => r_takes h s c) ⟨rfl, rfl, rfl⟩
theorem st_far (s : Int32) : StI f_X8_far f_X10_far [.int s] A (setTr A (farR (aTd A) (aPn A) (aLm A) s).2) (.int (farR (aTd A) (aPn A) (aLm A) s).1) := sti_cr (fun M B P P2 L L2 ac h => c_far h s) (fun M X C h => r_far h s) ⟨rfl, rfl, rfl⟩
theorem st_ways : StI f_X8_ways f_X10_ways [] A (setTr A (waysR (aTd A) (aPn A) (aLm A) ).2) (.long (waysR (aTd A) (aPn A) (aLm A) ).1) := sti_cr (fun M B P P2 L L2 ac h => c_ways h ) (fun M X C h => r_ways h ) ⟨rfl, rfl, rfl⟩
theorem st_sure (s r : Int32) : StI f_X8_sure f_X10_sure [.int s, .int r] A (setTr A (sureR (aTd A) (aPn A) (aLm A) s r).2) (.int (sureR (aTd A) (aPn A) (aLm A) s r).1) := sti_cr (fun M B P P2 L L2 ac h => c_sure h s r) (fun M X C h => r_sure h s r) ⟨rfl, rfl, rfl⟩
theorem st_sureRows (s : Int32) : StI f_X8_sureRows f_X10_sureRows [.int s] A (setTr A (sureRs (aTd A) (aPn A) (aLm A) s).2) (.int (sureRs (aTd A) (aPn A) (aLm A) s).1) := sti_cr (fun M B P P2 L L2 ac h => c_sureRows h s) (fun M X C h => r_sureRows h s) ⟨rfl, rfl, rfl⟩
theorem st_orders : StI f_X8_orders f_X10_orders [] A (setTr A (ordR (aTd A) (aPn A) (aLm A) ).2) (.long (ordR (aTd A) (aPn A) (aLm A) ).1) := sti_cr (fun M B P P2 L L2 ac h => c_orders h ) (fun M X C h => r_orders h ) ⟨rfl, rfl, rfl⟩
theorem st_ahead (l r : Int32) : StI f_X8_ahead f_X10_ahead [.int l, .int r] A (setTr A (ahdR (aTd A) (aPn A) (aLm A) l r).2) (.long (ahdR (aTd A) (aPn A) (aLm A) l r).1) := sti_cr (fun M B P P2 L L2 ac h => c_ahead h l r) (fun M X C h => r_ahead h l r) ⟨rfl, rfl, rfl⟩
end
