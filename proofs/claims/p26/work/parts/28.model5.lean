theorem ftFl_t {kf pf rf p0 h0 : Nat → Int32} {i : Nat} (h : kf i = 1) : ftFl kf pf rf p0 h0 (i + 1) = ((ftFl kf pf rf p0 h0 i).1 + 1, upd (ftFl kf pf rf p0 h0 i).2.1 (ftFl kf pf rf p0 h0 i).1 (pf i), upd (ftFl kf pf rf p0 h0 i).2.2 (ftFl kf pf rf p0 h0 i).1 (rf i)) := if_pos h
theorem ftFl_f {kf pf rf p0 h0 : Nat → Int32} {i : Nat} (h : ¬ kf i = 1) : ftFl kf pf rf p0 h0 (i + 1) = ftFl kf pf rf p0 h0 i := if_neg h
theorem ftFlE_t {len en : Int32} {kf pf rf p0 h0 : Nat → Int32} {n : Nat} (h : 0 < en) : ftFlE len en kf pf rf p0 h0 n = ((ftFl kf pf rf p0 h0 n).1 + 1, upd (ftFl kf pf rf p0 h0 n).2.1 (ftFl kf pf rf p0 h0 n).1 len, upd (ftFl kf pf rf p0 h0 n).2.2 (ftFl kf pf rf p0 h0 n).1 en) := if_pos h
theorem ftFlE_f {len en : Int32} {kf pf rf p0 h0 : Nat → Int32} {n : Nat} (h : ¬ 0 < en) : ftFlE len en kf pf rf p0 h0 n = ftFl kf pf rf p0 h0 n := if_neg h

