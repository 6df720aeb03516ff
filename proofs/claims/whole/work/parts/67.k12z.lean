theorem im_at_x {e x : im_E} {a : Nat} {s : im_Sh} (h : (im_sh0 ++ e)[a]? = some s) : (im_sh0 ++ (e ++ x))[a]? = some s := by
  rw [← List.append_assoc, List.getElem?_append_left (List.getElem?_eq_some_iff.mp h).1]; exact h
theorem im_num_x {e x : im_E} {b : Nat} (h : im_num e b) : im_num (e ++ x) b := ⟨im_at_x h.1, im_at_x h.2⟩
theorem im_book_x {e x : im_E} {b n : Nat} (h : im_book e b n) : im_book (e ++ x) b n := ⟨im_at_x h.1, im_at_x h.2.1, im_at_x h.2.2.1, im_at_x h.2.2.2.1, im_num_x h.2.2.2.2.1, h.2.2.2.2.2⟩
theorem im_row_x {e x : im_E} {b n : Nat} (h : im_row e b n) : im_row (e ++ x) b n := ⟨im_at_x h.1, im_at_x h.2.1, im_at_x h.2.2.1, im_at_x h.2.2.2.1, im_at_x h.2.2.2.2.1, im_at_x h.2.2.2.2.2.1, h.2.2.2.2.2.2⟩
theorem im_state_x {e x : im_E} {b : Nat} (h : im_state e b) : im_state (e ++ x) b := ⟨im_at_x h.1, im_book_x h.2.1, im_book_x h.2.2.1, im_book_x h.2.2.2⟩
