theorem yds {α : Type} {p : α → Bool} {l : List α} {k n : Nat} (h1 : ((l.drop k).take n).all p = true) (h2 : (l.drop (k + n)).all p = true) : (l.drop k).all p = true := by
  have e : (l.drop k).drop n = l.drop (k + n) := by rw [List.drop_drop]
  rw [← List.take_append_drop n (l.drop k), List.all_append, e, h2, h1]
  rfl
theorem yCe_all : ∀ q ∈ yCeL, yCeF q.1 q.2.1 q.2.2 = true := by
  have h : (yCeL.drop 0).all (fun q => yCeF q.1 q.2.1 q.2.2) = true := (yds (k := 0) (n := 20) yCe_ok0 (yds (k := 20) (n := 20) yCe_ok1 (yds (k := 40) (n := 20) yCe_ok2 (yds (k := 60) (n := 20) yCe_ok3 (yds (k := 80) (n := 20) yCe_ok4 (yds (k := 100) (n := 20) yCe_ok5 (yds (k := 120) (n := 20) yCe_ok6 (yds (k := 140) (n := 20) yCe_ok7 (yds (k := 160) (n := 20) yCe_ok8 (yds (k := 180) (n := 20) yCe_ok9 (yds (k := 200) (n := 20) yCe_ok10 (yds (k := 220) (n := 20) yCe_ok11 (yds (k := 240) (n := 20) yCe_ok12 (yds (k := 260) (n := 20) yCe_ok13 (show (yCeL.drop 280).all (fun q => yCeF q.1 q.2.1 q.2.2) = true from by rw [List.drop_eq_nil_of_le (by decide +kernel)]; rfl)))))))))))))))
  rw [List.drop_zero] at h
  exact List.all_eq_true.mp h
