
theorem gp_all (l : Launch) : ∀ n, Ok_X11_negation l n ∧ Ok_X11_expression l n
  | 0 => ⟨c_X11_negation l 0 (fun m h => absurd h (by omega)) (fun m h => absurd h (by omega)), c_X11_expression l 0 (fun m h => absurd h (by omega)) (fun m h => absurd h (by omega))⟩
  | n + 1 => ⟨c_X11_negation l (n + 1) (fun m h => by rw [Nat.succ.inj h]; exact (gp_all l n).2) (fun m h => by rw [Nat.succ.inj h]; exact (gp_all l n).1), c_X11_expression l (n + 1) (fun m h => by rw [Nat.succ.inj h]; exact (gp_all l n).2) (fun m h => by rw [Nat.succ.inj h]; exact (gp_all l n).1)⟩
