
set_option maxHeartbeats 4000000 in
set_option maxRecDepth 100000 in
theorem c_X11_primary (l : Launch) (n : Nat) (ihE : ∀ m, m + 1 = n → Ok_X11_expression l m) (ihN : ∀ m, m + 1 = n → Ok_X11_negation l m) : Ok_X11_primary l n := sorry
set_option maxHeartbeats 4000000 in
set_option maxRecDepth 100000 in
theorem c_X11_product (l : Launch) (n : Nat) (ihE : ∀ m, m + 1 = n → Ok_X11_expression l m) (ihN : ∀ m, m + 1 = n → Ok_X11_negation l m) : Ok_X11_product l n := sorry
set_option maxHeartbeats 4000000 in
set_option maxRecDepth 100000 in
theorem c_X11_sum (l : Launch) (n : Nat) (ihE : ∀ m, m + 1 = n → Ok_X11_expression l m) (ihN : ∀ m, m + 1 = n → Ok_X11_negation l m) : Ok_X11_sum l n := sorry
set_option maxHeartbeats 4000000 in
set_option maxRecDepth 100000 in
theorem c_X11_negation (l : Launch) (n : Nat) (ihE : ∀ m, m + 1 = n → Ok_X11_expression l m) (ihN : ∀ m, m + 1 = n → Ok_X11_negation l m) : Ok_X11_negation l n := sorry
set_option maxHeartbeats 4000000 in
set_option maxRecDepth 100000 in
theorem c_X11_conjunction (l : Launch) (n : Nat) (ihE : ∀ m, m + 1 = n → Ok_X11_expression l m) (ihN : ∀ m, m + 1 = n → Ok_X11_negation l m) : Ok_X11_conjunction l n := sorry
set_option maxHeartbeats 4000000 in
set_option maxRecDepth 100000 in
theorem c_X11_expression (l : Launch) (n : Nat) (ihE : ∀ m, m + 1 = n → Ok_X11_expression l m) (ihN : ∀ m, m + 1 = n → Ok_X11_negation l m) : Ok_X11_expression l n := sorry
