/-- told by their numbers, so that a wrong one falls at once -/
theorem Wq_i {n : Nat} {cd : List (Nat × Instr)} {post : Option AV → AMem → Prop} {i i' : Nat} {loc : Lc} {stk : List AV} {M : AMem} (e : i = i') (h : Wq n cd post i loc stk M) : Wq n cd post i' loc stk M := e ▸ h
theorem call_f2 {n n' : Nat} {as : List AV} {M m : AMem} {v : Option AV} {N : Option AV → AMem → Prop} (e : n = n') (h : Runs n as M (fun r M' => r = v ∧ M' = m)) (k : N v m) : ∃ post, Runs n' as M post ∧ ∀ r M', post r M' → N r M' := e ▸ call_fn h k
