abbrev Tys (cI cZ cD cH : ClassId) : List (ClassId × FieldType) := [(cI, .int), (cZ, .boolean), (cD, .object RX0), (cH, .object RX2)]
abbrev rI (cI : ClassId) (q n : Nat) (f : Nat → Int32) : Nat × va_E := (q, .inl (cI, n, .inl f))
abbrev rZ (cZ : ClassId) (q n : Nat) (f : Nat → Int32) : Nat × va_E := (q, .inl (cZ, n, .inl f))
theorem jn_e {α β : Type} {k : α → Option β} {b : (α → Option β) → Option β} {o : β} {P : Prop} (hf : jn k b = some o) (h : ∀ K : α → Option β, b K = some o → (∀ x, K x = some o → k x = some o) → P) : P := h k hf (fun _ h => h)
theorem se_l {α β γ : Type} {f : α → Option γ} {g : β → Option γ} {x : α} {o : γ} (h : Sum.elim f g (Sum.inl x) = some o) : f x = some o := h
theorem se_r {α β γ : Type} {f : α → Option γ} {g : β → Option γ} {x : β} {o : γ} (h : Sum.elim f g (Sum.inr x) = some o) : g x = some o := h
