theorem pr_0 {α : Type} {a p : α} {P : α → Prop} (h : a = p) (hb : P a) : P p := by rw [← h]; exact hb
theorem pr_1 {α β : Type} {a : α} {b : β} {p : α × β} (h : (a, b) = p) : a = p.1 := by rw [← h]
theorem pr_2 {α β : Type} {a : α} {b : β} {p : α × β} {P : β → Prop} (h : (a, b) = p) (hb : P b) : P p.2 := by rw [← h]; exact hb

