theorem ok_all : ∀ mi, mi < nMth → OkM (mQ mi) := sorry
