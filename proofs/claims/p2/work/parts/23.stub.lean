theorem sm_ck_ok : ∀ M ∈ sm_MS, sm_chk M = true := sorry
