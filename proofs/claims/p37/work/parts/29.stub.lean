theorem en_hM : ∀ t ∈ en_M, en_Mok en_M t := sorry
