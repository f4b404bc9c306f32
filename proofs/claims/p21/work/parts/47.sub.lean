theorem v_sb {x : CX} {g : CG} {nL k n : Nat} {μ : Mem} {pc : Nat} {lv lv2 : LV} {st : List AV} (kk : V x g nL k n μ pc lv2 st) (hl : lvle lv2 lv) : V x g nL k n μ pc lv st := v_sub hl kk
