def t_D_init_4 : List (Nat × Instr × Nat) := [(236, .goto (-31), 3), (239, .return_, 1)]
