def k_0 : List MIns := [(0, .iload_n 0, [], []), (1, .ireturn, [0], [])]
def prg (m : Nat) : List MIns × Nat := [(k_0, 1)].getD m ([], 0)
