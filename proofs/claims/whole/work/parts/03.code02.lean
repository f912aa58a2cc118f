set_option maxRecDepth 100000 in
def sa_k88 : List (Nat × Instr × Nat) := [(0, .aload_n 0, 1), (1, .getfield 39, 3), (4, .iload_n 1, 1), (5, .iconst 0, 1), (6, .invokevirtual 67, 3), (9, .aload_n 0, 1), (10, .aload_n 0, 1), (11, .getfield 39, 3), (14, .invokevirtual 115, 3), (17, .iconst 1, 1), (18, .iload_n 1, 1), (19, .ishl, 1), (20, .iconst (-1), 1), (21, .ixor, 1), (22, .iand, 1), (23, .invokevirtual 118, 3), (26, .iconst (-1), 1), (27, .ixor, 1), (28, .iand, 1), (29, .ireturn, 1)]
set_option maxRecDepth 100000 in
theorem sa_kv88 : ∀ q ∈ sa_k88, decode cX6_partsAlone q.1 = .ok q.2 ∧ sa_ln q.2.1 q.2.2 = true := by decide +kernel
set_option maxRecDepth 100000 in
def sa_k89 : List (Nat × Instr × Nat) := [(0, .iconst 0, 1), (1, .istore_n 1, 1), (2, .iconst 0, 1), (3, .istore_n 2, 1), (4, .iload_n 2, 1), (5, .aload_n 0, 1), (6, .getfield 39, 3), (9, .invokevirtual 71, 3), (12, .if_icmp .ge 54, 3), (15, .iload_n 2, 1), (16, .iconst 1, 1), (17, .iadd, 1), (18, .istore_n 3, 1), (19, .iload_n 3, 1), (20, .aload_n 0, 1), (21, .getfield 39, 3), (24, .invokevirtual 71, 3), (27, .if_icmp .ge 33, 3), (30, .aload_n 0, 1), (31, .getfield 39, 3), (34, .iload_n 2, 1), (35, .iconst 0, 1), (36, .invokevirtual 67, 3), (39, .aload_n 0, 1), (40, .getfield 39, 3), (43, .iload_n 3, 1), (44, .iconst 0, 1), (45, .invokevirtual 67, 3), (48, .if_icmp .ne 6, 3), (51, .iinc 1 1, 3), (54, .iinc 3 1, 3), (57, .goto (-38), 3), (60, .iinc 2 1, 3), (63, .goto (-59), 3), (66, .iload_n 1, 1), (67, .ireturn, 1)]
set_option maxRecDepth 100000 in
theorem sa_kv89 : ∀ q ∈ sa_k89, decode cX6_likeCouples q.1 = .ok q.2 ∧ sa_ln q.2.1 q.2.2 = true := by decide +kernel
set_option maxRecDepth 100000 in
def sa_k90 : List (Nat × Instr × Nat) := [(0, .aload_n 0, 1), (1, .invokespecial 5, 3), (4, .aload_n 0, 1), (5, .bipush 27, 2), (7, .newarray .int, 2), (9, .putfield 11, 3), (12, .aload_n 0, 1), (13, .aload_n 1, 1), (14, .putfield 15, 3), (17, .aload_n 0, 1), (18, .getfield 11, 3), (21, .iconst 0, 1), (22, .bipush 50, 2), (24, .iastore, 1), (25, .aload_n 0, 1), (26, .getfield 11, 3), (29, .iconst 2, 1), (30, .iconst (-1), 1), (31, .iastore, 1), (32, .return_, 1)]
set_option maxRecDepth 100000 in
theorem sa_kv90 : ∀ q ∈ sa_k90, decode cX7_init q.1 = .ok q.2 ∧ sa_ln q.2.1 q.2.2 = true := by decide +kernel
set_option maxRecDepth 100000 in
def sa_k91 : List (Nat × Instr × Nat) := [(0, .aload_n 0, 1), (1, .getfield 11, 3), (4, .iconst 0, 1), (5, .aload_n 0, 1), (6, .getfield 15, 3), (9, .invokevirtual 19, 3), (12, .iastore, 1), (13, .aload_n 0, 1), (14, .getfield 11, 3), (17, .iconst 1, 1), (18, .iconst 0, 1), (19, .iastore, 1), (20, .aload_n 0, 1), (21, .getfield 11, 3), (24, .iconst 2, 1), (25, .iconst (-1), 1), (26, .iastore, 1), (27, .iconst 0, 1), (28, .istore_n 1, 1), (29, .iload_n 1, 1), (30, .aload_n 0, 1), (31, .getfield 15, 3), (34, .getfield 25, 3), (37, .invokevirtual 29, 3), (40, .if_icmp .ge 76, 3), (43, .aload_n 0, 1), (44, .getfield 11, 3), (47, .iconst 4, 1), (48, .iload_n 1, 1), (49, .imul, 1), (50, .iconst 3, 1), (51, .iadd, 1), (52, .aload_n 0, 1), (53, .getfield 15, 3), (56, .getfield 25, 3), (59, .iload_n 1, 1), (60, .iconst 1, 1), (61, .invokevirtual 34, 3), (64, .iastore, 1), (65, .aload_n 0, 1), (66, .getfield 11, 3), (69, .iconst 4, 1), (70, .iload_n 1, 1), (71, .imul, 1), (72, .iconst 4, 1), (73, .iadd, 1), (74, .aload_n 0, 1), (75, .getfield 15, 3), (78, .getfield 25, 3), (81, .iload_n 1, 1), (82, .iconst 2, 1), (83, .invokevirtual 34, 3), (86, .iastore, 1), (87, .aload_n 0, 1), (88, .getfield 11, 3), (91, .iconst 4, 1), (92, .iload_n 1, 1), (93, .imul, 1), (94, .iconst 5, 1), (95, .iadd, 1), (96, .iconst 0, 1), (97, .iastore, 1), (98, .aload_n 0, 1), (99, .getfield 11, 3), (102, .iconst 4, 1), (103, .iload_n 1, 1), (104, .imul, 1), (105, .bipush 6, 2), (107, .iadd, 1), (108, .iconst 0, 1), (109, .iastore, 1), (110, .iinc 1 1, 3), (113, .goto (-84), 3), (116, .return_, 1)]
set_option maxRecDepth 100000 in
theorem sa_kv91 : ∀ q ∈ sa_k91, decode cX7_begin q.1 = .ok q.2 ∧ sa_ln q.2.1 q.2.2 = true := by decide +kernel
set_option maxRecDepth 100000 in
def sa_k92 : List (Nat × Instr × Nat) := [(0, .aload_n 1, 1), (1, .getfield 11, 3), (4, .iconst 0, 1), (5, .aload_n 0, 1), (6, .getfield 11, 3), (9, .iconst 0, 1), (10, .bipush 27, 2), (12, .invokestatic 38, 3), (15, .return_, 1)]
set_option maxRecDepth 100000 in
theorem sa_kv92 : ∀ q ∈ sa_k92, decode cX7_copyFrom q.1 = .ok q.2 ∧ sa_ln q.2.1 q.2.2 = true := by decide +kernel
set_option maxRecDepth 100000 in
def sa_k93 : List (Nat × Instr × Nat) := [(0, .aload_n 0, 1), (1, .getfield 11, 3), (4, .iconst 0, 1), (5, .iaload, 1), (6, .ireturn, 1)]
set_option maxRecDepth 100000 in
theorem sa_kv93 : ∀ q ∈ sa_k93, decode cX7_coins q.1 = .ok q.2 ∧ sa_ln q.2.1 q.2.2 = true := by decide +kernel
set_option maxRecDepth 100000 in
def sa_k94 : List (Nat × Instr × Nat) := [(0, .aload_n 0, 1), (1, .getfield 11, 3), (4, .iconst 0, 1), (5, .iload_n 1, 1), (6, .iastore, 1), (7, .return_, 1)]
set_option maxRecDepth 100000 in
theorem sa_kv94 : ∀ q ∈ sa_k94, decode cX7_setCoins q.1 = .ok q.2 ∧ sa_ln q.2.1 q.2.2 = true := by decide +kernel
set_option maxRecDepth 100000 in
def sa_k95 : List (Nat × Instr × Nat) := [(0, .aload_n 0, 1), (1, .getfield 11, 3), (4, .iconst 1, 1), (5, .iaload, 1), (6, .ireturn, 1)]
set_option maxRecDepth 100000 in
theorem sa_kv95 : ∀ q ∈ sa_k95, decode cX7_dayNow q.1 = .ok q.2 ∧ sa_ln q.2.1 q.2.2 = true := by decide +kernel
set_option maxRecDepth 100000 in
def sa_k96 : List (Nat × Instr × Nat) := [(0, .aload_n 0, 1), (1, .getfield 11, 3), (4, .iconst 2, 1), (5, .iaload, 1), (6, .ireturn, 1)]
set_option maxRecDepth 100000 in
theorem sa_kv96 : ∀ q ∈ sa_k96, decode cX7_guarded q.1 = .ok q.2 ∧ sa_ln q.2.1 q.2.2 = true := by decide +kernel
set_option maxRecDepth 100000 in
def sa_k97 : List (Nat × Instr × Nat) := [(0, .aload_n 0, 1), (1, .getfield 11, 3), (4, .iconst 2, 1), (5, .iload_n 1, 1), (6, .iastore, 1), (7, .return_, 1)]
set_option maxRecDepth 100000 in
theorem sa_kv97 : ∀ q ∈ sa_k97, decode cX7_setGuarded q.1 = .ok q.2 ∧ sa_ln q.2.1 q.2.2 = true := by decide +kernel
set_option maxRecDepth 100000 in
def sa_k98 : List (Nat × Instr × Nat) := [(0, .aload_n 0, 1), (1, .getfield 11, 3), (4, .iconst 4, 1), (5, .iload_n 1, 1), (6, .imul, 1), (7, .iconst 3, 1), (8, .iadd, 1), (9, .iaload, 1), (10, .ireturn, 1)]
set_option maxRecDepth 100000 in
theorem sa_kv98 : ∀ q ∈ sa_k98, decode cX7_beliefs q.1 = .ok q.2 ∧ sa_ln q.2.1 q.2.2 = true := by decide +kernel
set_option maxRecDepth 100000 in
def sa_k99 : List (Nat × Instr × Nat) := [(0, .aload_n 0, 1), (1, .getfield 11, 3), (4, .iconst 4, 1), (5, .iload_n 1, 1), (6, .imul, 1), (7, .iconst 3, 1), (8, .iadd, 1), (9, .iload_n 2, 1), (10, .iastore, 1), (11, .return_, 1)]
set_option maxRecDepth 100000 in
theorem sa_kv99 : ∀ q ∈ sa_k99, decode cX7_setBeliefs q.1 = .ok q.2 ∧ sa_ln q.2.1 q.2.2 = true := by decide +kernel
set_option maxRecDepth 100000 in
def sa_k100 : List (Nat × Instr × Nat) := [(0, .aload_n 0, 1), (1, .getfield 11, 3), (4, .iconst 4, 1), (5, .iload_n 1, 1), (6, .imul, 1), (7, .iconst 4, 1), (8, .iadd, 1), (9, .iaload, 1), (10, .ireturn, 1)]
set_option maxRecDepth 100000 in
theorem sa_kv100 : ∀ q ∈ sa_k100, decode cX7_wary q.1 = .ok q.2 ∧ sa_ln q.2.1 q.2.2 = true := by decide +kernel
set_option maxRecDepth 100000 in
def sa_k101 : List (Nat × Instr × Nat) := [(0, .aload_n 0, 1), (1, .getfield 11, 3), (4, .iconst 4, 1), (5, .iload_n 1, 1), (6, .imul, 1), (7, .iconst 5, 1), (8, .iadd, 1), (9, .iaload, 1), (10, .ireturn, 1)]
set_option maxRecDepth 100000 in
theorem sa_kv101 : ∀ q ∈ sa_k101, decode cX7_cordOn q.1 = .ok q.2 ∧ sa_ln q.2.1 q.2.2 = true := by decide +kernel
set_option maxRecDepth 100000 in
def sa_k102 : List (Nat × Instr × Nat) := [(0, .aload_n 0, 1), (1, .getfield 11, 3), (4, .iconst 4, 1), (5, .iload_n 1, 1), (6, .imul, 1), (7, .bipush 6, 2), (9, .iadd, 1), (10, .iaload, 1), (11, .ireturn, 1)]
set_option maxRecDepth 100000 in
theorem sa_kv102 : ∀ q ∈ sa_k102, decode cX7_fate q.1 = .ok q.2 ∧ sa_ln q.2.1 q.2.2 = true := by decide +kernel
set_option maxRecDepth 100000 in
def sa_k103 : List (Nat × Instr × Nat) := [(0, .aload_n 0, 1), (1, .getfield 11, 3), (4, .iconst 4, 1), (5, .iload_n 1, 1), (6, .imul, 1), (7, .iconst 5, 1), (8, .iadd, 1), (9, .iload_n 2, 1), (10, .iastore, 1), (11, .return_, 1)]
set_option maxRecDepth 100000 in
theorem sa_kv103 : ∀ q ∈ sa_k103, decode cX7_setCord q.1 = .ok q.2 ∧ sa_ln q.2.1 q.2.2 = true := by decide +kernel
set_option maxRecDepth 100000 in
def sa_k104 : List (Nat × Instr × Nat) := [(0, .aload_n 0, 1), (1, .getfield 11, 3), (4, .iconst 4, 1), (5, .iload_n 1, 1), (6, .imul, 1), (7, .bipush 6, 2), (9, .iadd, 1), (10, .iload_n 2, 1), (11, .iastore, 1), (12, .return_, 1)]
set_option maxRecDepth 100000 in
theorem sa_kv104 : ∀ q ∈ sa_k104, decode cX7_setFate q.1 = .ok q.2 ∧ sa_ln q.2.1 q.2.2 = true := by decide +kernel
set_option maxRecDepth 100000 in
def sa_k105 : List (Nat × Instr × Nat) := [(0, .iconst 0, 1), (1, .istore_n 2, 1), (2, .iconst 0, 1), (3, .istore_n 3, 1), (4, .iload_n 3, 1), (5, .aload_n 0, 1), (6, .getfield 15, 3), (9, .getfield 25, 3), (12, .invokevirtual 29, 3), (15, .if_icmp .ge 24, 3), (18, .aload_n 0, 1), (19, .iload_n 3, 1), (20, .invokevirtual 44, 3), (23, .iload_n 1, 1), (24, .if_icmp .ne 9, 3), (27, .iload_n 2, 1), (28, .iconst 1, 1), (29, .iload_n 3, 1), (30, .ishl, 1), (31, .ior, 1), (32, .istore_n 2, 1), (33, .iinc 3 1, 3), (36, .goto (-32), 3), (39, .iload_n 2, 1), (40, .ireturn, 1)]
set_option maxRecDepth 100000 in
theorem sa_kv105 : ∀ q ∈ sa_k105, decode cX7_bitsOf q.1 = .ok q.2 ∧ sa_ln q.2.1 q.2.2 = true := by decide +kernel
set_option maxRecDepth 100000 in
def sa_k106 : List (Nat × Instr × Nat) := [(0, .iconst 0, 1), (1, .istore_n 1, 1), (2, .iconst 0, 1), (3, .istore_n 2, 1), (4, .iload_n 2, 1), (5, .aload_n 0, 1), (6, .getfield 15, 3), (9, .getfield 25, 3), (12, .invokevirtual 29, 3), (15, .if_icmp .ge 33, 3), (18, .aload_n 0, 1), (19, .iload_n 2, 1), (20, .invokevirtual 44, 3), (23, .iconst 1, 1), (24, .if_icmp .ne 18, 3), (27, .iload_n 1, 1), (28, .aload_n 0, 1), (29, .getfield 15, 3), (32, .getfield 25, 3), (35, .iload_n 2, 1), (36, .iconst 4, 1), (37, .invokevirtual 34, 3), (40, .iadd, 1), (41, .istore_n 1, 1), (42, .iinc 2 1, 3), (45, .goto (-41), 3), (48, .iload_n 1, 1), (49, .ireturn, 1)]
set_option maxRecDepth 100000 in
theorem sa_kv106 : ∀ q ∈ sa_k106, decode cX7_helpThere q.1 = .ok q.2 ∧ sa_ln q.2.1 q.2.2 = true := by decide +kernel
set_option maxRecDepth 100000 in
def sa_k107 : List (Nat × Instr × Nat) := [(0, .aload_n 0, 1), (1, .iload_n 1, 1), (2, .invokevirtual 44, 3), (5, .ifCond .ne 26, 3), (8, .aload_n 0, 1), (9, .invokevirtual 48, 3), (12, .aload_n 0, 1), (13, .getfield 15, 3), (16, .getfield 51, 3), (19, .iload_n 2, 1), (20, .iconst 5, 1), (21, .invokevirtual 34, 3), (24, .if_icmp .lt 7, 3), (27, .iconst 1, 1), (28, .goto 4, 3), (31, .iconst 0, 1), (32, .ireturn, 1)]
set_option maxRecDepth 100000 in
theorem sa_kv107 : ∀ q ∈ sa_k107, decode cX7_mayTry q.1 = .ok q.2 ∧ sa_ln q.2.1 q.2.2 = true := by decide +kernel
set_option maxRecDepth 100000 in
def sa_k108 : List (Nat × Instr × Nat) := [(0, .aload_n 0, 1), (1, .aload_n 0, 1), (2, .invokevirtual 48, 3), (5, .aload_n 0, 1), (6, .getfield 15, 3), (9, .getfield 51, 3), (12, .iload_n 2, 1), (13, .iconst 5, 1), (14, .invokevirtual 34, 3), (17, .isub, 1), (18, .invokevirtual 54, 3), (21, .aload_n 0, 1), (22, .getfield 15, 3), (25, .iload_n 2, 1), (26, .aload_n 0, 1), (27, .iload_n 1, 1), (28, .invokevirtual 58, 3), (31, .invokevirtual 61, 3), (34, .ifCond .ne 33, 3), (37, .aload_n 0, 1), (38, .getfield 11, 3), (41, .iconst 4, 1), (42, .iload_n 1, 1), (43, .imul, 1), (44, .iconst 4, 1), (45, .iadd, 1), (46, .bipush 9, 2), (48, .aload_n 0, 1), (49, .iload_n 1, 1), (50, .invokevirtual 65, 3), (53, .iconst 1, 1), (54, .iadd, 1), (55, .invokestatic 68, 3), (58, .iastore, 1), (59, .aload_n 0, 1), (60, .iload_n 1, 1), (61, .iconst 0, 1), (62, .invokevirtual 73, 3), (65, .iconst 0, 1), (66, .ireturn, 1), (67, .aload_n 0, 1), (68, .invokevirtual 77, 3), (71, .istore_n 3, 1), (72, .aload_n 0, 1), (73, .iload_n 1, 1), (74, .aload_n 0, 1), (75, .getfield 15, 3), (78, .iload_n 2, 1), (79, .aload_n 0, 1), (80, .iload_n 1, 1), (81, .invokevirtual 58, 3), (84, .invokevirtual 80, 3), (87, .invokevirtual 83, 3), (90, .aload_n 0, 1), (91, .iload_n 1, 1), (92, .aload_n 0, 1), (93, .getfield 15, 3), (96, .iload_n 2, 1), (97, .aload_n 0, 1), (98, .iload_n 1, 1), (99, .invokevirtual 86, 3), (102, .iload_n 3, 1), (103, .invokevirtual 89, 3), (106, .invokevirtual 73, 3), (109, .aload_n 0, 1), (110, .getfield 15, 3), (113, .iload_n 1, 1), (114, .aload_n 0, 1), (115, .iload_n 1, 1), (116, .invokevirtual 86, 3), (119, .aload_n 0, 1), (120, .iload_n 1, 1), (121, .invokevirtual 65, 3), (124, .aload_n 0, 1), (125, .iload_n 1, 1), (126, .invokevirtual 58, 3), (129, .iload_n 3, 1), (130, .invokevirtual 93, 3), (133, .ifCond .ne 5, 3), (136, .iconst 1, 1), (137, .ireturn, 1), (138, .aload_n 0, 1), (139, .iload_n 1, 1), (140, .iconst 1, 1), (141, .invokevirtual 97, 3), (144, .iconst 2, 1), (145, .ireturn, 1)]
set_option maxRecDepth 100000 in
theorem sa_kv108 : ∀ q ∈ sa_k108, decode cX7_tryTrick q.1 = .ok q.2 ∧ sa_ln q.2.1 q.2.2 = true := by decide +kernel
set_option maxRecDepth 100000 in
def sa_k109 : List (Nat × Instr × Nat) := [(0, .iconst 0, 1), (1, .istore_n 1, 1), (2, .iload_n 1, 1), (3, .aload_n 0, 1), (4, .getfield 15, 3), (7, .getfield 25, 3), (10, .invokevirtual 29, 3), (13, .if_icmp .ge 37, 3), (16, .aload_n 0, 1), (17, .iload_n 1, 1), (18, .invokevirtual 44, 3), (21, .ifCond .ne 23, 3), (24, .aload_n 0, 1), (25, .iload_n 1, 1), (26, .invokevirtual 86, 3), (29, .ifCond .le 15, 3), (32, .aload_n 0, 1), (33, .iload_n 1, 1), (34, .aload_n 0, 1), (35, .iload_n 1, 1), (36, .invokevirtual 86, 3), (39, .iconst 1, 1), (40, .isub, 1), (41, .invokevirtual 73, 3), (44, .iinc 1 1, 3), (47, .goto (-45), 3), (50, .aload_n 0, 1), (51, .invokevirtual 100, 3), (54, .aload_n 0, 1), (55, .getfield 11, 3), (58, .iconst 1, 1), (59, .dup2, 1), (60, .iaload, 1), (61, .iconst 1, 1), (62, .iadd, 1), (63, .iastore, 1), (64, .return_, 1)]
set_option maxRecDepth 100000 in
theorem sa_kv109 : ∀ q ∈ sa_k109, decode cX7_passDay q.1 = .ok q.2 ∧ sa_ln q.2.1 q.2.2 = true := by decide +kernel
set_option maxRecDepth 100000 in
def sa_k110 : List (Nat × Instr × Nat) := [(0, .aload_n 0, 1), (1, .getfield 15, 3), (4, .aload_n 0, 1), (5, .invokevirtual 103, 3), (8, .iconst 1, 1), (9, .iadd, 1), (10, .invokevirtual 106, 3), (13, .ifCond .ne 4, 3), (16, .return_, 1), (17, .iconst (-1), 1), (18, .istore_n 1, 1), (19, .iconst 0, 1), (20, .istore_n 2, 1), (21, .iload_n 2, 1), (22, .aload_n 0, 1), (23, .getfield 15, 3), (26, .getfield 25, 3), (29, .invokevirtual 29, 3), (32, .if_icmp .ge 60, 3), (35, .aload_n 0, 1), (36, .iload_n 2, 1), (37, .invokevirtual 44, 3), (40, .iconst 1, 1), (41, .if_icmp .ne 45, 3), (44, .iload_n 2, 1), (45, .aload_n 0, 1), (46, .invokevirtual 110, 3), (49, .if_icmp .eq 37, 3), (52, .iload_n 1, 1), (53, .iconst (-1), 1), (54, .if_icmp .eq 30, 3), (57, .aload_n 0, 1), (58, .getfield 15, 3), (61, .getfield 25, 3), (64, .iload_n 2, 1), (65, .iconst 3, 1), (66, .invokevirtual 34, 3), (69, .aload_n 0, 1), (70, .getfield 15, 3), (73, .getfield 25, 3), (76, .iload_n 1, 1), (77, .iconst 3, 1), (78, .invokevirtual 34, 3), (81, .if_icmp .le 5, 3), (84, .iload_n 2, 1), (85, .istore_n 1, 1), (86, .iinc 2 1, 3), (89, .goto (-68), 3), (92, .iload_n 1, 1), (93, .iconst (-1), 1), (94, .if_icmp .eq 9, 3), (97, .aload_n 0, 1), (98, .iload_n 1, 1), (99, .iconst 2, 1), (100, .invokevirtual 97, 3), (103, .return_, 1)]
set_option maxRecDepth 100000 in
theorem sa_kv110 : ∀ q ∈ sa_k110, decode cX7_stealIfRivalComes q.1 = .ok q.2 ∧ sa_ln q.2.1 q.2.2 = true := by decide +kernel
set_option maxRecDepth 100000 in
def sa_k111 : List (Nat × Instr × Nat) := [(0, .aload_n 0, 1), (1, .invokespecial 1, 3), (4, .aload_n 0, 1), (5, .iconst 0, 1), (6, .putfield 7, 3), (9, .aload_n 0, 1), (10, .iload_n 1, 1), (11, .putfield 13, 3), (14, .aload_n 0, 1), (15, .aload_n 2, 1), (16, .putfield 16, 3), (19, .aload_n 0, 1), (20, .iload_n 1, 1), (21, .aload_n 2, 1), (22, .arraylength, 1), (23, .imul, 1), (24, .newarray .int, 2), (26, .putfield 20, 3), (29, .return_, 1)]
set_option maxRecDepth 100000 in
theorem sa_kv111 : ∀ q ∈ sa_k111, decode cX8_init q.1 = .ok q.2 ∧ sa_ln q.2.1 q.2.2 = true := by decide +kernel
set_option maxRecDepth 100000 in
def sa_k112 : List (Nat × Instr × Nat) := [(0, .aload_n 0, 1), (1, .getfield 7, 3), (4, .ireturn, 1)]
set_option maxRecDepth 100000 in
theorem sa_kv112 : ∀ q ∈ sa_k112, decode cX8_size q.1 = .ok q.2 ∧ sa_ln q.2.1 q.2.2 = true := by decide +kernel
set_option maxRecDepth 100000 in
def sa_k113 : List (Nat × Instr × Nat) := [(0, .aload_n 0, 1), (1, .getfield 16, 3), (4, .arraylength, 1), (5, .ireturn, 1)]
set_option maxRecDepth 100000 in
theorem sa_kv113 : ∀ q ∈ sa_k113, decode cX8_width q.1 = .ok q.2 ∧ sa_ln q.2.1 q.2.2 = true := by decide +kernel
set_option maxRecDepth 100000 in
def sa_k114 : List (Nat × Instr × Nat) := [(0, .aload_n 0, 1), (1, .getfield 16, 3), (4, .iload_n 1, 1), (5, .iaload, 1), (6, .ireturn, 1)]
set_option maxRecDepth 100000 in
theorem sa_kv114 : ∀ q ∈ sa_k114, decode cX8_limit q.1 = .ok q.2 ∧ sa_ln q.2.1 q.2.2 = true := by decide +kernel
set_option maxRecDepth 100000 in
def sa_k115 : List (Nat × Instr × Nat) := [(0, .aload_n 0, 1), (1, .getfield 7, 3), (4, .aload_n 0, 1), (5, .getfield 13, 3), (8, .if_icmp .lt 7, 3), (11, .iconst 1, 1), (12, .goto 4, 3), (15, .iconst 0, 1), (16, .ireturn, 1)]
set_option maxRecDepth 100000 in
theorem sa_kv115 : ∀ q ∈ sa_k115, decode cX8_isFull q.1 = .ok q.2 ∧ sa_ln q.2.1 q.2.2 = true := by decide +kernel
set_option maxRecDepth 100000 in
def sa_k116 : List (Nat × Instr × Nat) := [(0, .iload_n 1, 1), (1, .ifCond .lt 15, 3), (4, .iload_n 1, 1), (5, .aload_n 0, 1), (6, .getfield 7, 3), (9, .if_icmp .ge 7, 3), (12, .iconst 1, 1), (13, .goto 4, 3), (16, .iconst 0, 1), (17, .ireturn, 1)]
set_option maxRecDepth 100000 in
theorem sa_kv116 : ∀ q ∈ sa_k116, decode cX8_has q.1 = .ok q.2 ∧ sa_ln q.2.1 q.2.2 = true := by decide +kernel
set_option maxRecDepth 100000 in
def sa_k117 : List (Nat × Instr × Nat) := [(0, .iconst 1, 1), (1, .aload_n 0, 1), (2, .getfield 7, 3), (5, .ishl, 1), (6, .iconst 1, 1), (7, .isub, 1), (8, .ireturn, 1)]
set_option maxRecDepth 100000 in
theorem sa_kv117 : ∀ q ∈ sa_k117, decode cX8_all q.1 = .ok q.2 ∧ sa_ln q.2.1 q.2.2 = true := by decide +kernel
set_option maxRecDepth 100000 in
def sa_k118 : List (Nat × Instr × Nat) := [(0, .aload_n 0, 1), (1, .getfield 20, 3), (4, .iload_n 1, 1), (5, .aload_n 0, 1), (6, .getfield 16, 3), (9, .arraylength, 1), (10, .imul, 1), (11, .iload_n 2, 1), (12, .iadd, 1), (13, .iaload, 1), (14, .ireturn, 1)]
set_option maxRecDepth 100000 in
theorem sa_kv118 : ∀ q ∈ sa_k118, decode cX8_get q.1 = .ok q.2 ∧ sa_ln q.2.1 q.2.2 = true := by decide +kernel
set_option maxRecDepth 100000 in
def sa_k119 : List (Nat × Instr × Nat) := [(0, .aload_n 0, 1), (1, .iconst 0, 1), (2, .putfield 7, 3), (5, .return_, 1)]
set_option maxRecDepth 100000 in
theorem sa_kv119 : ∀ q ∈ sa_k119, decode cX8_clear q.1 = .ok q.2 ∧ sa_ln q.2.1 q.2.2 = true := by decide +kernel
set_option maxRecDepth 100000 in
def sa_k120 : List (Nat × Instr × Nat) := [(0, .aload_n 0, 1), (1, .getfield 7, 3), (4, .aload_n 0, 1), (5, .getfield 13, 3), (8, .if_icmp .ge 21, 3), (11, .aload_n 0, 1), (12, .getfield 20, 3), (15, .aload_n 0, 1), (16, .getfield 7, 3), (19, .aload_n 0, 1), (20, .getfield 16, 3), (23, .arraylength, 1), (24, .imul, 1), (25, .iload_n 1, 1), (26, .iadd, 1), (27, .iload_n 2, 1), (28, .iastore, 1), (29, .return_, 1)]
set_option maxRecDepth 100000 in
theorem sa_kv120 : ∀ q ∈ sa_k120, decode cX8_put q.1 = .ok q.2 ∧ sa_ln q.2.1 q.2.2 = true := by decide +kernel
set_option maxRecDepth 100000 in
def sa_k121 : List (Nat × Instr × Nat) := [(0, .aload_n 0, 1), (1, .getfield 7, 3), (4, .aload_n 0, 1), (5, .getfield 13, 3), (8, .if_icmp .ge 13, 3), (11, .aload_n 0, 1), (12, .dup, 1), (13, .getfield 7, 3), (16, .iconst 1, 1), (17, .iadd, 1), (18, .putfield 7, 3), (21, .return_, 1)]
set_option maxRecDepth 100000 in
theorem sa_kv121 : ∀ q ∈ sa_k121, decode cX8_endRow q.1 = .ok q.2 ∧ sa_ln q.2.1 q.2.2 = true := by decide +kernel
set_option maxRecDepth 100000 in
def sa_k122 : List (Nat × Instr × Nat) := [(0, .aload_n 0, 1), (1, .aload_n 1, 1), (2, .getfield 7, 3), (5, .putfield 7, 3), (8, .aload_n 1, 1), (9, .getfield 20, 3), (12, .iconst 0, 1), (13, .aload_n 0, 1), (14, .getfield 20, 3), (17, .iconst 0, 1), (18, .aload_n 0, 1), (19, .getfield 20, 3), (22, .arraylength, 1), (23, .invokestatic 23, 3), (26, .return_, 1)]
set_option maxRecDepth 100000 in
theorem sa_kv122 : ∀ q ∈ sa_k122, decode cX8_copyFrom q.1 = .ok q.2 ∧ sa_ln q.2.1 q.2.2 = true := by decide +kernel
set_option maxRecDepth 100000 in
def sa_k123 : List (Nat × Instr × Nat) := [(0, .aload_n 0, 1), (1, .invokespecial 1, 3), (4, .aload_n 0, 1), (5, .iconst 0, 1), (6, .putfield 7, 3), (9, .aload_n 0, 1), (10, .iconst 0, 1), (11, .putfield 13, 3), (14, .aload_n 0, 1), (15, .iconst 0, 1), (16, .putfield 16, 3), (19, .aload_n 0, 1), (20, .iconst 0, 1), (21, .putfield 19, 3), (24, .aload_n 0, 1), (25, .iconst 0, 1), (26, .putfield 22, 3), (29, .aload_n 0, 1), (30, .iconst 0, 1), (31, .putfield 25, 3), (34, .aload_n 0, 1), (35, .aload_n 1, 1), (36, .putfield 28, 3), (39, .return_, 1)]
set_option maxRecDepth 100000 in
theorem sa_kv123 : ∀ q ∈ sa_k123, decode cX9_init q.1 = .ok q.2 ∧ sa_ln q.2.1 q.2.2 = true := by decide +kernel
set_option maxRecDepth 100000 in
def sa_k124 : List (Nat × Instr × Nat) := [(0, .aload_n 0, 1), (1, .iconst 0, 1), (2, .iload_n 1, 1), (3, .aload_n 0, 1), (4, .getfield 28, 3), (7, .arraylength, 1), (8, .invokestatic 32, 3), (11, .invokestatic 38, 3), (14, .putfield 7, 3), (17, .aload_n 0, 1), (18, .iconst 0, 1), (19, .putfield 16, 3), (22, .aload_n 0, 1), (23, .invokevirtual 41, 3), (26, .return_, 1)]
set_option maxRecDepth 100000 in
theorem sa_kv124 : ∀ q ∈ sa_k124, decode cX9_open q.1 = .ok q.2 ∧ sa_ln q.2.1 q.2.2 = true := by decide +kernel
set_option maxRecDepth 100000 in
def sa_k125 : List (Nat × Instr × Nat) := [(0, .aload_n 0, 1), (1, .getfield 19, 3), (4, .ireturn, 1)]
set_option maxRecDepth 100000 in
theorem sa_kv125 : ∀ q ∈ sa_k125, decode cX9_kind q.1 = .ok q.2 ∧ sa_ln q.2.1 q.2.2 = true := by decide +kernel
set_option maxRecDepth 100000 in
def sa_k126 : List (Nat × Instr × Nat) := [(0, .aload_n 0, 1), (1, .getfield 13, 3), (4, .ireturn, 1)]
set_option maxRecDepth 100000 in
theorem sa_kv126 : ∀ q ∈ sa_k126, decode cX9_start q.1 = .ok q.2 ∧ sa_ln q.2.1 q.2.2 = true := by decide +kernel
set_option maxRecDepth 100000 in
def sa_k127 : List (Nat × Instr × Nat) := [(0, .aload_n 0, 1), (1, .getfield 22, 3), (4, .ireturn, 1)]
set_option maxRecDepth 100000 in
theorem sa_kv127 : ∀ q ∈ sa_k127, decode cX9_value q.1 = .ok q.2 ∧ sa_ln q.2.1 q.2.2 = true := by decide +kernel
set_option maxRecDepth 100000 in
def sa_k128 : List (Nat × Instr × Nat) := [(0, .aload_n 0, 1), (1, .getfield 19, 3), (4, .bipush 100, 2), (6, .if_icmp .lt 7, 3), (9, .iconst 1, 1), (10, .goto 4, 3), (13, .iconst 0, 1), (14, .ireturn, 1)]
set_option maxRecDepth 100000 in
theorem sa_kv128 : ∀ q ∈ sa_k128, decode cX9_isWord q.1 = .ok q.2 ∧ sa_ln q.2.1 q.2.2 = true := by decide +kernel
set_option maxRecDepth 100000 in
def sa_k129 : List (Nat × Instr × Nat) := [(0, .aload_n 0, 1), (1, .getfield 19, 3), (4, .bipush 111, 2), (6, .if_icmp .lt 16, 3), (9, .aload_n 0, 1), (10, .getfield 19, 3), (13, .bipush 116, 2), (15, .if_icmp .gt 7, 3), (18, .iconst 1, 1), (19, .goto 4, 3), (22, .iconst 0, 1), (23, .ireturn, 1)]
set_option maxRecDepth 100000 in
theorem sa_kv129 : ∀ q ∈ sa_k129, decode cX9_isValue q.1 = .ok q.2 ∧ sa_ln q.2.1 q.2.2 = true := by decide +kernel
set_option maxRecDepth 100000 in
def sa_k130 : List (Nat × Instr × Nat) := [(0, .aload_n 0, 1), (1, .getfield 25, 3), (4, .iconst 4, 1), (5, .if_icmp .le 7, 3), (8, .iconst 1, 1), (9, .goto 4, 3), (12, .iconst 0, 1), (13, .ireturn, 1)]
set_option maxRecDepth 100000 in
theorem sa_kv130 : ∀ q ∈ sa_k130, decode cX9_hasTooManyDigits q.1 = .ok q.2 ∧ sa_ln q.2.1 q.2.2 = true := by decide +kernel
set_option maxRecDepth 100000 in
def sa_k131 : List (Nat × Instr × Nat) := [(0, .aload_n 0, 1), (1, .getfield 16, 3), (4, .aload_n 0, 1), (5, .getfield 7, 3), (8, .if_icmp .ge 31, 3), (11, .aload_n 0, 1), (12, .getfield 28, 3), (15, .aload_n 0, 1), (16, .getfield 16, 3), (19, .baload, 1), (20, .invokestatic 44, 3), (23, .ifCond .eq 16, 3), (26, .aload_n 0, 1), (27, .dup, 1), (28, .getfield 16, 3), (31, .iconst 1, 1), (32, .iadd, 1), (33, .putfield 16, 3), (36, .goto (-36), 3), (39, .aload_n 0, 1), (40, .aload_n 0, 1), (41, .getfield 16, 3), (44, .putfield 13, 3), (47, .aload_n 0, 1), (48, .getfield 13, 3), (51, .aload_n 0, 1), (52, .getfield 7, 3), (55, .if_icmp .lt 11, 3), (58, .aload_n 0, 1), (59, .iconst 0, 1), (60, .putfield 19, 3), (63, .goto 89, 3), (66, .aload_n 0, 1), (67, .getfield 28, 3), (70, .aload_n 0, 1), (71, .getfield 13, 3), (74, .baload, 1), (75, .invokestatic 48, 3), (78, .ifCond .eq 10, 3), (81, .aload_n 0, 1), (82, .invokevirtual 51, 3), (85, .goto 67, 3), (88, .aload_n 0, 1), (89, .getfield 28, 3), (92, .aload_n 0, 1), (93, .getfield 13, 3), (96, .baload, 1), (97, .invokestatic 54, 3), (100, .ifCond .eq 10, 3), (103, .aload_n 0, 1), (104, .invokevirtual 57, 3), (107, .goto 45, 3), (110, .aload_n 0, 1), (111, .aload_n 0, 1), (112, .getfield 28, 3), (115, .aload_n 0, 1), (116, .getfield 13, 3), (119, .baload, 1), (120, .invokestatic 60, 3), (123, .ifCond .eq 15, 3), (126, .aload_n 0, 1), (127, .getfield 28, 3), (130, .aload_n 0, 1), (131, .getfield 13, 3), (134, .baload, 1), (135, .goto 4, 3), (138, .iconst 1, 1), (139, .putfield 19, 3), (142, .aload_n 0, 1), (143, .dup, 1), (144, .getfield 16, 3), (147, .iconst 1, 1), (148, .iadd, 1), (149, .putfield 16, 3), (152, .return_, 1)]
set_option maxRecDepth 100000 in
theorem sa_kv131 : ∀ q ∈ sa_k131, decode cX9_step q.1 = .ok q.2 ∧ sa_ln q.2.1 q.2.2 = true := by decide +kernel
set_option maxRecDepth 100000 in
def sa_k132 : List (Nat × Instr × Nat) := [(0, .aload_n 0, 1), (1, .iconst 2, 1), (2, .putfield 19, 3), (5, .aload_n 0, 1), (6, .iconst 0, 1), (7, .putfield 22, 3), (10, .aload_n 0, 1), (11, .iconst 0, 1), (12, .putfield 25, 3), (15, .aload_n 0, 1), (16, .getfield 16, 3), (19, .aload_n 0, 1), (20, .getfield 7, 3), (23, .if_icmp .ge 73, 3), (26, .aload_n 0, 1), (27, .getfield 28, 3), (30, .aload_n 0, 1), (31, .getfield 16, 3), (34, .baload, 1), (35, .invokestatic 48, 3), (38, .ifCond .eq 58, 3), (41, .aload_n 0, 1), (42, .dup, 1), (43, .getfield 25, 3), (46, .iconst 1, 1), (47, .iadd, 1), (48, .putfield 25, 3), (51, .aload_n 0, 1), (52, .getfield 25, 3), (55, .iconst 4, 1), (56, .if_icmp .gt 27, 3), (59, .aload_n 0, 1), (60, .aload_n 0, 1), (61, .getfield 22, 3), (64, .bipush 10, 2), (66, .imul, 1), (67, .aload_n 0, 1), (68, .getfield 28, 3), (71, .aload_n 0, 1), (72, .getfield 16, 3), (75, .baload, 1), (76, .bipush 48, 2), (78, .isub, 1), (79, .iadd, 1), (80, .putfield 22, 3), (83, .aload_n 0, 1), (84, .dup, 1), (85, .getfield 16, 3), (88, .iconst 1, 1), (89, .iadd, 1), (90, .putfield 16, 3), (93, .goto (-78), 3), (96, .return_, 1)]
set_option maxRecDepth 100000 in
theorem sa_kv132 : ∀ q ∈ sa_k132, decode cX9_readNumber q.1 = .ok q.2 ∧ sa_ln q.2.1 q.2.2 = true := by decide +kernel
set_option maxRecDepth 100000 in
def sa_k133 : List (Nat × Instr × Nat) := [(0, .aload_n 0, 1), (1, .getfield 16, 3), (4, .aload_n 0, 1), (5, .getfield 7, 3), (8, .if_icmp .ge 31, 3), (11, .aload_n 0, 1), (12, .getfield 28, 3), (15, .aload_n 0, 1), (16, .getfield 16, 3), (19, .baload, 1), (20, .invokestatic 54, 3), (23, .ifCond .eq 16, 3), (26, .aload_n 0, 1), (27, .dup, 1), (28, .getfield 16, 3), (31, .iconst 1, 1), (32, .iadd, 1), (33, .putfield 16, 3), (36, .goto (-36), 3), (39, .aload_n 0, 1), (40, .aload_n 0, 1), (41, .ldc 63, 2), (43, .invokevirtual 65, 3), (46, .ifCond .eq 8, 3), (49, .bipush 101, 2), (51, .goto 215, 3), (54, .aload_n 0, 1), (55, .ldc 69, 2), (57, .invokevirtual 65, 3), (60, .ifCond .eq 8, 3), (63, .bipush 102, 2), (65, .goto 201, 3), (68, .aload_n 0, 1), (69, .ldc 71, 2), (71, .invokevirtual 65, 3), (74, .ifCond .eq 8, 3), (77, .bipush 103, 2), (79, .goto 187, 3), (82, .aload_n 0, 1), (83, .ldc 73, 2), (85, .invokevirtual 65, 3), (88, .ifCond .eq 8, 3), (91, .bipush 104, 2), (93, .goto 173, 3), (96, .aload_n 0, 1), (97, .ldc 75, 2), (99, .invokevirtual 65, 3), (102, .ifCond .eq 8, 3), (105, .bipush 105, 2), (107, .goto 159, 3), (110, .aload_n 0, 1), (111, .ldc 77, 2), (113, .invokevirtual 65, 3), (116, .ifCond .eq 8, 3), (119, .bipush 106, 2), (121, .goto 145, 3), (124, .aload_n 0, 1), (125, .ldc 79, 2), (127, .invokevirtual 65, 3), (130, .ifCond .eq 8, 3), (133, .bipush 107, 2), (135, .goto 131, 3), (138, .aload_n 0, 1), (139, .ldc 81, 2), (141, .invokevirtual 65, 3), (144, .ifCond .eq 8, 3), (147, .bipush 108, 2), (149, .goto 117, 3), (152, .aload_n 0, 1), (153, .ldc 83, 2), (155, .invokevirtual 65, 3), (158, .ifCond .eq 8, 3), (161, .bipush 109, 2), (163, .goto 103, 3), (166, .aload_n 0, 1), (167, .ldc 85, 2), (169, .invokevirtual 65, 3), (172, .ifCond .eq 8, 3), (175, .bipush 110, 2), (177, .goto 89, 3), (180, .aload_n 0, 1), (181, .ldc 87, 2), (183, .invokevirtual 65, 3), (186, .ifCond .eq 8, 3), (189, .bipush 111, 2), (191, .goto 75, 3), (194, .aload_n 0, 1), (195, .ldc 91, 2), (197, .invokevirtual 65, 3), (200, .ifCond .eq 8, 3), (203, .bipush 112, 2), (205, .goto 61, 3), (208, .aload_n 0, 1), (209, .ldc 93, 2), (211, .invokevirtual 65, 3), (214, .ifCond .eq 8, 3), (217, .bipush 113, 2), (219, .goto 47, 3), (222, .aload_n 0, 1), (223, .ldc 95, 2), (225, .invokevirtual 65, 3), (228, .ifCond .eq 8, 3), (231, .bipush 114, 2), (233, .goto 33, 3), (236, .aload_n 0, 1), (237, .ldc 97, 2), (239, .invokevirtual 65, 3), (242, .ifCond .eq 8, 3), (245, .bipush 115, 2), (247, .goto 19, 3), (250, .aload_n 0, 1), (251, .ldc 99, 2), (253, .invokevirtual 65, 3), (256, .ifCond .eq 8, 3), (259, .bipush 116, 2), (261, .goto 5, 3), (264, .bipush 100, 2), (266, .putfield 19, 3), (269, .return_, 1)]
set_option maxRecDepth 100000 in
theorem sa_kv133 : ∀ q ∈ sa_k133, decode cX9_readWord q.1 = .ok q.2 ∧ sa_ln q.2.1 q.2.2 = true := by decide +kernel
set_option maxRecDepth 100000 in
def sa_k134 : List (Nat × Instr × Nat) := [(0, .aload_n 0, 1), (1, .getfield 16, 3), (4, .aload_n 0, 1), (5, .getfield 13, 3), (8, .isub, 1), (9, .aload_n 1, 1), (10, .invokevirtual 101, 3), (13, .if_icmp .eq 5, 3), (16, .iconst 0, 1), (17, .ireturn, 1), (18, .iconst 0, 1), (19, .istore_n 2, 1), (20, .iload_n 2, 1), (21, .aload_n 1, 1), (22, .invokevirtual 101, 3), (25, .if_icmp .ge 30, 3), (28, .aload_n 0, 1), (29, .getfield 28, 3), (32, .aload_n 0, 1), (33, .getfield 13, 3), (36, .iload_n 2, 1), (37, .iadd, 1), (38, .baload, 1), (39, .aload_n 1, 1), (40, .iload_n 2, 1), (41, .invokevirtual 106, 3), (44, .if_icmp .eq 5, 3), (47, .iconst 0, 1), (48, .ireturn, 1), (49, .iinc 2 1, 3), (52, .goto (-32), 3), (55, .iconst 1, 1), (56, .ireturn, 1)]
set_option maxRecDepth 100000 in
theorem sa_kv134 : ∀ q ∈ sa_k134, decode cX9_spells q.1 = .ok q.2 ∧ sa_ln q.2.1 q.2.2 = true := by decide +kernel
set_option maxRecDepth 100000 in
def sa_k135 : List (Nat × Instr × Nat) := [(0, .iload_n 0, 1), (1, .bipush 32, 2), (3, .if_icmp .eq 9, 3), (6, .iload_n 0, 1), (7, .bipush 10, 2), (9, .if_icmp .ne 7, 3), (12, .iconst 1, 1), (13, .goto 4, 3), (16, .iconst 0, 1), (17, .ireturn, 1)]
set_option maxRecDepth 100000 in
theorem sa_kv135 : ∀ q ∈ sa_k135, decode cX9_isBlank q.1 = .ok q.2 ∧ sa_ln q.2.1 q.2.2 = true := by decide +kernel
set_option maxRecDepth 100000 in
def sa_k136 : List (Nat × Instr × Nat) := [(0, .iload_n 0, 1), (1, .bipush 48, 2), (3, .if_icmp .lt 13, 3), (6, .iload_n 0, 1), (7, .bipush 57, 2), (9, .if_icmp .gt 7, 3), (12, .iconst 1, 1), (13, .goto 4, 3), (16, .iconst 0, 1), (17, .ireturn, 1)]
set_option maxRecDepth 100000 in
theorem sa_kv136 : ∀ q ∈ sa_k136, decode cX9_isDigit q.1 = .ok q.2 ∧ sa_ln q.2.1 q.2.2 = true := by decide +kernel
set_option maxRecDepth 100000 in
def sa_k137 : List (Nat × Instr × Nat) := [(0, .iload_n 0, 1), (1, .bipush 97, 2), (3, .if_icmp .lt 13, 3), (6, .iload_n 0, 1), (7, .bipush 122, 2), (9, .if_icmp .gt 7, 3), (12, .iconst 1, 1), (13, .goto 4, 3), (16, .iconst 0, 1), (17, .ireturn, 1)]
set_option maxRecDepth 100000 in
theorem sa_kv137 : ∀ q ∈ sa_k137, decode cX9_isLetter q.1 = .ok q.2 ∧ sa_ln q.2.1 q.2.2 = true := by decide +kernel
set_option maxRecDepth 100000 in
def sa_k138 : List (Nat × Instr × Nat) := [(0, .iload_n 0, 1), (1, .tableswitch 105 40 61 #[103, 103, 103, 103, 105, 103, 105, 103, 105, 105, 105, 105, 105, 105, 105, 105, 105, 105, 105, 103, 103, 103], 103), (104, .iconst 1, 1), (105, .ireturn, 1), (106, .iconst 0, 1), (107, .ireturn, 1)]
set_option maxRecDepth 100000 in
theorem sa_kv138 : ∀ q ∈ sa_k138, decode cX9_isSign q.1 = .ok q.2 ∧ sa_ln q.2.1 q.2.2 = true := by decide +kernel
set_option maxRecDepth 100000 in
def sa_k139 : List (Nat × Instr × Nat) := [(0, .aload_n 0, 1), (1, .invokespecial 3, 3), (4, .aload_n 0, 1), (5, .sipush 1080, 3), (8, .newarray .int, 2), (10, .putfield 11, 3), (13, .aload_n 0, 1), (14, .iconst 0, 1), (15, .putfield 17, 3), (18, .aload_n 0, 1), (19, .iconst 0, 1), (20, .putfield 21, 3), (23, .aload_n 0, 1), (24, .bipush 8, 2), (26, .newarray .int, 2), (28, .putfield 24, 3), (31, .aload_n 0, 1), (32, .iconst 0, 1), (33, .putfield 27, 3), (36, .aload_n 0, 1), (37, .new 9, 3), (40, .dup, 1), (41, .aload_n 1, 1), (42, .invokespecial 30, 3), (45, .putfield 33, 3), (48, .return_, 1)]
set_option maxRecDepth 100000 in
theorem sa_kv139 : ∀ q ∈ sa_k139, decode cX10_init q.1 = .ok q.2 ∧ sa_ln q.2.1 q.2.2 = true := by decide +kernel
set_option maxRecDepth 100000 in
def sa_k140 : List (Nat × Instr × Nat) := [(0, .aload_n 0, 1), (1, .getfield 33, 3), (4, .invokevirtual 37, 3), (7, .aload_n 0, 1), (8, .iconst 0, 1), (9, .putfield 17, 3), (12, .aload_n 0, 1), (13, .iconst 0, 1), (14, .putfield 21, 3), (17, .aload_n 0, 1), (18, .iconst 0, 1), (19, .putfield 27, 3), (22, .return_, 1)]
set_option maxRecDepth 100000 in
theorem sa_kv140 : ∀ q ∈ sa_k140, decode cX10_begin q.1 = .ok q.2 ∧ sa_ln q.2.1 q.2.2 = true := by decide +kernel
set_option maxRecDepth 100000 in
def sa_k141 : List (Nat × Instr × Nat) := [(0, .aload_n 0, 1), (1, .getfield 33, 3), (4, .aload_n 1, 1), (5, .getfield 33, 3), (8, .invokevirtual 40, 3), (11, .aload_n 1, 1), (12, .getfield 11, 3), (15, .iconst 0, 1), (16, .aload_n 0, 1), (17, .getfield 11, 3), (20, .iconst 0, 1), (21, .aload_n 0, 1), (22, .getfield 11, 3), (25, .arraylength, 1), (26, .invokestatic 44, 3), (29, .aload_n 0, 1), (30, .aload_n 1, 1), (31, .getfield 17, 3), (34, .putfield 17, 3), (37, .aload_n 0, 1), (38, .aload_n 1, 1), (39, .getfield 21, 3), (42, .putfield 21, 3), (45, .aload_n 1, 1), (46, .getfield 24, 3), (49, .iconst 0, 1), (50, .aload_n 0, 1), (51, .getfield 24, 3), (54, .iconst 0, 1), (55, .bipush 8, 2), (57, .invokestatic 44, 3), (60, .aload_n 0, 1), (61, .aload_n 1, 1), (62, .getfield 27, 3), (65, .putfield 27, 3), (68, .return_, 1)]
set_option maxRecDepth 100000 in
theorem sa_kv141 : ∀ q ∈ sa_k141, decode cX10_copyFrom q.1 = .ok q.2 ∧ sa_ln q.2.1 q.2.2 = true := by decide +kernel
set_option maxRecDepth 100000 in
def sa_k142 : List (Nat × Instr × Nat) := [(0, .aload_n 0, 1), (1, .getfield 21, 3), (4, .ireturn, 1)]
set_option maxRecDepth 100000 in
theorem sa_kv142 : ∀ q ∈ sa_k142, decode cX10_acts q.1 = .ok q.2 ∧ sa_ln q.2.1 q.2.2 = true := by decide +kernel
set_option maxRecDepth 100000 in
def sa_k143 : List (Nat × Instr × Nat) := [(0, .aload_n 0, 1), (1, .getfield 17, 3), (4, .aload_n 0, 1), (5, .getfield 21, 3), (8, .iadd, 1), (9, .bipush 40, 2), (11, .irem, 1), (12, .istore_n 1, 1), (13, .aload_n 0, 1), (14, .getfield 33, 3), (17, .getfield 50, 3), (20, .iconst 0, 1), (21, .aload_n 0, 1), (22, .getfield 11, 3), (25, .iload_n 1, 1), (26, .bipush 27, 2), (28, .imul, 1), (29, .bipush 27, 2), (31, .invokestatic 44, 3), (34, .aload_n 0, 1), (35, .getfield 21, 3), (38, .bipush 40, 2), (40, .if_icmp .ge 16, 3), (43, .aload_n 0, 1), (44, .dup, 1), (45, .getfield 21, 3), (48, .iconst 1, 1), (49, .iadd, 1), (50, .putfield 21, 3), (53, .goto 16, 3), (56, .aload_n 0, 1), (57, .aload_n 0, 1), (58, .getfield 17, 3), (61, .iconst 1, 1), (62, .iadd, 1), (63, .bipush 40, 2), (65, .irem, 1), (66, .putfield 17, 3), (69, .return_, 1)]
set_option maxRecDepth 100000 in
theorem sa_kv143 : ∀ q ∈ sa_k143, decode cX10_remember q.1 = .ok q.2 ∧ sa_ln q.2.1 q.2.2 = true := by decide +kernel
set_option maxRecDepth 100000 in
def sa_k144 : List (Nat × Instr × Nat) := [(0, .aload_n 0, 1), (1, .getfield 21, 3), (4, .ifCond .ne 5, 3), (7, .iconst 0, 1), (8, .ireturn, 1), (9, .aload_n 0, 1), (10, .dup, 1), (11, .getfield 21, 3), (14, .iconst 1, 1), (15, .isub, 1), (16, .putfield 21, 3), (19, .aload_n 0, 1), (20, .getfield 17, 3), (23, .aload_n 0, 1), (24, .getfield 21, 3), (27, .iadd, 1), (28, .bipush 40, 2), (30, .irem, 1), (31, .istore_n 1, 1), (32, .aload_n 0, 1), (33, .getfield 11, 3), (36, .iload_n 1, 1), (37, .bipush 27, 2), (39, .imul, 1), (40, .aload_n 0, 1), (41, .getfield 33, 3), (44, .getfield 50, 3), (47, .iconst 0, 1), (48, .bipush 27, 2), (50, .invokestatic 44, 3), (53, .iconst 1, 1), (54, .ireturn, 1)]
set_option maxRecDepth 100000 in
theorem sa_kv144 : ∀ q ∈ sa_k144, decode cX10_takeBack q.1 = .ok q.2 ∧ sa_ln q.2.1 q.2.2 = true := by decide +kernel
set_option maxRecDepth 100000 in
def sa_k145 : List (Nat × Instr × Nat) := [(0, .aload_n 0, 1), (1, .getfield 27, 3), (4, .ireturn, 1)]
set_option maxRecDepth 100000 in
theorem sa_kv145 : ∀ q ∈ sa_k145, decode cX10_marks q.1 = .ok q.2 ∧ sa_ln q.2.1 q.2.2 = true := by decide +kernel
set_option maxRecDepth 100000 in
def sa_k146 : List (Nat × Instr × Nat) := [(0, .aload_n 0, 1), (1, .getfield 27, 3), (4, .bipush 8, 2), (6, .if_icmp .ge 45, 3), (9, .aload_n 0, 1), (10, .getfield 24, 3), (13, .aload_n 0, 1), (14, .getfield 27, 3), (17, .iload_n 1, 1), (18, .bipush 8, 2), (20, .ishl, 1), (21, .iload_n 2, 1), (22, .iconst 5, 1), (23, .ishl, 1), (24, .ior, 1), (25, .iload_n 3, 1), (26, .iconst 1, 1), (27, .ishl, 1), (28, .ior, 1), (29, .iload 4, 2), (31, .ifCond .eq 7, 3), (34, .iconst 1, 1), (35, .goto 4, 3), (38, .iconst 0, 1), (39, .ior, 1), (40, .iastore, 1), (41, .aload_n 0, 1), (42, .dup, 1), (43, .getfield 27, 3), (46, .iconst 1, 1), (47, .iadd, 1), (48, .putfield 27, 3), (51, .return_, 1)]
set_option maxRecDepth 100000 in
theorem sa_kv146 : ∀ q ∈ sa_k146, decode cX10_addMark q.1 = .ok q.2 ∧ sa_ln q.2.1 q.2.2 = true := by decide +kernel
set_option maxRecDepth 100000 in
def sa_k147 : List (Nat × Instr × Nat) := [(0, .aload_n 0, 1), (1, .iconst 0, 1), (2, .putfield 27, 3), (5, .return_, 1)]
set_option maxRecDepth 100000 in
theorem sa_kv147 : ∀ q ∈ sa_k147, decode cX10_dropMarks q.1 = .ok q.2 ∧ sa_ln q.2.1 q.2.2 = true := by decide +kernel
set_option maxRecDepth 100000 in
def sa_k148 : List (Nat × Instr × Nat) := [(0, .iconst 0, 1), (1, .istore 4, 2), (3, .iconst 0, 1), (4, .istore 5, 2), (6, .iload 5, 2), (8, .aload_n 0, 1), (9, .getfield 27, 3), (12, .if_icmp .ge 91, 3), (15, .aload_n 0, 1), (16, .getfield 24, 3), (19, .iload 5, 2), (21, .iaload, 1), (22, .iconst 1, 1), (23, .iand, 1), (24, .iload_n 3, 1), (25, .ifCond .eq 7, 3), (28, .iconst 1, 1), (29, .goto 4, 3), (32, .iconst 0, 1), (33, .if_icmp .ne 7, 3), (36, .iconst 1, 1), (37, .goto 4, 3), (40, .iconst 0, 1), (41, .istore 6, 2), (43, .iload 6, 2), (45, .ifCond .eq 52, 3), (48, .aload_n 0, 1), (49, .getfield 24, 3), (52, .iload 5, 2), (54, .iaload, 1), (55, .bipush 8, 2), (57, .ishr, 1), (58, .iload_n 1, 1), (59, .if_icmp .ne 38, 3), (62, .aload_n 0, 1), (63, .getfield 24, 3), (66, .iload 5, 2), (68, .iaload, 1), (69, .iconst 5, 1), (70, .ishr, 1), (71, .bipush 7, 2), (73, .iand, 1), (74, .iload_n 2, 1), (75, .if_icmp .ne 22, 3), (78, .iload 4, 2), (80, .iconst 1, 1), (81, .aload_n 0, 1), (82, .getfield 24, 3), (85, .iload 5, 2), (87, .iaload, 1), (88, .iconst 1, 1), (89, .ishr, 1), (90, .bipush 7, 2), (92, .iand, 1), (93, .ishl, 1), (94, .ior, 1), (95, .istore 4, 2), (97, .iinc 5 1, 3), (100, .goto (-94), 3), (103, .iload 4, 2), (105, .ireturn, 1)]
set_option maxRecDepth 100000 in
theorem sa_kv148 : ∀ q ∈ sa_k148, decode cX10_markedBeliefs q.1 = .ok q.2 ∧ sa_ln q.2.1 q.2.2 = true := by decide +kernel
set_option maxRecDepth 100000 in
def sa_k149 : List (Nat × Instr × Nat) := [(0, .aload_n 0, 1), (1, .invokespecial 1, 3), (4, .aload_n 0, 1), (5, .sipush 700, 3), (8, .newarray .byte, 2), (10, .putfield 9, 3), (13, .aload_n 0, 1), (14, .iconst 0, 1), (15, .putfield 13, 3), (18, .aload_n 0, 1), (19, .iconst (-1), 1), (20, .putfield 17, 3), (23, .aload_n 0, 1), (24, .iconst 3, 1), (25, .newarray .int, 2), (27, .putfield 20, 3), (30, .aload_n 0, 1), (31, .new 24, 3), (34, .dup, 1), (35, .invokespecial 26, 3), (38, .putfield 27, 3), (41, .aload_n 0, 1), (42, .new 24, 3), (45, .dup, 1), (46, .invokespecial 26, 3), (49, .putfield 31, 3), (52, .aload_n 0, 1), (53, .new 34, 3), (56, .dup, 1), (57, .aload_n 0, 1), (58, .getfield 9, 3), (61, .aload_n 0, 1), (62, .getfield 31, 3), (65, .invokespecial 36, 3), (68, .putfield 39, 3), (71, .aload_n 0, 1), (72, .new 43, 3), (75, .dup, 1), (76, .aload_n 0, 1), (77, .getfield 27, 3), (80, .invokespecial 45, 3), (83, .putfield 48, 3), (86, .aload_n 0, 1), (87, .new 43, 3), (90, .dup, 1), (91, .aload_n 0, 1), (92, .getfield 27, 3), (95, .invokespecial 45, 3), (98, .putfield 52, 3), (101, .aload_n 0, 1), (102, .iconst 0, 1), (103, .putfield 55, 3), (106, .aload_n 0, 1), (107, .new 59, 3), (110, .dup, 1), (111, .aload_n 0, 1), (112, .getfield 27, 3), (115, .invokespecial 61, 3), (118, .putfield 62, 3), (121, .aload_n 0, 1), (122, .new 66, 3), (125, .dup, 1), (126, .aload_n 0, 1), (127, .getfield 27, 3), (130, .aload_n 0, 1), (131, .getfield 48, 3), (134, .getfield 68, 3), (137, .aload_n 0, 1), (138, .getfield 62, 3), (141, .invokespecial 72, 3), (144, .putfield 75, 3), (147, .aload_n 0, 1), (148, .new 79, 3), (151, .dup, 1), (152, .aload_n 0, 1), (153, .getfield 27, 3), (156, .aload_n 0, 1), (157, .getfield 48, 3), (160, .invokespecial 81, 3), (163, .putfield 84, 3), (166, .aload_n 0, 1), (167, .new 88, 3), (170, .dup, 1), (171, .aload_n 0, 1), (172, .getfield 27, 3), (175, .aload_n 0, 1), (176, .getfield 48, 3), (179, .getfield 68, 3), (182, .invokespecial 90, 3), (185, .putfield 93, 3), (188, .return_, 1)]
set_option maxRecDepth 100000 in
theorem sa_kv149 : ∀ q ∈ sa_k149, decode cX11_init q.1 = .ok q.2 ∧ sa_ln q.2.1 q.2.2 = true := by decide +kernel
set_option maxRecDepth 100000 in
def sa_k150 : List (Nat × Instr × Nat) := [(0, .aload_n 0, 1), (1, .getfield 13, 3), (4, .bipush 20, 2), (6, .iadd, 1), (7, .sipush 700, 3), (10, .if_icmp .le 5, 3), (13, .iconst (-1), 1), (14, .ireturn, 1), (15, .aload_n 0, 1), (16, .iload_n 1, 1), (17, .invokevirtual 97, 3), (20, .aload_n 0, 1), (21, .iload_n 2, 1), (22, .invokevirtual 97, 3), (25, .aload_n 0, 1), (26, .iload_n 3, 1), (27, .invokevirtual 97, 3), (30, .aload_n 0, 1), (31, .iload 4, 2), (33, .invokevirtual 97, 3), (36, .aload_n 0, 1), (37, .iload 5, 2), (39, .invokevirtual 97, 3), (42, .aload_n 0, 1), (43, .getfield 13, 3), (46, .ireturn, 1)]
set_option maxRecDepth 100000 in
theorem sa_kv150 : ∀ q ∈ sa_k150, decode cX11_feed q.1 = .ok q.2 ∧ sa_ln q.2.1 q.2.2 = true := by decide +kernel
set_option maxRecDepth 100000 in
def sa_k151 : List (Nat × Instr × Nat) := [(0, .bipush 24, 2), (2, .istore_n 2, 1), (3, .iload_n 2, 1), (4, .ifCond .lt 42, 3), (7, .aload_n 0, 1), (8, .getfield 13, 3), (11, .sipush 700, 3), (14, .if_icmp .ge 32, 3), (17, .aload_n 0, 1), (18, .getfield 9, 3), (21, .aload_n 0, 1), (22, .getfield 13, 3), (25, .iload_n 1, 1), (26, .iload_n 2, 1), (27, .ishr, 1), (28, .i2b, 1), (29, .bastore, 1), (30, .aload_n 0, 1), (31, .dup, 1), (32, .getfield 13, 3), (35, .iconst 1, 1), (36, .iadd, 1), (37, .putfield 13, 3), (40, .iinc 2 (-8), 3), (43, .goto (-40), 3), (46, .return_, 1)]
set_option maxRecDepth 100000 in
theorem sa_kv151 : ∀ q ∈ sa_k151, decode cX11_putBytes q.1 = .ok q.2 ∧ sa_ln q.2.1 q.2.2 = true := by decide +kernel
set_option maxRecDepth 100000 in
def sa_k152 : List (Nat × Instr × Nat) := [(0, .iload_n 1, 1), (1, .ifCond .lt 11, 3), (4, .iload_n 1, 1), (5, .aload_n 0, 1), (6, .getfield 13, 3), (9, .if_icmp .le 11, 3), (12, .new 101, 3), (15, .dup, 1), (16, .invokespecial 103, 3), (19, .athrow, 1), (20, .aload_n 0, 1), (21, .iconst 0, 1), (22, .putfield 13, 3), (25, .aload_n 0, 1), (26, .getfield 39, 3), (29, .iload_n 1, 1), (30, .invokevirtual 104, 3), (33, .istore_n 2, 1), (34, .aload_n 0, 1), (35, .aload_n 0, 1), (36, .getfield 39, 3), (39, .invokevirtual 108, 3), (42, .putfield 17, 3), (45, .iload_n 2, 1), (46, .ifCond .eq 15, 3), (49, .aload_n 0, 1), (50, .getfield 20, 3), (53, .iconst 0, 1), (54, .dup2, 1), (55, .iaload, 1), (56, .iconst 1, 1), (57, .iadd, 1), (58, .iastore, 1), (59, .iload_n 2, 1), (60, .ireturn, 1), (61, .aload_n 0, 1), (62, .getfield 27, 3), (65, .aload_n 0, 1), (66, .getfield 31, 3), (69, .invokevirtual 111, 3), (72, .aload_n 0, 1), (73, .getfield 48, 3), (76, .invokevirtual 114, 3), (79, .aload_n 0, 1), (80, .iconst 0, 1), (81, .putfield 55, 3), (84, .iconst 0, 1), (85, .ireturn, 1)]
set_option maxRecDepth 100000 in
theorem sa_kv152 : ∀ q ∈ sa_k152, decode cX11_sky q.1 = .ok q.2 ∧ sa_ln q.2.1 q.2.2 = true := by decide +kernel
set_option maxRecDepth 100000 in
def sa_k153 : List (Nat × Instr × Nat) := [(0, .aload_n 0, 1), (1, .getfield 17, 3), (4, .ireturn, 1)]
set_option maxRecDepth 100000 in
theorem sa_kv153 : ∀ q ∈ sa_k153, decode cX11_fault q.1 = .ok q.2 ∧ sa_ln q.2.1 q.2.2 = true := by decide +kernel
