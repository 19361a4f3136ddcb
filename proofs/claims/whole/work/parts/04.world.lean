/-! ===== the world: which cells there are, and what each holds, by the memory ===== -/
/-- the layout of objects; addresses by group, number, part; the classes of arrays (int, long, boolean, Shelf, int[]); the cells that may change -/
abbrev zB : Type := va_G × (Nat → Int → Int → Nat) × (Nat → ClassId) × (Nat → Prop)
def zc0 (B : zB) (f : Int → Int) (r k : Int) : va_E := if k = 0 then .inr (3, [.int (zI (f 0)), .int (zI (f 1)), .int (zI (f 2)), .int (zI (f 3)), .int (zI (f 4)), .int (zI (f 5)), .int (zI (f 6)), .ref (B.2.1 0 (r) (1)), .ref (B.2.1 0 (r) (2)), .ref (B.2.1 0 (r) (3)), .ref (B.2.1 0 (r) (4)), .ref (B.2.1 0 (r) (5)), .ref (B.2.1 0 (r) (6)), .ref (B.2.1 0 (r) (16)), .ref (B.2.1 0 (r) (26)), .ref (B.2.1 0 (r) (31)), .ref (B.2.1 13 (r) (0)), .ref (B.2.1 13 (r) (1))]) else if k = 1 then .inl (B.2.2.1 0, 4, .inl (fun j : Nat => zI (f (j : Int)))) else if k = 2 then .inl (B.2.2.1 0, 12, .inl (fun j : Nat => zI (f (j : Int)))) else if k = 3 then .inl (B.2.2.1 0, 12, .inl (fun j : Nat => zI (f (j : Int)))) else if k = 4 then .inl (B.2.2.1 0, 12, .inl (fun j : Nat => zI (f (j : Int)))) else if k = 5 then .inl (B.2.2.1 0, 12, .inl (fun j : Nat => zI (f (j : Int)))) else if k = 6 then .inr (6, [.int (zI (f 0)), .ref (B.2.1 0 (r) (7)), .ref (B.2.1 0 (r) (8)), .ref (B.2.1 0 (r) (9)), .ref (B.2.1 0 (r) (10)), .ref (B.2.1 0 (r) (11)), .ref (B.2.1 0 (r) (12)), .ref (B.2.1 0 (r) (13)), .ref (B.2.1 0 (r) (14)), .ref (B.2.1 0 (r) (15))]) else if k = 7 then .inl (B.2.2.1 0, 40, .inl (fun j : Nat => zI (f (j : Int)))) else if k = 8 then .inl (B.2.2.1 0, 40, .inl (fun j : Nat => zI (f (j : Int)))) else if k = 9 then .inl (B.2.2.1 0, 40, .inl (fun j : Nat => zI (f (j : Int)))) else if k = 10 then .inl (B.2.2.1 0, 40, .inl (fun j : Nat => zI (f (j : Int)))) else if k = 11 then .inl (B.2.2.1 0, 40, .inl (fun j : Nat => zI (f (j : Int)))) else if k = 12 then .inl (B.2.2.1 0, 40, .inl (fun j : Nat => zI (f (j : Int)))) else if k = 13 then .inl (B.2.2.1 0, 40, .inl (fun j : Nat => zI (f (j : Int)))) else if k = 14 then .inl (B.2.2.1 0, 40, .inl (fun j : Nat => zI (f (j : Int)))) else if k = 15 then .inl (B.2.2.1 0, 40, .inl (fun j : Nat => zI (f (j : Int)))) else if k = 16 then .inr (5, [.int (zI (f 0)), .ref (B.2.1 0 (r) (17)), .ref (B.2.1 0 (r) (18)), .ref (B.2.1 0 (r) (19)), .ref (B.2.1 0 (r) (20)), .ref (B.2.1 0 (r) (21)), .ref (B.2.1 0 (r) (22)), .ref (B.2.1 0 (r) (23)), .ref (B.2.1 0 (r) (24)), .ref (B.2.1 0 (r) (25)), .ref (B.2.1 3 (0) (2))]) else if k = 17 then .inl (B.2.2.1 0, 12, .inl (fun j : Nat => zI (f (j : Int)))) else if k = 18 then .inl (B.2.2.1 0, 12, .inl (fun j : Nat => zI (f (j : Int)))) else if k = 19 then .inl (B.2.2.1 0, 12, .inl (fun j : Nat => zI (f (j : Int)))) else if k = 20 then .inl (B.2.2.1 0, 12, .inl (fun j : Nat => zI (f (j : Int)))) else if k = 21 then .inl (B.2.2.1 0, 12, .inl (fun j : Nat => zI (f (j : Int)))) else if k = 22 then .inl (B.2.2.1 0, 12, .inl (fun j : Nat => zI (f (j : Int)))) else if k = 23 then .inl (B.2.2.1 0, 12, .inl (fun j : Nat => zI (f (j : Int)))) else if k = 24 then .inl (B.2.2.1 0, 12, .inl (fun j : Nat => zI (f (j : Int)))) else if k = 25 then .inl (B.2.2.1 0, 12, .inl (fun j : Nat => zI (f (j : Int)))) else if k = 26 then .inr (7, [.int (zI (f 0)), .ref (B.2.1 0 (r) (27)), .ref (B.2.1 0 (r) (28)), .ref (B.2.1 0 (r) (29)), .ref (B.2.1 0 (r) (30))]) else if k = 27 then .inl (B.2.2.1 0, 8, .inl (fun j : Nat => zI (f (j : Int)))) else if k = 28 then .inl (B.2.2.1 0, 8, .inl (fun j : Nat => zI (f (j : Int)))) else if k = 29 then .inl (B.2.2.1 0, 8, .inl (fun j : Nat => zI (f (j : Int)))) else if k = 30 then .inl (B.2.2.1 0, 8, .inl (fun j : Nat => zI (f (j : Int)))) else if k = 31 then .inr (11, [.ref (B.2.1 0 (r) (32)), .ref (B.2.1 0 (r) (33)), .ref (B.2.1 0 (r) (34)), .int (zI (f 3)), .ref (B.2.1 0 (r) (35)), .ref (B.2.1 0 (r) (36))]) else if k = 32 then .inl (B.2.2.1 0, 4, .inl (fun j : Nat => zI (f (j : Int)))) else if k = 33 then .inl (B.2.2.1 0, 4, .inl (fun j : Nat => zI (f (j : Int)))) else if k = 34 then .inl (B.2.2.1 0, 4, .inl (fun j : Nat => zI (f (j : Int)))) else if k = 35 then .inl (B.2.2.1 0, 30, .inl (fun j : Nat => zI (f (j : Int)))) else .inl (B.2.2.1 0, 30, .inl (fun j : Nat => zI (f (j : Int))))
def zc1 (B : zB) (f : Int → Int) (r k : Int) : va_E := .inl (B.2.2.1 0, 120, .inl (fun j : Nat => zI (f (j : Int))))
def zc2 (B : zB) (f : Int → Int) (r k : Int) : va_E := if k = 0 then .inr (9, [.int (zI (f 0)), .int (zI (f 1)), .int (zI (f 2)), .int (zI (f 3)), .int (zI (f 4)), .int (zI (f 5)), .ref (B.2.1 2 (r) (1))]) else .inl (B.2.2.1 0, 120, .inl (fun j : Nat => zI (f (j : Int))))
def zc3 (B : zB) (f : Int → Int) (r k : Int) : va_E := if k = 0 then .inr (0, [.ref (B.2.1 0 (0) (0)), .ref (B.2.1 0 (1) (0)), .ref (B.2.1 0 (2) (0)), .int (zI (f 3)), .ref (B.2.1 3 (r) (1)), .ref (B.2.1 3 (0) (3)), .ref (B.2.1 3 (0) (4)), .ref (B.2.1 3 (0) (7)), .ref (B.2.1 3 (0) (10)), .ref (B.2.1 3 (0) (15))]) else if k = 1 then .inl (B.2.2.1 0, 2000, .inl (fun j : Nat => zI (f (j : Int)))) else if k = 2 then .inl (B.2.2.1 4, 12, .inr (.inr (.inr (.inr (fun j : Nat => some (B.2.1 1 ((j : Int)) (0))))))) else if k = 3 then .inl (B.2.2.1 3, 8, .inr (.inr (.inr (.inr (fun j : Nat => some (B.2.1 2 ((j : Int)) (0))))))) else if k = 4 then .inr (8, [.int (zI (f 0)), .ref (B.2.1 3 (r) (5)), .int (zI (f 2)), .ref (B.2.1 3 (r) (6)), .int (zI (f 4)), .int (zI (f 5)), .int (zI (f 6)), .int (zI (f 7))]) else if k = 5 then .inl (B.2.2.1 0, 120, .inl (fun j : Nat => zI (f (j : Int)))) else if k = 6 then .inl (B.2.2.1 0, 120, .inl (fun j : Nat => zI (f (j : Int)))) else if k = 7 then .inr (4, [.ref (B.2.1 3 (r) (8)), .ref (B.2.1 3 (r) (9)), .int (zI (f 2))]) else if k = 8 then .inl (B.2.2.1 0, 7, .inl (fun j : Nat => zI (f (j : Int)))) else if k = 9 then .inl (B.2.2.1 0, 120, .inl (fun j : Nat => zI (f (j : Int)))) else if k = 10 then .inr (2, [.ref (B.2.1 20 (r) (0)), .ref (B.2.1 20 (r) (1)), .ref (B.2.1 3 (r) (11)), .ref (B.2.1 20 (r) (2)), .ref (B.2.1 3 (r) (12)), .int (zI (f 5)), .ref (B.2.1 3 (r) (13)), .ref (B.2.1 3 (r) (14)), .ref (B.2.1 3 (0) (21))]) else if k = 11 then .inl (B.2.2.1 0, 8, .inl (fun j : Nat => zI (f (j : Int)))) else if k = 12 then .inl (B.2.2.1 0, 8, .inl (fun j : Nat => zI (f (j : Int)))) else if k = 13 then .inl (B.2.2.1 0, 9, .inl (fun j : Nat => zI (f (j : Int)))) else if k = 14 then .inl (B.2.2.1 0, 8, .inl (fun j : Nat => zI (f (j : Int)))) else if k = 15 then .inr (1, [.ref (B.2.1 3 (0) (7)), .ref (B.2.1 3 (0) (10)), .ref (B.2.1 3 (r) (16)), .ref (B.2.1 3 (r) (17)), .ref (B.2.1 3 (r) (18)), .ref (B.2.1 3 (r) (19)), .ref (B.2.1 3 (r) (20)), .int (zI (f 7))]) else if k = 16 then .inl (B.2.2.1 0, 40, .inl (fun j : Nat => zI (f (j : Int)))) else if k = 17 then .inl (B.2.2.1 0, 40, .inl (fun j : Nat => zI (f (j : Int)))) else if k = 18 then .inl (B.2.2.1 0, 12, .inl (fun j : Nat => zI (f (j : Int)))) else if k = 19 then .inl (B.2.2.1 0, 40, .inl (fun j : Nat => zI (f (j : Int)))) else if k = 20 then .inl (B.2.2.1 0, 12, .inl (fun j : Nat => zI (f (j : Int)))) else .inl (B.2.2.1 4, 9, .inr (.inr (.inr (.inr (fun j : Nat => some (B.2.1 4 ((j : Int)) (0)))))))
def zc4 (B : zB) (f : Int → Int) (r k : Int) : va_E := .inl (B.2.2.1 0, 512, .inl (fun j : Nat => zI (f (j : Int))))
def zc5 (B : zB) (f : Int → Int) (r k : Int) : va_E := if k = 0 then .inr (13, [.int (zI (f 0)), .int (zI (f 1)), .ref (B.2.1 5 (r) (1)), .ref (B.2.1 5 (r) (2)), .ref (B.2.1 5 (r) (3)), .ref (B.2.1 5 (r) (4)), .ref (B.2.1 5 (r) (5)), .ref (B.2.1 5 (r) (6)), .ref (B.2.1 5 (r) (7)), .ref (B.2.1 5 (r) (8)), .ref (B.2.1 5 (r) (9)), .ref (B.2.1 5 (r) (10)), .ref (B.2.1 5 (r) (11)), .ref (B.2.1 5 (r) (12)), .ref (B.2.1 5 (r) (13)), .int (zI (f 15)), .int (zI (f 16)), .ref (B.2.1 5 (r) (41)), .ref (B.2.1 5 (r) (14)), .ref (B.2.1 5 (r) (15)), .ref (B.2.1 5 (r) (16)), .ref (B.2.1 5 (r) (17)), .ref (B.2.1 5 (r) (18)), .ref (B.2.1 5 (r) (19)), .ref (B.2.1 5 (r) (20)), .int (zI (f 25)), .ref (B.2.1 5 (r) (21)), .ref (B.2.1 5 (r) (22)), .ref (B.2.1 5 (r) (23)), .ref (B.2.1 5 (r) (24)), .ref (B.2.1 5 (r) (25)), .ref (B.2.1 5 (r) (26)), .ref (B.2.1 5 (r) (27)), .int (zI (f 33)), .ref (B.2.1 5 (r) (28)), .ref (B.2.1 5 (r) (29)), .ref (B.2.1 5 (r) (30)), .ref (B.2.1 5 (r) (31)), .int (zI (f 38)), .int (zI (f 39)), .int (zI (f 40)), .int (zI (f 41)), .ref (B.2.1 5 (r) (32)), .ref (B.2.1 5 (r) (33)), .ref (B.2.1 5 (r) (42)), .ref (B.2.1 5 (r) (43)), .ref (B.2.1 5 (r) (34)), (if f 47 = 1 then .ref (B.2.1 5 r 35) else .null), .int (zI (f 48)), .int (zI (f 49)), .ref (B.2.1 5 (r) (35)), .ref (B.2.1 5 (r) (36)), .int (zI (f 52)), .ref (B.2.1 21 (r) (0)), .ref (B.2.1 5 (r) (37)), .ref (B.2.1 5 (r) (38)), .ref (B.2.1 5 (r) (39)), .ref (B.2.1 5 (r) (40))]) else if k = 1 then .inl (B.2.2.1 0, 40, .inl (fun j : Nat => zI (f (j : Int)))) else if k = 2 then .inl (B.2.2.1 0, 40, .inl (fun j : Nat => zI (f (j : Int)))) else if k = 3 then .inl (B.2.2.1 0, 40, .inl (fun j : Nat => zI (f (j : Int)))) else if k = 4 then .inl (B.2.2.1 0, 40, .inl (fun j : Nat => zI (f (j : Int)))) else if k = 5 then .inl (B.2.2.1 0, 40, .inl (fun j : Nat => zI (f (j : Int)))) else if k = 6 then .inl (B.2.2.1 0, 40, .inl (fun j : Nat => zI (f (j : Int)))) else if k = 7 then .inl (B.2.2.1 0, 40, .inl (fun j : Nat => zI (f (j : Int)))) else if k = 8 then .inl (B.2.2.1 0, 40, .inl (fun j : Nat => zI (f (j : Int)))) else if k = 9 then .inl (B.2.2.1 0, 40, .inl (fun j : Nat => zI (f (j : Int)))) else if k = 10 then .inl (B.2.2.1 0, 12, .inl (fun j : Nat => zI (f (j : Int)))) else if k = 11 then .inl (B.2.2.1 0, 12, .inl (fun j : Nat => zI (f (j : Int)))) else if k = 12 then .inl (B.2.2.1 0, 12, .inl (fun j : Nat => zI (f (j : Int)))) else if k = 13 then .inl (B.2.2.1 0, 12, .inl (fun j : Nat => zI (f (j : Int)))) else if k = 14 then .inl (B.2.2.1 0, 12, .inl (fun j : Nat => zI (f (j : Int)))) else if k = 15 then .inl (B.2.2.1 0, 12, .inl (fun j : Nat => zI (f (j : Int)))) else if k = 16 then .inl (B.2.2.1 0, 12, .inl (fun j : Nat => zI (f (j : Int)))) else if k = 17 then .inl (B.2.2.1 0, 12, .inl (fun j : Nat => zI (f (j : Int)))) else if k = 18 then .inl (B.2.2.1 0, 12, .inl (fun j : Nat => zI (f (j : Int)))) else if k = 19 then .inl (B.2.2.1 0, 12, .inl (fun j : Nat => zI (f (j : Int)))) else if k = 20 then .inl (B.2.2.1 0, 12, .inl (fun j : Nat => zI (f (j : Int)))) else if k = 21 then .inl (B.2.2.1 0, 8, .inl (fun j : Nat => zI (f (j : Int)))) else if k = 22 then .inl (B.2.2.1 0, 8, .inl (fun j : Nat => zI (f (j : Int)))) else if k = 23 then .inl (B.2.2.1 0, 8, .inl (fun j : Nat => zI (f (j : Int)))) else if k = 24 then .inl (B.2.2.1 0, 8, .inl (fun j : Nat => zI (f (j : Int)))) else if k = 25 then .inl (B.2.2.1 0, 4, .inl (fun j : Nat => zI (f (j : Int)))) else if k = 26 then .inl (B.2.2.1 0, 4, .inl (fun j : Nat => zI (f (j : Int)))) else if k = 27 then .inl (B.2.2.1 0, 4, .inl (fun j : Nat => zI (f (j : Int)))) else if k = 28 then .inl (B.2.2.1 0, 30, .inl (fun j : Nat => zI (f (j : Int)))) else if k = 29 then .inl (B.2.2.1 0, 30, .inl (fun j : Nat => zI (f (j : Int)))) else if k = 30 then .inl (B.2.2.1 0, 4, .inl (fun j : Nat => zI (f (j : Int)))) else if k = 31 then .inl (B.2.2.1 0, 3, .inl (fun j : Nat => zI (f (j : Int)))) else if k = 32 then .inl (B.2.2.1 0, 2, .inl (fun j : Nat => zI (f (j : Int)))) else if k = 33 then .inl (B.2.2.1 0, 2, .inl (fun j : Nat => zI (f (j : Int)))) else if k = 34 then .inl (B.2.2.1 0, 4, .inl (fun j : Nat => zI (f (j : Int)))) else if k = 35 then .inl (B.2.2.1 0, 121, .inl (fun j : Nat => zI (f (j : Int)))) else if k = 36 then .inl (B.2.2.1 0, 40, .inl (fun j : Nat => zI (f (j : Int)))) else if k = 37 then .inl (B.2.2.1 2, 8, .inl (fun j : Nat => zI (f (j : Int)))) else if k = 38 then .inl (B.2.2.1 0, 8, .inl (fun j : Nat => zI (f (j : Int)))) else if k = 39 then .inl (B.2.2.1 0, 40, .inl (fun j : Nat => zI (f (j : Int)))) else if k = 40 then .inl (B.2.2.1 0, 40, .inl (fun j : Nat => zI (f (j : Int)))) else if k = 41 then .inl (B.2.2.1 4, 12, .inr (.inr (.inr (.inr (fun j : Nat => some (B.2.1 6 (r) ((j : Int)))))))) else if k = 42 then .inl (B.2.2.1 4, 2, .inr (.inr (.inr (.inr (fun j : Nat => some (B.2.1 7 (r) ((j : Int)))))))) else .inl (B.2.2.1 4, 5, .inr (.inr (.inr (.inr (fun j : Nat => some (B.2.1 8 (r) ((j : Int))))))))
def zc6 (B : zB) (f : Int → Int) (r k : Int) : va_E := .inl (B.2.2.1 0, 120, .inl (fun j : Nat => zI (f (j : Int))))
def zc7 (B : zB) (f : Int → Int) (r k : Int) : va_E := .inl (B.2.2.1 0, 120, .inl (fun j : Nat => zI (f (j : Int))))
def zc8 (B : zB) (f : Int → Int) (r k : Int) : va_E := .inl (B.2.2.1 0, 401, .inl (fun j : Nat => zI (f (j : Int))))
def zc9 (B : zB) (f : Int → Int) (r k : Int) : va_E := if k = 0 then .inr (12, [.ref (B.2.1 5 (0) (0)), .ref (B.2.1 5 (1) (0)), .ref (B.2.1 5 (2) (0)), .int (zI (f 3)), .int (zI (f 4)), .ref (B.2.1 9 (r) (1)), .ref (B.2.1 9 (r) (2)), .ref (B.2.1 9 (r) (3)), .ref (B.2.1 9 (0) (4)), .ref (B.2.1 9 (0) (5)), (if f 10 = 0 then .null else .ref (B.2.1 10 (f 10 - 1) 0)), .int (zI (f 11)), .int (zI (f 12)), .int (zI (f 13)), .int (zI (f 14))]) else if k = 1 then .inl (B.2.2.1 0, 8, .inl (fun j : Nat => zI (f (j : Int)))) else if k = 2 then .inl (B.2.2.1 0, 8, .inl (fun j : Nat => zI (f (j : Int)))) else if k = 3 then .inl (B.2.2.1 0, 8, .inl (fun j : Nat => zI (f (j : Int)))) else if k = 4 then .inl (B.2.2.1 4, 8, .inr (.inr (.inr (.inr (fun j : Nat => some (B.2.1 10 ((j : Int)) (0))))))) else .inl (B.2.2.1 4, 8, .inr (.inr (.inr (.inr (fun j : Nat => some (B.2.1 11 ((j : Int)) (0)))))))
def zc10 (B : zB) (f : Int → Int) (r k : Int) : va_E := .inl (B.2.2.1 0, 120, .inl (fun j : Nat => zI (f (j : Int))))
def zc11 (B : zB) (f : Int → Int) (r k : Int) : va_E := .inl (B.2.2.1 0, 4, .inl (fun j : Nat => zI (f (j : Int))))
def zc13 (B : zB) (f : Int → Int) (r k : Int) : va_E := .inr (10, [.int (zI (f 0)), .int (zI (f 1)), .ref (B.2.1 14 (r) (k))])
def zc14 (B : zB) (f : Int → Int) (r k : Int) : va_E := .inl (B.2.2.1 0, 120, .inl (fun j : Nat => zI (f (j : Int))))
def zc20 (B : zB) (f : Int → Int) (r k : Int) : va_E := if k = 0 then .inl (B.2.2.1 1, 8, .inr (.inl (fun j : Nat => zL (f (j : Int))))) else if k = 1 then .inl (B.2.2.1 1, 8, .inr (.inl (fun j : Nat => zL (f (j : Int))))) else .inl (B.2.2.1 1, 8, .inr (.inl (fun j : Nat => zL (f (j : Int)))))
def zc21 (B : zB) (f : Int → Int) (r k : Int) : va_E := .inl (B.2.2.1 1, 8, .inr (.inl (fun j : Nat => zL (f (j : Int)))))
def zc22 (B : zB) (f : Int → Int) (r k : Int) : va_E := .inl (B.2.2.1 1, 1, .inr (.inl (fun j : Nat => zL (f (j : Int)))))
def zce (B : zB) (f : Int → Int) (g : Nat) (r k : Int) : va_E := match g with
  | 0 => zc0 B f r k
  | 1 => zc1 B f r k
  | 2 => zc2 B f r k
  | 3 => zc3 B f r k
  | 4 => zc4 B f r k
  | 5 => zc5 B f r k
  | 6 => zc6 B f r k
  | 7 => zc7 B f r k
  | 8 => zc8 B f r k
  | 9 => zc9 B f r k
  | 10 => zc10 B f r k
  | 11 => zc11 B f r k
  | 13 => zc13 B f r k
  | 14 => zc14 B f r k
  | 20 => zc20 B f r k
  | 21 => zc21 B f r k
  | _ => zc22 B f r k
def zco (B : zB) (S : Sg) (g : Nat) (r k : Int) : va_E := zce B (S g r k) g r k
def zgr (g n m : Nat) : List (Nat × Int × Int) := (List.range n).flatMap fun (r : Nat) => (List.range m).map fun (k : Nat) => (g, (r : Int), (k : Int))
def zix : List (Nat × Int × Int) := zgr 0 3 37 ++ zgr 1 12 1 ++ zgr 2 8 2 ++ zgr 3 1 22 ++ zgr 4 9 1 ++ zgr 5 3 44 ++ zgr 6 3 12 ++ zgr 7 3 2 ++ zgr 8 3 5 ++ zgr 9 1 6 ++ zgr 10 8 1 ++ zgr 11 8 1 ++ zgr 13 3 2 ++ zgr 14 3 2 ++ zgr 20 1 3 ++ zgr 21 3 1 ++ zgr 22 1 1
theorem zgr_mem {g n m : Nat} {r k : Int} (h : 0 ≤ r ∧ r < n) (h2 : 0 ≤ k ∧ k < m) : (g, r, k) ∈ zgr g n m := by
  unfold zgr
  rw [List.mem_flatMap]
  refine ⟨r.toNat, List.mem_range.mpr (by omega), ?_⟩
  rw [List.mem_map]
  refine ⟨k.toNat, List.mem_range.mpr (by omega), ?_⟩
  rw [show ((r.toNat : Nat) : Int) = r by omega, show ((k.toNat : Nat) : Int) = k by omega]
def zvd (g : Nat) (r k : Int) : Prop := (g, r, k) ∈ zix
theorem zvd_0 {r k : Int} (h : 0 ≤ r ∧ r < 3) (h2 : 0 ≤ k ∧ k < 37) : zvd 0 r k := by
  have := zgr_mem (g := 0) (n := 3) (m := 37) h h2
  simp only [zvd, zix, List.mem_append]
  simp only [this, true_or, or_true]
theorem zvd_1 {r k : Int} (h : 0 ≤ r ∧ r < 12) (h2 : 0 ≤ k ∧ k < 1) : zvd 1 r k := by
  have := zgr_mem (g := 1) (n := 12) (m := 1) h h2
  simp only [zvd, zix, List.mem_append]
  simp only [this, true_or, or_true]
theorem zvd_2 {r k : Int} (h : 0 ≤ r ∧ r < 8) (h2 : 0 ≤ k ∧ k < 2) : zvd 2 r k := by
  have := zgr_mem (g := 2) (n := 8) (m := 2) h h2
  simp only [zvd, zix, List.mem_append]
  simp only [this, true_or, or_true]
theorem zvd_3 {r k : Int} (h : 0 ≤ r ∧ r < 1) (h2 : 0 ≤ k ∧ k < 22) : zvd 3 r k := by
  have := zgr_mem (g := 3) (n := 1) (m := 22) h h2
  simp only [zvd, zix, List.mem_append]
  simp only [this, true_or, or_true]
theorem zvd_4 {r k : Int} (h : 0 ≤ r ∧ r < 9) (h2 : 0 ≤ k ∧ k < 1) : zvd 4 r k := by
  have := zgr_mem (g := 4) (n := 9) (m := 1) h h2
  simp only [zvd, zix, List.mem_append]
  simp only [this, true_or, or_true]
theorem zvd_5 {r k : Int} (h : 0 ≤ r ∧ r < 3) (h2 : 0 ≤ k ∧ k < 44) : zvd 5 r k := by
  have := zgr_mem (g := 5) (n := 3) (m := 44) h h2
  simp only [zvd, zix, List.mem_append]
  simp only [this, true_or, or_true]
theorem zvd_6 {r k : Int} (h : 0 ≤ r ∧ r < 3) (h2 : 0 ≤ k ∧ k < 12) : zvd 6 r k := by
  have := zgr_mem (g := 6) (n := 3) (m := 12) h h2
  simp only [zvd, zix, List.mem_append]
  simp only [this, true_or, or_true]
theorem zvd_7 {r k : Int} (h : 0 ≤ r ∧ r < 3) (h2 : 0 ≤ k ∧ k < 2) : zvd 7 r k := by
  have := zgr_mem (g := 7) (n := 3) (m := 2) h h2
  simp only [zvd, zix, List.mem_append]
  simp only [this, true_or, or_true]
theorem zvd_8 {r k : Int} (h : 0 ≤ r ∧ r < 3) (h2 : 0 ≤ k ∧ k < 5) : zvd 8 r k := by
  have := zgr_mem (g := 8) (n := 3) (m := 5) h h2
  simp only [zvd, zix, List.mem_append]
  simp only [this, true_or, or_true]
theorem zvd_9 {r k : Int} (h : 0 ≤ r ∧ r < 1) (h2 : 0 ≤ k ∧ k < 6) : zvd 9 r k := by
  have := zgr_mem (g := 9) (n := 1) (m := 6) h h2
  simp only [zvd, zix, List.mem_append]
  simp only [this, true_or, or_true]
theorem zvd_10 {r k : Int} (h : 0 ≤ r ∧ r < 8) (h2 : 0 ≤ k ∧ k < 1) : zvd 10 r k := by
  have := zgr_mem (g := 10) (n := 8) (m := 1) h h2
  simp only [zvd, zix, List.mem_append]
  simp only [this, true_or, or_true]
theorem zvd_11 {r k : Int} (h : 0 ≤ r ∧ r < 8) (h2 : 0 ≤ k ∧ k < 1) : zvd 11 r k := by
  have := zgr_mem (g := 11) (n := 8) (m := 1) h h2
  simp only [zvd, zix, List.mem_append]
  simp only [this, true_or, or_true]
theorem zvd_13 {r k : Int} (h : 0 ≤ r ∧ r < 3) (h2 : 0 ≤ k ∧ k < 2) : zvd 13 r k := by
  have := zgr_mem (g := 13) (n := 3) (m := 2) h h2
  simp only [zvd, zix, List.mem_append]
  simp only [this, true_or, or_true]
theorem zvd_14 {r k : Int} (h : 0 ≤ r ∧ r < 3) (h2 : 0 ≤ k ∧ k < 2) : zvd 14 r k := by
  have := zgr_mem (g := 14) (n := 3) (m := 2) h h2
  simp only [zvd, zix, List.mem_append]
  simp only [this, true_or, or_true]
theorem zvd_20 {r k : Int} (h : 0 ≤ r ∧ r < 1) (h2 : 0 ≤ k ∧ k < 3) : zvd 20 r k := by
  have := zgr_mem (g := 20) (n := 1) (m := 3) h h2
  simp only [zvd, zix, List.mem_append]
  simp only [this, true_or, or_true]
theorem zvd_21 {r k : Int} (h : 0 ≤ r ∧ r < 3) (h2 : 0 ≤ k ∧ k < 1) : zvd 21 r k := by
  have := zgr_mem (g := 21) (n := 3) (m := 1) h h2
  simp only [zvd, zix, List.mem_append]
  simp only [this, true_or, or_true]
theorem zvd_22 {r k : Int} (h : 0 ≤ r ∧ r < 1) (h2 : 0 ≤ k ∧ k < 1) : zvd 22 r k := by
  have := zgr_mem (g := 22) (n := 1) (m := 1) h h2
  simp only [zvd, zix, List.mem_append]
  simp only [this, true_or, or_true]
def zok (g : Nat) (x : Int) : Prop := if 20 ≤ g then zm x else zn x
def zws (B : zB) (S : Sg) : va_W := zix.map (fun q => (B.2.1 q.1 q.2.1 q.2.2, zco B S q.1 q.2.1 q.2.2))
def zW (B : zB) (S : Sg) (H : Heap) : Prop := va_P B.1 zcl (zws B S) H ∧ ∀ (g : Nat) (r k i : Int), zok g (S g r k i)
def zAp (B : zB) : Prop := (∀ S : Sg, va_D B.2.2.2 (zws B S)) ∧ zix.Nodup
def zty (B : zB) : List (ClassId × FieldType) := [(B.2.2.1 0, .int), (B.2.2.1 1, .long), (B.2.2.1 2, .boolean), (B.2.2.1 3, .object "IslandOffice$Shelf"), (B.2.2.1 4, .array .int)]
def zK (B : zB) (U : State) : Prop := va_K B.1 zcl (zty B) U
def zA (B : zB) : Nat → Prop := B.2.2.2
