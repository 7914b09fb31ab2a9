def wsC (a : Nat → Nat → Nat → Nat) (Y : Nat → ClassId) : va_W := [((a 7 0 0), .inr (7, [.ref (a 3 0 0), .ref (a 0 0 0), .ref (a 1 0 0), .ref (a 1 1 0), .ref (a 2 0 0), .ref (a 4 0 0), .ref (a 5 0 0), .int 0, .int 0, .int 0, .int 0])), ((a 3 0 0), .inr (3, [.ref (a 3 0 1), .int 0])), ((a 3 0 1), .inl (Y 2, 22, .inl z0A)), ((a 0 0 0), .inr (0, [.int 0, .int 0, .int 0, .ref (a 0 0 4), .int (-1)])), ((a 0 0 4), .inl (Y 0, 15, .inl z0A)), ((a 1 0 0), .inr (1, [.ref (a 6 0 0), .int 0, .int (-1), .int 0, .int (-1), .int 0, .ref (a 1 0 7)])), ((a 1 0 7), .inl (Y 0, 6, .inl z0A)), ((a 6 0 0), .inr (6, [.ref (a 0 0 0), .int 0, .ref (a 6 0 3), .ref (a 6 0 4), .ref (a 6 0 5), .ref (a 6 0 6), .ref (a 6 0 7), .ref (a 6 0 8)])), ((a 6 0 3), .inl (Y 0, 6, .inl z0A)), ((a 6 0 4), .inl (Y 0, 6, .inl z0A)), ((a 6 0 5), .inl (Y 0, 6, .inl z0A)), ((a 6 0 6), .inl (Y 0, 6, .inl z0A)), ((a 6 0 7), .inl (Y 1, 6, .inl z0A)), ((a 6 0 8), .inl (Y 0, 2, .inl z0A)), ((a 1 1 0), .inr (1, [.ref (a 6 1 0), .int 0, .int (-1), .int 0, .int (-1), .int 0, .ref (a 1 1 7)])), ((a 1 1 7), .inl (Y 0, 6, .inl z0A)), ((a 6 1 0), .inr (6, [.ref (a 0 0 0), .int 0, .ref (a 6 1 3), .ref (a 6 1 4), .ref (a 6 1 5), .ref (a 6 1 6), .ref (a 6 1 7), .ref (a 6 1 8)])), ((a 6 1 3), .inl (Y 0, 6, .inl z0A)), ((a 6 1 4), .inl (Y 0, 6, .inl z0A)), ((a 6 1 5), .inl (Y 0, 6, .inl z0A)), ((a 6 1 6), .inl (Y 0, 6, .inl z0A)), ((a 6 1 7), .inl (Y 1, 6, .inl z0A)), ((a 6 1 8), .inl (Y 0, 2, .inl z0A)), ((a 2 0 0), .inr (2, [.ref (a 2 0 1), .ref (a 2 0 2), .int 0, .int 1])), ((a 2 0 1), .inl (Y 0, 64, .inl z0A)), ((a 2 0 2), .inl (Y 0, 64, .inl z0A)), ((a 4 0 0), .inr (4, [.ref (a 4 0 1), .int 0, .int 0, .int 1, .int (-1)])), ((a 4 0 1), .inl (Y 4, 3, .inr (.inr (.inr (.inr (va_up (va_up (va_up (fun _ => none) 0 (some (a 6 2 0))) 1 (some (a 6 3 0))) 2 (some (a 6 4 0)))))))), ((a 6 2 0), .inr (6, [.ref (a 0 0 0), .int 0, .ref (a 6 2 3), .ref (a 6 2 4), .ref (a 6 2 5), .ref (a 6 2 6), .ref (a 6 2 7), .ref (a 6 2 8)])), ((a 6 2 3), .inl (Y 0, 6, .inl z0A)), ((a 6 2 4), .inl (Y 0, 6, .inl z0A)), ((a 6 2 5), .inl (Y 0, 6, .inl z0A)), ((a 6 2 6), .inl (Y 0, 6, .inl z0A)), ((a 6 2 7), .inl (Y 1, 6, .inl z0A)), ((a 6 2 8), .inl (Y 0, 2, .inl z0A)), ((a 6 3 0), .inr (6, [.ref (a 0 0 0), .int 0, .ref (a 6 3 3), .ref (a 6 3 4), .ref (a 6 3 5), .ref (a 6 3 6), .ref (a 6 3 7), .ref (a 6 3 8)])), ((a 6 3 3), .inl (Y 0, 6, .inl z0A)), ((a 6 3 4), .inl (Y 0, 6, .inl z0A)), ((a 6 3 5), .inl (Y 0, 6, .inl z0A)), ((a 6 3 6), .inl (Y 0, 6, .inl z0A)), ((a 6 3 7), .inl (Y 1, 6, .inl z0A)), ((a 6 3 8), .inl (Y 0, 2, .inl z0A)), ((a 6 4 0), .inr (6, [.ref (a 0 0 0), .int 0, .ref (a 6 4 3), .ref (a 6 4 4), .ref (a 6 4 5), .ref (a 6 4 6), .ref (a 6 4 7), .ref (a 6 4 8)])), ((a 6 4 3), .inl (Y 0, 6, .inl z0A)), ((a 6 4 4), .inl (Y 0, 6, .inl z0A)), ((a 6 4 5), .inl (Y 0, 6, .inl z0A)), ((a 6 4 6), .inl (Y 0, 6, .inl z0A)), ((a 6 4 7), .inl (Y 1, 6, .inl z0A)), ((a 6 4 8), .inl (Y 0, 2, .inl z0A)), ((a 5 0 0), .inr (5, [.ref (a 6 5 0), .int 0, .int 0])), ((a 6 5 0), .inr (6, [.ref (a 0 0 0), .int 0, .ref (a 6 5 3), .ref (a 6 5 4), .ref (a 6 5 5), .ref (a 6 5 6), .ref (a 6 5 7), .ref (a 6 5 8)])), ((a 6 5 3), .inl (Y 0, 6, .inl z0A)), ((a 6 5 4), .inl (Y 0, 6, .inl z0A)), ((a 6 5 5), .inl (Y 0, 6, .inl z0A)), ((a 6 5 6), .inl (Y 0, 6, .inl z0A)), ((a 6 5 7), .inl (Y 1, 6, .inl z0A)), ((a 6 5 8), .inl (Y 0, 2, .inl z0A)), ((a 8 0 0), .inr (8, [.int 0, .int 0, .int 0, .int 0, .ref (a 8 0 5), .ref (a 8 0 6), .int 0, .int 0, .int 0, .int 0, .int 0, .int 0, .int (-1), .int 0, .int (-1), .int 0, .ref (a 8 0 17), .int 0, .int 0, .int 0, .ref (a 8 0 21), .int 0, .ref (a 8 0 23), .ref (a 8 0 24), .int 0, .int 0, .ref (a 8 0 27), .ref (a 8 0 28), .long 0, .int 0, .int 0, .int 0, .int 0, .int 0, .int 0, .int 0, .int 0, .ref (a 8 0 38), .ref (a 8 0 39), .ref (a 8 0 40), .long 0])), ((a 8 0 5), .inl (Y 0, 6, .inl z0A)), ((a 8 0 6), .inl (Y 0, 6, .inl z0A)), ((a 8 0 17), .inl (Y 0, 6, .inl z0A)), ((a 8 0 21), .inl (Y 3, 22, .inl z0A)), ((a 8 0 23), .inl (Y 0, 15, .inl z0A)), ((a 8 0 24), .inl (Y 0, 20, .inl z0A)), ((a 8 0 27), .inl (Y 0, 64, .inl z0A)), ((a 8 0 28), .inl (Y 0, 64, .inl z0A)), ((a 8 0 38), .inl (Y 0, 5, .inl z0A)), ((a 8 0 39), .inl (Y 0, 6, .inl z0A)), ((a 8 0 40), .inl (Y 0, 6, .inl z0A))]
def wsA (a : Nat → Nat → Nat → Nat) (Y : Nat → ClassId) : va_W := [((a 0 0 0), .inr (0, [.int 0, .int 0, .int 0, .ref (a 0 0 4), .int (-1)])), ((a 0 0 4), .inl (Y 0, 15, .inl z0A)), ((a 1 0 0), .inr (1, [.ref (a 6 0 0), .int 0, .int (-1), .int 0, .int (-1), .int 0, .ref (a 1 0 7)])), ((a 1 0 7), .inl (Y 0, 6, .inl z0A)), ((a 1 1 0), .inr (1, [.ref (a 6 1 0), .int 0, .int (-1), .int 0, .int (-1), .int 0, .ref (a 1 1 7)])), ((a 1 1 7), .inl (Y 0, 6, .inl z0A)), ((a 2 0 0), .inr (2, [.ref (a 2 0 1), .ref (a 2 0 2), .int 0, .int 1])), ((a 2 0 1), .inl (Y 0, 64, .inl z0A)), ((a 2 0 2), .inl (Y 0, 64, .inl z0A)), ((a 3 0 0), .inr (3, [.ref (a 3 0 1), .int 0])), ((a 3 0 1), .inl (Y 2, 22, .inl z0A)), ((a 4 0 0), .inr (4, [.ref (a 4 0 1), .int 0, .int 0, .int 1, .int (-1)])), ((a 4 0 1), .inl (Y 4, 3, .inr (.inr (.inr (.inr (va_up (va_up (va_up (fun _ => none) 0 (some (a 6 2 0))) 1 (some (a 6 3 0))) 2 (some (a 6 4 0)))))))), ((a 5 0 0), .inr (5, [.ref (a 6 5 0), .int 0, .int 0])), ((a 6 0 0), .inr (6, [.ref (a 0 0 0), .int 0, .ref (a 6 0 3), .ref (a 6 0 4), .ref (a 6 0 5), .ref (a 6 0 6), .ref (a 6 0 7), .ref (a 6 0 8)])), ((a 6 0 3), .inl (Y 0, 6, .inl z0A)), ((a 6 0 4), .inl (Y 0, 6, .inl z0A)), ((a 6 0 5), .inl (Y 0, 6, .inl z0A)), ((a 6 0 6), .inl (Y 0, 6, .inl z0A)), ((a 6 0 7), .inl (Y 1, 6, .inl z0A)), ((a 6 0 8), .inl (Y 0, 2, .inl z0A)), ((a 6 1 0), .inr (6, [.ref (a 0 0 0), .int 0, .ref (a 6 1 3), .ref (a 6 1 4), .ref (a 6 1 5), .ref (a 6 1 6), .ref (a 6 1 7), .ref (a 6 1 8)])), ((a 6 1 3), .inl (Y 0, 6, .inl z0A)), ((a 6 1 4), .inl (Y 0, 6, .inl z0A)), ((a 6 1 5), .inl (Y 0, 6, .inl z0A)), ((a 6 1 6), .inl (Y 0, 6, .inl z0A)), ((a 6 1 7), .inl (Y 1, 6, .inl z0A)), ((a 6 1 8), .inl (Y 0, 2, .inl z0A)), ((a 6 2 0), .inr (6, [.ref (a 0 0 0), .int 0, .ref (a 6 2 3), .ref (a 6 2 4), .ref (a 6 2 5), .ref (a 6 2 6), .ref (a 6 2 7), .ref (a 6 2 8)])), ((a 6 2 3), .inl (Y 0, 6, .inl z0A)), ((a 6 2 4), .inl (Y 0, 6, .inl z0A)), ((a 6 2 5), .inl (Y 0, 6, .inl z0A)), ((a 6 2 6), .inl (Y 0, 6, .inl z0A)), ((a 6 2 7), .inl (Y 1, 6, .inl z0A)), ((a 6 2 8), .inl (Y 0, 2, .inl z0A)), ((a 6 3 0), .inr (6, [.ref (a 0 0 0), .int 0, .ref (a 6 3 3), .ref (a 6 3 4), .ref (a 6 3 5), .ref (a 6 3 6), .ref (a 6 3 7), .ref (a 6 3 8)])), ((a 6 3 3), .inl (Y 0, 6, .inl z0A)), ((a 6 3 4), .inl (Y 0, 6, .inl z0A)), ((a 6 3 5), .inl (Y 0, 6, .inl z0A)), ((a 6 3 6), .inl (Y 0, 6, .inl z0A)), ((a 6 3 7), .inl (Y 1, 6, .inl z0A)), ((a 6 3 8), .inl (Y 0, 2, .inl z0A)), ((a 6 4 0), .inr (6, [.ref (a 0 0 0), .int 0, .ref (a 6 4 3), .ref (a 6 4 4), .ref (a 6 4 5), .ref (a 6 4 6), .ref (a 6 4 7), .ref (a 6 4 8)])), ((a 6 4 3), .inl (Y 0, 6, .inl z0A)), ((a 6 4 4), .inl (Y 0, 6, .inl z0A)), ((a 6 4 5), .inl (Y 0, 6, .inl z0A)), ((a 6 4 6), .inl (Y 0, 6, .inl z0A)), ((a 6 4 7), .inl (Y 1, 6, .inl z0A)), ((a 6 4 8), .inl (Y 0, 2, .inl z0A)), ((a 6 5 0), .inr (6, [.ref (a 0 0 0), .int 0, .ref (a 6 5 3), .ref (a 6 5 4), .ref (a 6 5 5), .ref (a 6 5 6), .ref (a 6 5 7), .ref (a 6 5 8)])), ((a 6 5 3), .inl (Y 0, 6, .inl z0A)), ((a 6 5 4), .inl (Y 0, 6, .inl z0A)), ((a 6 5 5), .inl (Y 0, 6, .inl z0A)), ((a 6 5 6), .inl (Y 0, 6, .inl z0A)), ((a 6 5 7), .inl (Y 1, 6, .inl z0A)), ((a 6 5 8), .inl (Y 0, 2, .inl z0A)), ((a 7 0 0), .inr (7, [.ref (a 3 0 0), .ref (a 0 0 0), .ref (a 1 0 0), .ref (a 1 1 0), .ref (a 2 0 0), .ref (a 4 0 0), .ref (a 5 0 0), .int 0, .int 0, .int 0, .int 0])), ((a 8 0 0), .inr (8, [.int 0, .int 0, .int 0, .int 0, .ref (a 8 0 5), .ref (a 8 0 6), .int 0, .int 0, .int 0, .int 0, .int 0, .int 0, .int (-1), .int 0, .int (-1), .int 0, .ref (a 8 0 17), .int 0, .int 0, .int 0, .ref (a 8 0 21), .int 0, .ref (a 8 0 23), .ref (a 8 0 24), .int 0, .int 0, .ref (a 8 0 27), .ref (a 8 0 28), .long 0, .int 0, .int 0, .int 0, .int 0, .int 0, .int 0, .int 0, .int 0, .ref (a 8 0 38), .ref (a 8 0 39), .ref (a 8 0 40), .long 0])), ((a 8 0 5), .inl (Y 0, 6, .inl z0A)), ((a 8 0 6), .inl (Y 0, 6, .inl z0A)), ((a 8 0 17), .inl (Y 0, 6, .inl z0A)), ((a 8 0 21), .inl (Y 3, 22, .inl z0A)), ((a 8 0 23), .inl (Y 0, 15, .inl z0A)), ((a 8 0 24), .inl (Y 0, 20, .inl z0A)), ((a 8 0 27), .inl (Y 0, 64, .inl z0A)), ((a 8 0 28), .inl (Y 0, 64, .inl z0A)), ((a 8 0 38), .inl (Y 0, 5, .inl z0A)), ((a 8 0 39), .inl (Y 0, 6, .inl z0A)), ((a 8 0 40), .inl (Y 0, 6, .inl z0A))]
def wsB (a : Nat → Nat → Nat → Nat) (Y : Nat → ClassId) : va_W := [((a 0 0 0), .inr (0, [.int 0, .int 0, .int 0, .ref (a 0 0 4), .int (-1)])), ((a 0 0 4), .inl (Y 0, 15, .inl z0A)), ((a 1 0 0), .inr (1, [.ref (a 6 0 0), .int 0, .int (-1), .int 0, .int (-1), .int 0, .ref (a 1 0 7)])), ((a 1 0 7), .inl (Y 0, 6, .inl z0A)), ((a 1 1 0), .inr (1, [.ref (a 6 1 0), .int 0, .int (-1), .int 0, .int (-1), .int 0, .ref (a 1 1 7)])), ((a 1 1 7), .inl (Y 0, 6, .inl z0A)), ((a 2 0 0), .inr (2, [.ref (a 2 0 1), .ref (a 2 0 2), .int 0, .int 1])), ((a 2 0 1), .inl (Y 0, 64, .inl z0A)), ((a 2 0 2), .inl (Y 0, 64, .inl z0A)), ((a 3 0 0), .inr (3, [.ref (a 3 0 1), .int 0])), ((a 3 0 1), .inl (Y 2, 22, .inl z0A)), ((a 4 0 0), .inr (4, [.ref (a 4 0 1), .int 0, .int 0, .int 1, .int (-1)])), ((a 4 0 1), .inl (Y 4, 3, .inr (.inr (.inr (.inr fun j => some (a 6 (2 + j) 0)))))), ((a 5 0 0), .inr (5, [.ref (a 6 5 0), .int 0, .int 0])), ((a 6 0 0), .inr (6, [.ref (a 0 0 0), .int 0, .ref (a 6 0 3), .ref (a 6 0 4), .ref (a 6 0 5), .ref (a 6 0 6), .ref (a 6 0 7), .ref (a 6 0 8)])), ((a 6 0 3), .inl (Y 0, 6, .inl z0A)), ((a 6 0 4), .inl (Y 0, 6, .inl z0A)), ((a 6 0 5), .inl (Y 0, 6, .inl z0A)), ((a 6 0 6), .inl (Y 0, 6, .inl z0A)), ((a 6 0 7), .inl (Y 1, 6, .inl z0A)), ((a 6 0 8), .inl (Y 0, 2, .inl z0A)), ((a 6 1 0), .inr (6, [.ref (a 0 0 0), .int 0, .ref (a 6 1 3), .ref (a 6 1 4), .ref (a 6 1 5), .ref (a 6 1 6), .ref (a 6 1 7), .ref (a 6 1 8)])), ((a 6 1 3), .inl (Y 0, 6, .inl z0A)), ((a 6 1 4), .inl (Y 0, 6, .inl z0A)), ((a 6 1 5), .inl (Y 0, 6, .inl z0A)), ((a 6 1 6), .inl (Y 0, 6, .inl z0A)), ((a 6 1 7), .inl (Y 1, 6, .inl z0A)), ((a 6 1 8), .inl (Y 0, 2, .inl z0A)), ((a 6 2 0), .inr (6, [.ref (a 0 0 0), .int 0, .ref (a 6 2 3), .ref (a 6 2 4), .ref (a 6 2 5), .ref (a 6 2 6), .ref (a 6 2 7), .ref (a 6 2 8)])), ((a 6 2 3), .inl (Y 0, 6, .inl z0A)), ((a 6 2 4), .inl (Y 0, 6, .inl z0A)), ((a 6 2 5), .inl (Y 0, 6, .inl z0A)), ((a 6 2 6), .inl (Y 0, 6, .inl z0A)), ((a 6 2 7), .inl (Y 1, 6, .inl z0A)), ((a 6 2 8), .inl (Y 0, 2, .inl z0A)), ((a 6 3 0), .inr (6, [.ref (a 0 0 0), .int 0, .ref (a 6 3 3), .ref (a 6 3 4), .ref (a 6 3 5), .ref (a 6 3 6), .ref (a 6 3 7), .ref (a 6 3 8)])), ((a 6 3 3), .inl (Y 0, 6, .inl z0A)), ((a 6 3 4), .inl (Y 0, 6, .inl z0A)), ((a 6 3 5), .inl (Y 0, 6, .inl z0A)), ((a 6 3 6), .inl (Y 0, 6, .inl z0A)), ((a 6 3 7), .inl (Y 1, 6, .inl z0A)), ((a 6 3 8), .inl (Y 0, 2, .inl z0A)), ((a 6 4 0), .inr (6, [.ref (a 0 0 0), .int 0, .ref (a 6 4 3), .ref (a 6 4 4), .ref (a 6 4 5), .ref (a 6 4 6), .ref (a 6 4 7), .ref (a 6 4 8)])), ((a 6 4 3), .inl (Y 0, 6, .inl z0A)), ((a 6 4 4), .inl (Y 0, 6, .inl z0A)), ((a 6 4 5), .inl (Y 0, 6, .inl z0A)), ((a 6 4 6), .inl (Y 0, 6, .inl z0A)), ((a 6 4 7), .inl (Y 1, 6, .inl z0A)), ((a 6 4 8), .inl (Y 0, 2, .inl z0A)), ((a 6 5 0), .inr (6, [.ref (a 0 0 0), .int 0, .ref (a 6 5 3), .ref (a 6 5 4), .ref (a 6 5 5), .ref (a 6 5 6), .ref (a 6 5 7), .ref (a 6 5 8)])), ((a 6 5 3), .inl (Y 0, 6, .inl z0A)), ((a 6 5 4), .inl (Y 0, 6, .inl z0A)), ((a 6 5 5), .inl (Y 0, 6, .inl z0A)), ((a 6 5 6), .inl (Y 0, 6, .inl z0A)), ((a 6 5 7), .inl (Y 1, 6, .inl z0A)), ((a 6 5 8), .inl (Y 0, 2, .inl z0A)), ((a 7 0 0), .inr (7, [.ref (a 3 0 0), .ref (a 0 0 0), .ref (a 1 0 0), .ref (a 1 1 0), .ref (a 2 0 0), .ref (a 4 0 0), .ref (a 5 0 0), .int 0, .int 0, .int 0, .int 0])), ((a 8 0 0), .inr (8, [.int 0, .int 0, .int 0, .int 0, .ref (a 8 0 5), .ref (a 8 0 6), .int 0, .int 0, .int 0, .int 0, .int 0, .int 0, .int (-1), .int 0, .int (-1), .int 0, .ref (a 8 0 17), .int 0, .int 0, .int 0, .ref (a 8 0 21), .int 0, .ref (a 8 0 23), .ref (a 8 0 24), .int 0, .int 0, .ref (a 8 0 27), .ref (a 8 0 28), .long 0, .int 0, .int 0, .int 0, .int 0, .int 0, .int 0, .int 0, .int 0, .ref (a 8 0 38), .ref (a 8 0 39), .ref (a 8 0 40), .long 0])), ((a 8 0 5), .inl (Y 0, 6, .inl z0A)), ((a 8 0 6), .inl (Y 0, 6, .inl z0A)), ((a 8 0 17), .inl (Y 0, 6, .inl z0A)), ((a 8 0 21), .inl (Y 3, 22, .inl z0A)), ((a 8 0 23), .inl (Y 0, 15, .inl z0A)), ((a 8 0 24), .inl (Y 0, 20, .inl z0A)), ((a 8 0 27), .inl (Y 0, 64, .inl z0A)), ((a 8 0 28), .inl (Y 0, 64, .inl z0A)), ((a 8 0 38), .inl (Y 0, 5, .inl z0A)), ((a 8 0 39), .inl (Y 0, 6, .inl z0A)), ((a 8 0 40), .inl (Y 0, 6, .inl z0A))]
def kk0 (a : Nat → Nat → Nat → Nat) (D : va_G) (Y : Nat → ClassId) (L : Nat) (xs : Nat → Int32) : KK := (a, D.1, D.2, Y, L, xs)
theorem mu0_ar {c i s : Nat} (h : s ≠ 0) : mu0 c i s = z0A := by
  funext j
  simp [mu0, h, z0A]
theorem mkL00 : mkL 0 0 = 0 := by decide
section
variable {a : Nat → Nat → Nat → Nat} {D : va_G} {Y : Nat → ClassId} {L : Nat} {xs : Nat → Int32}
theorem ea {c i s t n : Nat} (hs : s ≠ 0) (h : aI c s = (t, n)) (h4 : t ≠ 4) : ent (kk0 a D Y L xs) mu0 (c, i, s) = .inl (Y t, n, .inl z0A) := by
  unfold ent
  have h1 : (aI c s).1 = t := by rw [h]
  have h2 : (aI c s).2 = n := by rw [h]
  show (if s = 0 then _ else if (aI c s).1 = 4 then _ else _) = _
  rw [if_neg hs, h1, if_neg h4, h2, mu0_ar hs]
  rfl
theorem eo_0 : ent (kk0 a D Y L xs) mu0 (0, 0, 0) = .inr (0, [.int 0, .int 0, .int 0, .ref (a 0 0 4), .int (-1)]) := by
  show Sum.inr (0, [cz (kk0 a D Y L xs) (rd mu0 0 0 0), cz (kk0 a D Y L xs) (rd mu0 0 0 1), cz (kk0 a D Y L xs) (rd mu0 0 0 2), cz (kk0 a D Y L xs) (rd mu0 0 0 3), cz (kk0 a D Y L xs) (rd mu0 0 0 4)]) = _
  rfl
theorem eo_1 (i : Nat) : ent (kk0 a D Y L xs) mu0 (1, i, 0) = .inr (1, [.ref (a 6 i 0), .int 0, .int (-1), .int 0, .int (-1), .int 0, .ref (a 1 i 7)]) := by
  show Sum.inr (1, [cz (kk0 a D Y L xs) (rd mu0 1 i 0), cz (kk0 a D Y L xs) (rd mu0 1 i 1), cz (kk0 a D Y L xs) (rd mu0 1 i 2), cz (kk0 a D Y L xs) (rd mu0 1 i 3), cz (kk0 a D Y L xs) (rd mu0 1 i 4), cz (kk0 a D Y L xs) (rd mu0 1 i 5), cz (kk0 a D Y L xs) (rd mu0 1 i 6)]) = _
  rfl
theorem eo_2 : ent (kk0 a D Y L xs) mu0 (2, 0, 0) = .inr (2, [.ref (a 2 0 1), .ref (a 2 0 2), .int 0, .int 1]) := by
  show Sum.inr (2, [cz (kk0 a D Y L xs) (rd mu0 2 0 0), cz (kk0 a D Y L xs) (rd mu0 2 0 1), cz (kk0 a D Y L xs) (rd mu0 2 0 2), cz (kk0 a D Y L xs) (rd mu0 2 0 3)]) = _
  rfl
theorem eo_3 : ent (kk0 a D Y L xs) mu0 (3, 0, 0) = .inr (3, [.ref (a 3 0 1), .int 0]) := by
  show Sum.inr (3, [cz (kk0 a D Y L xs) (rd mu0 3 0 0), cz (kk0 a D Y L xs) (rd mu0 3 0 1)]) = _
  rfl
theorem eo_4 : ent (kk0 a D Y L xs) mu0 (4, 0, 0) = .inr (4, [.ref (a 4 0 1), .int 0, .int 0, .int 1, .int (-1)]) := by
  show Sum.inr (4, [cz (kk0 a D Y L xs) (rd mu0 4 0 0), cz (kk0 a D Y L xs) (rd mu0 4 0 1), cz (kk0 a D Y L xs) (rd mu0 4 0 2), cz (kk0 a D Y L xs) (rd mu0 4 0 3), cz (kk0 a D Y L xs) (rd mu0 4 0 4)]) = _
  rfl
theorem eo_5 : ent (kk0 a D Y L xs) mu0 (5, 0, 0) = .inr (5, [.ref (a 6 5 0), .int 0, .int 0]) := by
  show Sum.inr (5, [cz (kk0 a D Y L xs) (rd mu0 5 0 0), cz (kk0 a D Y L xs) (rd mu0 5 0 1), cz (kk0 a D Y L xs) (rd mu0 5 0 2)]) = _
  rfl
theorem eo_6 (i : Nat) : ent (kk0 a D Y L xs) mu0 (6, i, 0) = .inr (6, [.ref (a 0 0 0), .int 0, .ref (a 6 i 3), .ref (a 6 i 4), .ref (a 6 i 5), .ref (a 6 i 6), .ref (a 6 i 7), .ref (a 6 i 8)]) := by
  show Sum.inr (6, [cz (kk0 a D Y L xs) (rd mu0 6 i 0), cz (kk0 a D Y L xs) (rd mu0 6 i 1), cz (kk0 a D Y L xs) (rd mu0 6 i 2), cz (kk0 a D Y L xs) (rd mu0 6 i 3), cz (kk0 a D Y L xs) (rd mu0 6 i 4), cz (kk0 a D Y L xs) (rd mu0 6 i 5), cz (kk0 a D Y L xs) (rd mu0 6 i 6), cz (kk0 a D Y L xs) (rd mu0 6 i 7)]) = _
  rfl
theorem eo_7 : ent (kk0 a D Y L xs) mu0 (7, 0, 0) = .inr (7, [.ref (a 3 0 0), .ref (a 0 0 0), .ref (a 1 0 0), .ref (a 1 1 0), .ref (a 2 0 0), .ref (a 4 0 0), .ref (a 5 0 0), .int 0, .int 0, .int 0, .int 0]) := by
  show Sum.inr (7, [cz (kk0 a D Y L xs) (rd mu0 7 0 0), cz (kk0 a D Y L xs) (rd mu0 7 0 1), cz (kk0 a D Y L xs) (rd mu0 7 0 2), cz (kk0 a D Y L xs) (rd mu0 7 0 3), cz (kk0 a D Y L xs) (rd mu0 7 0 4), cz (kk0 a D Y L xs) (rd mu0 7 0 5), cz (kk0 a D Y L xs) (rd mu0 7 0 6), cz (kk0 a D Y L xs) (rd mu0 7 0 7), cz (kk0 a D Y L xs) (rd mu0 7 0 8), cz (kk0 a D Y L xs) (rd mu0 7 0 9), cz (kk0 a D Y L xs) (rd mu0 7 0 10)]) = _
  rfl
theorem eo_8 : ent (kk0 a D Y L xs) mu0 (8, 0, 0) = .inr (8, [.int 0, .int 0, .int 0, .int 0, .ref (a 8 0 5), .ref (a 8 0 6), .int 0, .int 0, .int 0, .int 0, .int 0, .int 0, .int (-1), .int 0, .int (-1), .int 0, .ref (a 8 0 17), .int 0, .int 0, .int 0, .ref (a 8 0 21), .int 0, .ref (a 8 0 23), .ref (a 8 0 24), .int 0, .int 0, .ref (a 8 0 27), .ref (a 8 0 28), .long 0, .int 0, .int 0, .int 0, .int 0, .int 0, .int 0, .int 0, .int 0, .ref (a 8 0 38), .ref (a 8 0 39), .ref (a 8 0 40), .long 0]) := by
  show Sum.inr (8, [cz (kk0 a D Y L xs) (rd mu0 8 0 0), cz (kk0 a D Y L xs) (rd mu0 8 0 1), cz (kk0 a D Y L xs) (rd mu0 8 0 2), cz (kk0 a D Y L xs) (rd mu0 8 0 3), cz (kk0 a D Y L xs) (rd mu0 8 0 4), cz (kk0 a D Y L xs) (rd mu0 8 0 5), cz (kk0 a D Y L xs) (rd mu0 8 0 6), cz (kk0 a D Y L xs) (rd mu0 8 0 7), cz (kk0 a D Y L xs) (rd mu0 8 0 8), cz (kk0 a D Y L xs) (rd mu0 8 0 9), cz (kk0 a D Y L xs) (rd mu0 8 0 10), cz (kk0 a D Y L xs) (rd mu0 8 0 11), cz (kk0 a D Y L xs) (rd mu0 8 0 12), cz (kk0 a D Y L xs) (rd mu0 8 0 13), cz (kk0 a D Y L xs) (rd mu0 8 0 14), cz (kk0 a D Y L xs) (rd mu0 8 0 15), cz (kk0 a D Y L xs) (rd mu0 8 0 16), cz (kk0 a D Y L xs) (rd mu0 8 0 17), cz (kk0 a D Y L xs) (rd mu0 8 0 18), cz (kk0 a D Y L xs) (rd mu0 8 0 19), cz (kk0 a D Y L xs) (rd mu0 8 0 20), cz (kk0 a D Y L xs) (rd mu0 8 0 21), cz (kk0 a D Y L xs) (rd mu0 8 0 22), cz (kk0 a D Y L xs) (rd mu0 8 0 23), cz (kk0 a D Y L xs) (rd mu0 8 0 24), cz (kk0 a D Y L xs) (rd mu0 8 0 25), cz (kk0 a D Y L xs) (rd mu0 8 0 26), cz (kk0 a D Y L xs) (rd mu0 8 0 27), cz (kk0 a D Y L xs) (rd mu0 8 0 28), cz (kk0 a D Y L xs) (rd mu0 8 0 29), cz (kk0 a D Y L xs) (rd mu0 8 0 30), cz (kk0 a D Y L xs) (rd mu0 8 0 31), cz (kk0 a D Y L xs) (rd mu0 8 0 32), cz (kk0 a D Y L xs) (rd mu0 8 0 33), cz (kk0 a D Y L xs) (rd mu0 8 0 34), cz (kk0 a D Y L xs) (rd mu0 8 0 35), cz (kk0 a D Y L xs) (rd mu0 8 0 36), cz (kk0 a D Y L xs) (rd mu0 8 0 37), cz (kk0 a D Y L xs) (rd mu0 8 0 38), cz (kk0 a D Y L xs) (rd mu0 8 0 39), cz (kk0 a D Y L xs) (rd mu0 8 0 40)]) = _
  rw [rd_8_28, rd_8_40, show mu0 8 0 0 28 = 0 from rfl, show mu0 8 0 99 28 = 0 from rfl, show mu0 8 0 0 40 = 0 from rfl, show mu0 8 0 99 40 = 0 from rfl, mkL00]
  rfl
theorem ec : ent (kk0 a D Y L xs) mu0 (4, 0, 1) = .inl (Y 4, 3, .inr (.inr (.inr (.inr fun j => some (a 6 (2 + j) 0))))) := rfl
theorem wr_eq : wrld (kk0 a D Y L xs) mu0 = wsB a Y := by
  show [(a 0 0 0, ent (kk0 a D Y L xs) mu0 (0, 0, 0)), (a 0 0 4, ent (kk0 a D Y L xs) mu0 (0, 0, 4)), (a 1 0 0, ent (kk0 a D Y L xs) mu0 (1, 0, 0)), (a 1 0 7, ent (kk0 a D Y L xs) mu0 (1, 0, 7)), (a 1 1 0, ent (kk0 a D Y L xs) mu0 (1, 1, 0)), (a 1 1 7, ent (kk0 a D Y L xs) mu0 (1, 1, 7)), (a 2 0 0, ent (kk0 a D Y L xs) mu0 (2, 0, 0)), (a 2 0 1, ent (kk0 a D Y L xs) mu0 (2, 0, 1)), (a 2 0 2, ent (kk0 a D Y L xs) mu0 (2, 0, 2)), (a 3 0 0, ent (kk0 a D Y L xs) mu0 (3, 0, 0)), (a 3 0 1, ent (kk0 a D Y L xs) mu0 (3, 0, 1)), (a 4 0 0, ent (kk0 a D Y L xs) mu0 (4, 0, 0)), (a 4 0 1, ent (kk0 a D Y L xs) mu0 (4, 0, 1)), (a 5 0 0, ent (kk0 a D Y L xs) mu0 (5, 0, 0)), (a 6 0 0, ent (kk0 a D Y L xs) mu0 (6, 0, 0)), (a 6 0 3, ent (kk0 a D Y L xs) mu0 (6, 0, 3)), (a 6 0 4, ent (kk0 a D Y L xs) mu0 (6, 0, 4)), (a 6 0 5, ent (kk0 a D Y L xs) mu0 (6, 0, 5)), (a 6 0 6, ent (kk0 a D Y L xs) mu0 (6, 0, 6)), (a 6 0 7, ent (kk0 a D Y L xs) mu0 (6, 0, 7)), (a 6 0 8, ent (kk0 a D Y L xs) mu0 (6, 0, 8)), (a 6 1 0, ent (kk0 a D Y L xs) mu0 (6, 1, 0)), (a 6 1 3, ent (kk0 a D Y L xs) mu0 (6, 1, 3)), (a 6 1 4, ent (kk0 a D Y L xs) mu0 (6, 1, 4)), (a 6 1 5, ent (kk0 a D Y L xs) mu0 (6, 1, 5)), (a 6 1 6, ent (kk0 a D Y L xs) mu0 (6, 1, 6)), (a 6 1 7, ent (kk0 a D Y L xs) mu0 (6, 1, 7)), (a 6 1 8, ent (kk0 a D Y L xs) mu0 (6, 1, 8)), (a 6 2 0, ent (kk0 a D Y L xs) mu0 (6, 2, 0)), (a 6 2 3, ent (kk0 a D Y L xs) mu0 (6, 2, 3)), (a 6 2 4, ent (kk0 a D Y L xs) mu0 (6, 2, 4)), (a 6 2 5, ent (kk0 a D Y L xs) mu0 (6, 2, 5)), (a 6 2 6, ent (kk0 a D Y L xs) mu0 (6, 2, 6)), (a 6 2 7, ent (kk0 a D Y L xs) mu0 (6, 2, 7)), (a 6 2 8, ent (kk0 a D Y L xs) mu0 (6, 2, 8)), (a 6 3 0, ent (kk0 a D Y L xs) mu0 (6, 3, 0)), (a 6 3 3, ent (kk0 a D Y L xs) mu0 (6, 3, 3)), (a 6 3 4, ent (kk0 a D Y L xs) mu0 (6, 3, 4)), (a 6 3 5, ent (kk0 a D Y L xs) mu0 (6, 3, 5)), (a 6 3 6, ent (kk0 a D Y L xs) mu0 (6, 3, 6)), (a 6 3 7, ent (kk0 a D Y L xs) mu0 (6, 3, 7)), (a 6 3 8, ent (kk0 a D Y L xs) mu0 (6, 3, 8)), (a 6 4 0, ent (kk0 a D Y L xs) mu0 (6, 4, 0)), (a 6 4 3, ent (kk0 a D Y L xs) mu0 (6, 4, 3)), (a 6 4 4, ent (kk0 a D Y L xs) mu0 (6, 4, 4)), (a 6 4 5, ent (kk0 a D Y L xs) mu0 (6, 4, 5)), (a 6 4 6, ent (kk0 a D Y L xs) mu0 (6, 4, 6)), (a 6 4 7, ent (kk0 a D Y L xs) mu0 (6, 4, 7)), (a 6 4 8, ent (kk0 a D Y L xs) mu0 (6, 4, 8)), (a 6 5 0, ent (kk0 a D Y L xs) mu0 (6, 5, 0)), (a 6 5 3, ent (kk0 a D Y L xs) mu0 (6, 5, 3)), (a 6 5 4, ent (kk0 a D Y L xs) mu0 (6, 5, 4)), (a 6 5 5, ent (kk0 a D Y L xs) mu0 (6, 5, 5)), (a 6 5 6, ent (kk0 a D Y L xs) mu0 (6, 5, 6)), (a 6 5 7, ent (kk0 a D Y L xs) mu0 (6, 5, 7)), (a 6 5 8, ent (kk0 a D Y L xs) mu0 (6, 5, 8)), (a 7 0 0, ent (kk0 a D Y L xs) mu0 (7, 0, 0)), (a 8 0 0, ent (kk0 a D Y L xs) mu0 (8, 0, 0)), (a 8 0 5, ent (kk0 a D Y L xs) mu0 (8, 0, 5)), (a 8 0 6, ent (kk0 a D Y L xs) mu0 (8, 0, 6)), (a 8 0 17, ent (kk0 a D Y L xs) mu0 (8, 0, 17)), (a 8 0 21, ent (kk0 a D Y L xs) mu0 (8, 0, 21)), (a 8 0 23, ent (kk0 a D Y L xs) mu0 (8, 0, 23)), (a 8 0 24, ent (kk0 a D Y L xs) mu0 (8, 0, 24)), (a 8 0 27, ent (kk0 a D Y L xs) mu0 (8, 0, 27)), (a 8 0 28, ent (kk0 a D Y L xs) mu0 (8, 0, 28)), (a 8 0 38, ent (kk0 a D Y L xs) mu0 (8, 0, 38)), (a 8 0 39, ent (kk0 a D Y L xs) mu0 (8, 0, 39)), (a 8 0 40, ent (kk0 a D Y L xs) mu0 (8, 0, 40))] = _
  rw [eo_0]
  rw [ea (c := 0) (i := 0) (s := 4) (by decide) rfl (by decide)]
  rw [eo_1 0]
  rw [ea (c := 1) (i := 0) (s := 7) (by decide) rfl (by decide)]
  rw [eo_1 1]
  rw [ea (c := 1) (i := 1) (s := 7) (by decide) rfl (by decide)]
  rw [eo_2]
  rw [ea (c := 2) (i := 0) (s := 1) (by decide) rfl (by decide)]
  rw [ea (c := 2) (i := 0) (s := 2) (by decide) rfl (by decide)]
  rw [eo_3]
  rw [ea (c := 3) (i := 0) (s := 1) (by decide) rfl (by decide)]
  rw [eo_4]
  rw [ec]
  rw [eo_5]
  rw [eo_6 0]
  rw [ea (c := 6) (i := 0) (s := 3) (by decide) rfl (by decide)]
  rw [ea (c := 6) (i := 0) (s := 4) (by decide) rfl (by decide)]
  rw [ea (c := 6) (i := 0) (s := 5) (by decide) rfl (by decide)]
  rw [ea (c := 6) (i := 0) (s := 6) (by decide) rfl (by decide)]
  rw [ea (c := 6) (i := 0) (s := 7) (by decide) rfl (by decide)]
  rw [ea (c := 6) (i := 0) (s := 8) (by decide) rfl (by decide)]
  rw [eo_6 1]
  rw [ea (c := 6) (i := 1) (s := 3) (by decide) rfl (by decide)]
  rw [ea (c := 6) (i := 1) (s := 4) (by decide) rfl (by decide)]
  rw [ea (c := 6) (i := 1) (s := 5) (by decide) rfl (by decide)]
  rw [ea (c := 6) (i := 1) (s := 6) (by decide) rfl (by decide)]
  rw [ea (c := 6) (i := 1) (s := 7) (by decide) rfl (by decide)]
  rw [ea (c := 6) (i := 1) (s := 8) (by decide) rfl (by decide)]
  rw [eo_6 2]
  rw [ea (c := 6) (i := 2) (s := 3) (by decide) rfl (by decide)]
  rw [ea (c := 6) (i := 2) (s := 4) (by decide) rfl (by decide)]
  rw [ea (c := 6) (i := 2) (s := 5) (by decide) rfl (by decide)]
  rw [ea (c := 6) (i := 2) (s := 6) (by decide) rfl (by decide)]
  rw [ea (c := 6) (i := 2) (s := 7) (by decide) rfl (by decide)]
  rw [ea (c := 6) (i := 2) (s := 8) (by decide) rfl (by decide)]
  rw [eo_6 3]
  rw [ea (c := 6) (i := 3) (s := 3) (by decide) rfl (by decide)]
  rw [ea (c := 6) (i := 3) (s := 4) (by decide) rfl (by decide)]
  rw [ea (c := 6) (i := 3) (s := 5) (by decide) rfl (by decide)]
  rw [ea (c := 6) (i := 3) (s := 6) (by decide) rfl (by decide)]
  rw [ea (c := 6) (i := 3) (s := 7) (by decide) rfl (by decide)]
  rw [ea (c := 6) (i := 3) (s := 8) (by decide) rfl (by decide)]
  rw [eo_6 4]
  rw [ea (c := 6) (i := 4) (s := 3) (by decide) rfl (by decide)]
  rw [ea (c := 6) (i := 4) (s := 4) (by decide) rfl (by decide)]
  rw [ea (c := 6) (i := 4) (s := 5) (by decide) rfl (by decide)]
  rw [ea (c := 6) (i := 4) (s := 6) (by decide) rfl (by decide)]
  rw [ea (c := 6) (i := 4) (s := 7) (by decide) rfl (by decide)]
  rw [ea (c := 6) (i := 4) (s := 8) (by decide) rfl (by decide)]
  rw [eo_6 5]
  rw [ea (c := 6) (i := 5) (s := 3) (by decide) rfl (by decide)]
  rw [ea (c := 6) (i := 5) (s := 4) (by decide) rfl (by decide)]
  rw [ea (c := 6) (i := 5) (s := 5) (by decide) rfl (by decide)]
  rw [ea (c := 6) (i := 5) (s := 6) (by decide) rfl (by decide)]
  rw [ea (c := 6) (i := 5) (s := 7) (by decide) rfl (by decide)]
  rw [ea (c := 6) (i := 5) (s := 8) (by decide) rfl (by decide)]
  rw [eo_7]
  rw [eo_8]
  rw [ea (c := 8) (i := 0) (s := 5) (by decide) rfl (by decide)]
  rw [ea (c := 8) (i := 0) (s := 6) (by decide) rfl (by decide)]
  rw [ea (c := 8) (i := 0) (s := 17) (by decide) rfl (by decide)]
  rw [ea (c := 8) (i := 0) (s := 21) (by decide) rfl (by decide)]
  rw [ea (c := 8) (i := 0) (s := 23) (by decide) rfl (by decide)]
  rw [ea (c := 8) (i := 0) (s := 24) (by decide) rfl (by decide)]
  rw [ea (c := 8) (i := 0) (s := 27) (by decide) rfl (by decide)]
  rw [ea (c := 8) (i := 0) (s := 28) (by decide) rfl (by decide)]
  rw [ea (c := 8) (i := 0) (s := 38) (by decide) rfl (by decide)]
  rw [ea (c := 8) (i := 0) (s := 39) (by decide) rfl (by decide)]
  rw [ea (c := 8) (i := 0) (s := 40) (by decide) rfl (by decide)]
  rfl
theorem wr_P {H : Heap} (h : va_P D vwCl (wsC a Y) H) : va_P D vwCl (wrld (kk0 a D Y L xs) mu0) H := by
  have h1 := h.sub (ws' := wsA a Y) [3, 4, 5, 6, 14, 15, 23, 24, 25, 1, 2, 26, 27, 49, 7, 8, 9, 10, 11, 12, 13, 16, 17, 18, 19, 20, 21, 22, 28, 29, 30, 31, 32, 33, 34, 35, 36, 37, 38, 39, 40, 41, 42, 43, 44, 45, 46, 47, 48, 50, 51, 52, 53, 54, 55, 56, 0, 57, 58, 59, 60, 61, 62, 63, 64, 65, 66, 67, 68] rfl
  have h2 := p_qcg h1 12 (g := fun j => some (a 6 (2 + j) 0)) rfl (fun j hj => by
    rcases (show j = 0 ∨ j = 1 ∨ j = 2 by omega) with z | z | z <;> subst z <;> rfl)
  rw [wr_eq]
  exact h2
theorem wr_D {A : Nat → Prop} (h : va_D A (wsC a Y)) : va_D A (wrld (kk0 a D Y L xs) mu0) := by
  have h1 := h.sub (ws' := wsA a Y) [3, 4, 5, 6, 14, 15, 23, 24, 25, 1, 2, 26, 27, 49, 7, 8, 9, 10, 11, 12, 13, 16, 17, 18, 19, 20, 21, 22, 28, 29, 30, 31, 32, 33, 34, 35, 36, 37, 38, 39, 40, 41, 42, 43, 44, 45, 46, 47, 48, 50, 51, 52, 53, 54, 55, 56, 0, 57, 58, 59, 60, 61, 62, 63, 64, 65, 66, 67, 68] (by decide) rfl
  have h2 := h1.set (p := 12) (e := .inl (Y 4, 3, .inr (.inr (.inr (.inr fun j => some (a 6 (2 + j) 0)))))) rfl
  rw [wr_eq]
  exact h2
theorem wr_J {A : Nat → Prop} (h : va_D A (wrld (kk0 a D Y L xs) mu0)) : kJ (kk0 a D Y L xs) ∧ ∀ q, aA (kk0 a D Y L xs) q → A q := by
  refine ⟨fun p hp q hq e => ?_, fun q hq => ?_⟩
  · obtain ⟨i, hi⟩ := List.getElem?_of_mem hp
    obtain ⟨j, hj⟩ := List.getElem?_of_mem hq
    have z := h.1 i j _ _ (w_at hi) (w_at hj) e
    subst z
    exact Option.some.inj (hi.symm.trans hj)
  · obtain ⟨r, hr, rfl⟩ := hq
    obtain ⟨i, hi⟩ := List.getElem?_of_mem hr
    exact h.2 i _ (w_at hi)
end
