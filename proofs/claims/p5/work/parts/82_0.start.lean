def e0 : CS := ((0, 0), fun _ => .inr (.inr (.inl (0, fun _ => 0))))
def uH0 : CS := cnew e0 11 (.inl (1, fun j => dfV (t_H j)))
