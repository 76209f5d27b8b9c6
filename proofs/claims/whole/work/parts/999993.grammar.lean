/-! the grammar of the document as a pure parser over kinds of tokens; both parsers are held against it -/
set_option maxRecDepth 100000
mutual
/-- what the text is made of; t: a token's number -/
inductive X : Type
  | leaf (t : Nat) : X
  | group (t : Nat) (x : X) : X
  | tuple (t : Nat) (xs : Xs) : X
  | list (t : Nat) (xs : Xs) (r : Xs) : X
  | block (t : Nat) (b : Xs) : X
  | cas (t : Nat) (x : X) (ps : Pts) : X
  | iff (t : Nat) (ps : Pts) : X
  | recv (t : Nat) (tm : Xs) (ps : Pts) (late : Xs) : X
  | fn (t : Nat) (p : Pts) (last : Nat) : X
  | funOf (t : Nat) : X
  | call (t : Nat) (xs : Xs) : X
  | app (x : X) (as : Ars) : X
  | neg (t : Nat) (x : X) : X
  | nots (t : Nat) (x : X) : X
  | cat (t : Nat) (x : X) : X
  | mat (t : Nat) (l x : X) : X
  | snd (t : Nat) (l x : X) : X
  | sgs (t : Nat) (its : Its) : X
inductive Xs : Type
  | nil : Xs
  | cons (x : X) (r : Xs) : Xs
/-- parts: token, patterns, guard, body -/
inductive Pts : Type
  | nil : Pts
  | cons (t : Nat) (ps gd bd : Xs) (r : Pts) : Pts
inductive Ars : Type
  | nil : Ars
  | cons (t : Nat) (xs : Xs) (r : Ars) : Ars
/-- units and signs, a sign behind what it joins -/
inductive Its : Type
  | nil : Its
  | unit (x : X) (r : Its) : Its
  | sign (t : Nat) (r : Its) : Its
  | hinge (t : Nat) (r : Its) : Its
end
def Its.app : Its → Its → Its
  | .nil, b => b
  | .unit x r, b => .unit x (r.app b)
  | .sign t r, b => .sign t (r.app b)
  | .hinge t r, b => .hinge t (r.app b)
/-- what comes of it: so far, or a fault and the token where it is -/
abbrev Rs (α : Type) : Type := (α × Nat) ⊕ (Nat × Nat)
def bd {α β : Type} (x : Rs α) (f : α → Nat → Rs β) : Rs β := match x with
  | .inl q => f q.1 q.2
  | .inr e => .inr e
/-- kinds at which a unit, a pattern may begin; how tightly a sign binds -/
def bU (k : Nat) : Bool := decide (k ∈ [1, 2, 3, 4, 7, 8, 12, 13, 14, 17, 20, 22, 24, 34])
def bP (k : Nat) : Bool := decide (k ∈ [1, 2, 3, 4, 20, 22, 24, 34])
def rk (k : Nat) : Nat := if k = 16 then 1 else if k = 6 then 2 else if k ∈ [39, 40, 31, 41, 32, 42] then 3 else if k = 43 ∨ k = 44 then 4 else if k = 33 ∨ k = 34 then 5 else if k = 35 ∨ k = 10 ∨ k = 18 then 6 else 0
mutual
def X.isP (K : Nat → Nat) : X → Bool
  | .leaf _ => true
  | .neg _ (.leaf t) => decide (K t = 1)
  | .group _ x => x.isP K
  | .tuple _ xs => xs.isP K
  | .list _ xs r => xs.isP K && r.isP K
  | _ => false
def Xs.isP (K : Nat → Nat) : Xs → Bool
  | .nil => true
  | .cons x r => x.isP K && r.isP K
end
section GRM
variable (K : Nat → Nat)
/-- goes past a token of that kind -/
def nd (k p : Nat) : Rs Unit := if K p = k then .inl ((), p + 1) else .inr (2, p)
/-- something opens at p, d being open -/
def op {α : Type} (d p : Nat) (b : Bool) (r : Rs α) : Rs α := if b = false then .inr (2, p) else if 25 ≤ d then .inr (3, p) else r
/-- signs that bind ahead of a sign of that rank come now: what comes, which still wait; none: it may not stand there -/
def clS (r : Nat) : List Nat → Option (Its × List Nat)
  | [] => some (.nil, [])
  | t :: s => if rk (K t) < r ∨ (rk (K t) = r ∧ r = 4) then some (.nil, t :: s) else if rk (K t) = r ∧ r = 3 then none else
      match clS r s with
      | none => none
      | some q => some (.sign t q.1, q.2)
mutual
/-- an E; c: it may be a catch -/
def pE : Nat → Nat → Bool → Nat → Rs X
  | 0, _, _, p => .inr (99, p)
  | f + 1, d, c, p => op d p (bU (K p) || (c && decide (K p = 9))) (if K p = 9 then bd (pE f (d + 1) true (p + 1)) (fun x q => .inl (.cat p x, q)) else pS f (d + 1) p)
/-- a row of units, and what may follow it -/
def pS : Nat → Nat → Nat → Rs X
  | 0, _, p => .inr (99, p)
  | f + 1, d, p => bd (pL f d p) (fun l q => if K q = 30 then (if l.isP K = true then bd (pE f d false (q + 1)) (fun x r => .inl (.mat q l x, r)) else .inr (2, q)) else if K q = 36 then bd (pE f d false (q + 1)) (fun x r => .inl (.snd q l x, r)) else .inl (l, q))
def pL : Nat → Nat → Nat → Rs X
  | 0, _, p => .inr (99, p)
  | f + 1, d, p => bd (pU f d p) (fun x q => if rk (K q) = 0 then .inl (x, q) else bd (pG f d [] q) (fun i r => .inl (.sgs p (.unit x i), r)))
/-- signs and units behind a unit; s: the signs that wait -/
def pG : Nat → Nat → List Nat → Nat → Rs Its
  | 0, _, _, p => .inr (99, p)
  | f + 1, d, s, p => if rk (K p) = 0 then (match clS K 0 s with
      | none => .inr (2, p)
      | some c => .inl (c.1, p)) else match clS K (rk (K p)) s with
      | none => .inr (2, p)
      | some c => bd (pU f d (p + 1)) (fun x q => bd (pG f d (p :: c.2) q) (fun i r => .inl (c.1.app (if K p = 6 ∨ K p = 16 then .hinge p (.unit x i) else .unit x i), r)))
def pU : Nat → Nat → Nat → Rs X
  | 0, _, p => .inr (99, p)
  | f + 1, d, p => if K p = 34 ∨ K p = 14 then op d (p + 1) (bU (K (p + 1))) (bd (pU f (d + 1) (p + 1)) (fun x q => .inl (if K p = 34 then .neg p x else .nots p x, q))) else bd (pM f d p) (fun x q => if K q = 20 then bd (pA f d q) (fun a r => .inl (.app x a, r)) else .inl (x, q))
/-- ( ARGUMENTS ), once or more -/
def pA : Nat → Nat → Nat → Rs Ars
  | 0, _, p => .inr (99, p)
  | f + 1, d, p => if K p = 20 then bd (pRu f d false 6 21 (p + 1)) (fun xs q => bd (pA f d q) (fun a r => .inl (.cons p xs a, r))) else .inl (.nil, p)
def pM : Nat → Nat → Nat → Rs X
  | 0, _, p => .inr (99, p)
  | f + 1, d, p =>
    if K p = 1 ∨ K p = 3 ∨ K p = 4 then .inl (.leaf p, p + 1) else
    if K p = 2 then (if K (p + 1) = 20 then bd (pRu f d false 6 21 (p + 2)) (fun xs q => .inl (.call p xs, q)) else .inl (.leaf p, p + 1)) else
    if K p = 20 then bd (pE f d true (p + 1)) (fun x q => bd (nd K 21 q) (fun _ r => .inl (.group p x, r))) else
    if K p = 22 then bd (pRu f d false 8 23 (p + 1)) (fun xs q => .inl (.tuple p xs, q)) else
    if K p = 24 then pLi f d false p else
    if K p = 7 then bd (pB f d (p + 1)) (fun b q => bd (nd K 11 q) (fun _ r => .inl (.block p b, r))) else
    if K p = 8 then bd (pE f d true (p + 1)) (fun x q => bd (nd K 15 q) (fun _ r => bd (pPs f d true r) (fun ps r2 => bd (nd K 11 r2) (fun _ r3 => .inl (.cas p x ps, r3))))) else
    if K p = 13 then bd (pPs f d false (p + 1)) (fun ps q => bd (nd K 11 q) (fun _ r => .inl (.iff p ps, r))) else
    if K p = 17 then bd (if K (p + 1) = 5 then .inl (.nil, p + 1) else pPs f d true (p + 1)) (fun ps q => bd (if K q = 5 then bd (pE f d true (q + 1)) (fun x r => bd (nd K 38 r) (fun _ r2 => bd (pB f d r2) (fun b r3 => .inl ((Xs.cons x .nil, b), r3)))) else .inl ((Xs.nil, Xs.nil), q)) (fun tb r => bd (nd K 11 r) (fun _ r2 => .inl (.recv p tb.1 ps tb.2, r2)))) else
    if K p = 12 then (if K (p + 1) = 2 then bd (nd K 37 (p + 2)) (fun _ q => bd (nd K 1 q) (fun _ r => .inl (.funOf p, r))) else bd (nd K 20 (p + 1)) (fun _ q => bd (pRu f d true 6 21 q) (fun ps r => bd (pT f d p ps r) (fun pt r2 => bd (nd K 11 r2) (fun _ r3 => .inl (.fn p pt r2, r3)))))) else
    .inr (2, p)
/-- [ .. ], of patterns or of E's -/
def pLi : Nat → Nat → Bool → Nat → Rs X
  | 0, _, _, p => .inr (99, p)
  | f + 1, d, b, p => if K (p + 1) = 25 then .inl (.list p .nil .nil, p + 2) else bd (pR f d b 8 (p + 1)) (fun xs q => bd (if K q = 29 then bd (if b = true then pP f d (q + 1) else pE f d true (q + 1)) (fun x r => .inl (Xs.cons x .nil, r)) else .inl (Xs.nil, q)) (fun t r => bd (nd K 25 r) (fun _ r2 => .inl (.list p xs t, r2))))
/-- P's or E's with commas between, m at most -/
def pR : Nat → Nat → Bool → Nat → Nat → Rs Xs
  | 0, _, _, _, p => .inr (99, p)
  | f + 1, d, b, m, p => bd (if b = true then pP f d p else pE f d true p) (fun x q => if 1 < m ∧ K q = 26 then bd (pR f d b (m - 1) (q + 1)) (fun xs r => .inl (.cons x xs, r)) else .inl (.cons x .nil, q))
def pRu : Nat → Nat → Bool → Nat → Nat → Nat → Rs Xs
  | 0, _, _, _, _, p => .inr (99, p)
  | f + 1, d, b, m, c, p => if K p = c then .inl (.nil, p + 1) else bd (pR f d b m p) (fun xs q => bd (nd K c q) (fun _ r => .inl (xs, r)))
def pB : Nat → Nat → Nat → Rs Xs
  | 0, _, p => .inr (99, p)
  | f + 1, d, p => op d p (bU (K p) || decide (K p = 9)) (pR f (d + 1) false 4000 p)
/-- what follows the patterns of a CLAUSE, fun or CASE -/
def pT : Nat → Nat → Nat → Xs → Nat → Rs Pts
  | 0, _, _, _, p => .inr (99, p)
  | f + 1, d, t, ps, p => bd (if K p = 19 then pR f d false 4000 (p + 1) else .inl (Xs.nil, p)) (fun g q => bd (nd K 38 q) (fun _ r => bd (pB f d r) (fun b r2 => .inl (.cons t ps g b .nil, r2))))
/-- CASES (c) or CHOICES -/
def pPs : Nat → Nat → Bool → Nat → Rs Pts
  | 0, _, _, p => .inr (99, p)
  | f + 1, d, c, p => bd (if c = true then bd (pP f d p) (fun x q => pT f d p (.cons x .nil) q) else bd (pR f d false 4000 p) (fun g q => bd (nd K 38 q) (fun _ r => bd (pB f d r) (fun b r2 => .inl (Pts.cons p .nil g b .nil, r2))))) (fun a q => if K q = 27 then bd (pPs f d c (q + 1)) (fun r z => match a with
      | .cons t ps g b _ => .inl (.cons t ps g b r, z)
      | .nil => .inl (r, z)) else .inl (a, q))
def pP : Nat → Nat → Nat → Rs X
  | 0, _, p => .inr (99, p)
  | f + 1, d, p => op d p (bP (K p)) (
    if K p = 20 then bd (pP f (d + 1) (p + 1)) (fun x q => bd (nd K 21 q) (fun _ r => .inl (.group p x, r))) else
    if K p = 22 then bd (pRu f (d + 1) true 8 23 (p + 1)) (fun xs q => .inl (.tuple p xs, q)) else
    if K p = 24 then pLi f (d + 1) true p else
    if K p = 34 then (if K (p + 1) = 1 then .inl (.neg p (.leaf (p + 1)), p + 2) else .inr (2, p + 1)) else
    .inl (.leaf p, p + 1))
end
end GRM
section GRP
variable (K : Nat → Nat)
/-- a CLAUSE -/
def pC (f p : Nat) : Rs Pts := bd (nd K 2 p) (fun _ q => bd (nd K 20 q) (fun _ r => bd (pRu K f 0 true 6 21 r) (fun ps r2 => pT K f 0 p ps r2)))
/-- CLAUSES with ; between, and . -/
def pFn : Nat → Nat → Rs Pts
  | 0, p => .inr (99, p)
  | f + 1, p => bd (pC K f p) (fun a q => if K q = 27 then bd (pFn f (q + 1)) (fun r z => match a with
      | .cons t ps g b _ => .inl (.cons t ps g b r, z)
      | .nil => .inl (r, z)) else bd (nd K 28 q) (fun _ r => .inl (a, r)))
/-- one FUNCTION or more -/
def pPr : Nat → Nat → Rs (List Pts)
  | 0, p => .inr (99, p)
  | f + 1, p => bd (pFn K f p) (fun a q => if K q = 0 then .inl ([a], q) else bd (pPr f q) (fun r z => .inl (a :: r, z)))
end GRP
