/-! THE SPECIFICATION IN PURE WORDS: a text, its tokens, its tree as a list of nodes in the order of their numbers -/
def qSm (c : Int32) : Bool := decide (97 ≤ c) && decide (c ≤ 122)
def qDg (c : Int32) : Bool := decide (48 ≤ c) && decide (c ≤ 57)
def qAt (t : List Int32) (p : Nat) : Int32 := t.getD p 0
/-- how many characters of blanks stand at the beginning (cm: within a comment) -/
def qBlk : Bool → List Int32 → Nat
  | _, [] => 0
  | cm, c :: r => if c = 10 then qBlk false r + 1 else if cm = true then qBlk true r + 1 else if c = 32 then qBlk false r + 1 else if c = 35 then qBlk true r + 1 else 0
def qRun (f : Int32 → Bool) : List Int32 → Nat
  | [] => 0
  | c :: r => if f c = true then qRun f r + 1 else 0
def qSign (c : Int32) : Nat := if c = 59 then 6 else if c = 123 then 7 else if c = 125 then 8 else if c = 40 then 9 else if c = 41 then 10 else if c = 43 then 11 else if c = 45 then 12 else if c = 42 then 13 else if c = 60 then 14 else if c = 61 then 15 else 16
def qWord (t : List Int32) (o e : Nat) : Nat :=
  if e - o = 2 ∧ qAt t o = 105 ∧ qAt t (o + 1) = 102 then 3
  else if e - o = 4 ∧ qAt t o = 101 ∧ qAt t (o + 1) = 108 ∧ qAt t (o + 2) = 115 ∧ qAt t (o + 3) = 101 then 4
  else if e - o = 5 ∧ qAt t o = 119 ∧ qAt t (o + 1) = 104 ∧ qAt t (o + 2) = 105 ∧ qAt t (o + 3) = 108 ∧ qAt t (o + 4) = 101 then 5 else 1
def qOwn (t : List Int32) (p : Nat) : Nat := p + qBlk false (t.drop p)
def qEnd (t : List Int32) (o : Nat) : Nat := if t.length ≤ o then o else if qSm (qAt t o) = true then o + qRun qSm (t.drop o) else if qDg (qAt t o) = true then o + qRun qDg (t.drop o) else o + 1
def qKind (t : List Int32) (o e : Nat) : Nat := if t.length ≤ o then 17 else if qSm (qAt t o) = true then qWord t o e else if qDg (qAt t o) = true then 2 else qSign (qAt t o)
/-- the tokens from place p on: kind, own place, end -/
def qToks (t : List Int32) : Nat → Nat → List (Nat × Nat × Nat)
  | 0, _ => []
  | n + 1, p => (qKind t (qOwn t p) (qEnd t (qOwn t p)), qOwn t p, qEnd t (qOwn t p)) :: (if qKind t (qOwn t p) (qEnd t (qOwn t p)) = 17 then [] else qToks t n (qEnd t (qOwn t p)))
/-- a node: kind, from, to, own, missing, kids, size, faults -/
abbrev Nd : Type := Nat × Nat × Nat × Nat × Nat × Nat × Nat × List Nat
def nK (n : Nd) : Nat := n.1
def nF (n : Nd) : Nat := n.2.1
def nT (n : Nd) : Nat := n.2.2.1
def nO (n : Nd) : Nat := n.2.2.2.1
def nM (n : Nd) : Nat := n.2.2.2.2.1
def nC (n : Nd) : Nat := n.2.2.2.2.2.1
def nZ (n : Nd) : Nat := n.2.2.2.2.2.2.1
def nL (n : Nd) : List Nat := n.2.2.2.2.2.2.2
/-- a reading's place: number of the current token, place where the blanks before it begin, faults of skipped tokens that wait -/
abbrev Sg : Type := Nat × Nat × List Nat
section QP
variable (tk : List (Nat × Nat × Nat))
def qK (i : Nat) : Nat := (tk.getD i (17, 0, 0)).1
def qO (i : Nat) : Nat := (tk.getD i (17, 0, 0)).2.1
def qE (i : Nat) : Nat := (tk.getD i (17, 0, 0)).2.2
def qCan (k : Nat) : Bool := k == 1 || k == 2 || k == 3 || k == 5 || k == 6 || k == 7 || k == 9 || k == 12
def qTake (g : Sg) : List Nd × Sg := ([(qK tk g.1, g.2.1, qE tk g.1, qO tk g.1, 0, 0, 1, g.2.2)], (g.1 + 1, qE tk g.1, []))
def qMiss (k f : Nat) (g : Sg) : List Nd × Sg := ([(k, g.2.1, g.2.1, g.2.1, f, 0, 1, [4 * g.2.1 + f])], g)
def qExp (k : Nat) (g : Sg) : List Nd × Sg := if qK tk g.1 = k then qTake tk g else qMiss k 2 g
def qSkip (g : Sg) : Sg := (g.1 + 1, g.2.1, g.2.2 ++ [4 * qO tk g.1 + (if qCan (qK tk g.1) = true then 3 else 1)])
/-- a node over what lies in it: kids children, cs all nodes of them; from their beginning to the place 'to' -/
def qNode (k kids : Nat) (cs : List Nd) (to : Nat) : List Nd := (k, nF (cs.headD (0, 0, 0, 0, 0, 0, 0, [])), to, nO (cs.headD (0, 0, 0, 0, 0, 0, 0, [])), 0, kids, cs.length + 1, []) :: cs
def qLvl (k : Nat) : Nat := if k = 13 then 4 else if k = 14 then 2 else if k = 15 then 1 else if k = 11 ∨ k = 12 then 3 else 0
/-- open signs, the innermost first: left operand, sign, how it binds -/
abbrev Stk : Type := List (List Nd × List Nd × Nat)
def qClose (b to : Nat) : Stk → List Nd → Stk × List Nd
  | [], cur => ([], cur)
  | (L, S, x) :: r, cur => if b ≤ x then qClose b to r (qNode 26 3 (L ++ (S ++ cur)) to) else ((L, S, x) :: r, cur)
def qLoop (op : Sg → List Nd × Sg) : Nat → Stk → List Nd → Sg → List Nd × Sg
  | 0, st, cur, g => ((qClose 0 g.2.1 st cur).2, g)
  | n + 1, st, cur, g =>
    if qLvl (qK tk g.1) = 0 then ((qClose 0 g.2.1 st cur).2, g)
    else
      let c := qClose (if qK tk g.1 = 15 then 2 else qLvl (qK tk g.1)) g.2.1 st cur
      let a := qTake tk g
      let o := op a.2
      qLoop op n ((c.2, a.1, qLvl (qK tk g.1)) :: c.1) o.1 o.2
def qExpr (op : Sg → List Nd × Sg) (g : Sg) : List Nd × Sg := let o := op g; qLoop tk op 60 [] o.1 o.2
/-- an operand; q: how many parentheses and signs may still come (6 - p) -/
def qOpd : Nat → Sg → List Nd × Sg
  | 0, g => if qK tk g.1 = 1 ∨ qK tk g.1 = 2 then qTake tk g else if qK tk g.1 = 9 ∨ qK tk g.1 = 12 then qMiss 1 3 g else qMiss 1 2 g
  | q + 1, g =>
    if qK tk g.1 = 1 ∨ qK tk g.1 = 2 then qTake tk g
    else if qK tk g.1 = 9 then
      let a := qTake tk g
      let x := qExpr tk (qOpd q) a.2
      let z := qExp tk 10 x.2
      (qNode 28 3 (a.1 ++ (x.1 ++ z.1)) z.2.2.1, z.2)
    else if qK tk g.1 = 12 then
      let a := qTake tk g
      let x := qOpd q a.2
      (qNode 27 2 (a.1 ++ x.1) x.2.2.1, x.2)
    else qMiss 1 2 g
def qEx (g : Sg) : List Nd × Sg := qExpr tk (qOpd tk 6) g
def qCond (g : Sg) : List Nd × Sg :=
  let a := qExp tk 9 g
  let x := qEx tk a.2
  let z := qExp tk 10 x.2
  (a.1 ++ (x.1 ++ z.1), z.2)
/-- can a statement begin here; r: how deep it may still go (6 - d) -/
def qBeg (r : Nat) (g : Sg) : Bool := qCan (qK tk g.1) && !(r == 0 && (qK tk g.1 == 3 || qK tk g.1 == 5 || qK tk g.1 == 7))
def qPart (st : Sg → List Nd × Sg) (r : Nat) (g : Sg) : List Nd × Sg :=
  if qBeg tk r g = true then st g
  else let a := qMiss 6 (if qCan (qK tk g.1) = true then 3 else 2) g; (qNode 25 1 a.1 a.2.2.1, a.2)
/-- statements of a list: nodes, how many statements, the place behind -/
def qList (st : Sg → List Nd × Sg) (r : Nat) (inner : Bool) : Nat → Sg → List Nd × Nat × Sg
  | 0, g => ([], 0, g)
  | n + 1, g =>
    if qK tk g.1 = 17 ∨ (inner = true ∧ qK tk g.1 = 8) then ([], 0, g)
    else if qBeg tk r g = true then
      let a := st g
      let b := qList st r inner n a.2
      (a.1 ++ b.1, b.2.1 + 1, b.2.2)
    else qList st r inner n (qSkip tk g)
def qSimple (g : Sg) : List Nd × Sg :=
  let x := qEx tk g
  let z := qExp tk 6 x.2
  (qNode 24 2 (x.1 ++ z.1) z.2.2.1, z.2)
def qEmpty (g : Sg) : List Nd × Sg := let a := qTake tk g; (qNode 25 1 a.1 a.2.2.1, a.2)
/-- a statement; r as above -/
def qStmt : Nat → Sg → List Nd × Sg
  | 0, g => if qK tk g.1 = 6 then qEmpty tk g else qSimple tk g
  | r + 1, g =>
    if qK tk g.1 = 6 then qEmpty tk g
    else if qK tk g.1 = 7 then
      let a := qTake tk g
      let b := qList tk (qStmt r) r true 60 a.2
      let z := qExp tk 8 b.2.2
      (qNode 21 (b.2.1 + 2) (a.1 ++ (b.1 ++ z.1)) z.2.2.1, z.2)
    else if qK tk g.1 = 3 then
      let a := qTake tk g
      let x := qCond tk a.2
      let y := qPart tk (qStmt r) r x.2
      if qK tk y.2.1 = 4 then
        let u := qTake tk y.2
        let v := qPart tk (qStmt r) r u.2
        (qNode 22 7 (a.1 ++ (x.1 ++ (y.1 ++ (u.1 ++ v.1)))) v.2.2.1, v.2)
      else (qNode 22 5 (a.1 ++ (x.1 ++ y.1)) y.2.2.1, y.2)
    else if qK tk g.1 = 5 then
      let a := qTake tk g
      let x := qCond tk a.2
      let y := qPart tk (qStmt r) r x.2
      (qNode 23 5 (a.1 ++ (x.1 ++ y.1)) y.2.2.1, y.2)
    else qSimple tk g
def qTree : List Nd :=
  let b := qList tk (qStmt tk 6) 6 false 60 (0, 0, [])
  let z := qTake tk b.2.2
  qNode 20 (b.2.1 + 1) (b.1 ++ z.1) z.2.2.1
end QP
/-- the tree of a text -/
def qTr (t : List Int32) : List Nd := qTree (qToks t 61 0)
