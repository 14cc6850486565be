/-! names, fields, shapes of cells: by program (wip/whole/gen) -/
def tF0 : u_T := fun k => match k with
  | 0 => ("TypedMill", "types", "LTypedMill$Types;", true)
  | 1 => ("TypedMill", "expressions", "LTypedMill$Expressions;", true)
  | 2 => ("TypedMill", "typing", "LTypedMill$Typing;", true)
  | 3 => ("TypedMill", "evaluator", "LTypedMill$Evaluator;", true)
  | 4 => ("TypedMill", "writer", "LTypedMill$CodeWriter;", true)
  | 5 => ("TypedMill", "checker", "LTypedMill$Checker;", true)
  | 6 => ("TypedMill", "machine", "LTypedMill$Machine;", true)
  | 7 => ("TypedMill", "code", "LTypedMill$Code;", false)
  | _ => ("TypedMill", "spare", "LTypedMill$Code;", false)
def tF1 : u_T := fun k => match k with
  | 0 => ("TypedMill$Types", "kind", "[I", true)
  | 1 => ("TypedMill$Types", "first", "[I", true)
  | 2 => ("TypedMill$Types", "second", "[I", true)
  | 3 => ("TypedMill$Types", "third", "[I", true)
  | 4 => ("TypedMill$Types", "sizes", "[I", true)
  | 5 => ("TypedMill$Types", "newest", "[I", true)
  | 6 => ("TypedMill$Types", "older", "[I", true)
  | _ => ("TypedMill$Types", "count", "I", false)
def tF2 : u_T := fun k => match k with
  | 0 => ("TypedMill$Expressions", "kind", "[I", true)
  | 1 => ("TypedMill$Expressions", "a", "[I", true)
  | 2 => ("TypedMill$Expressions", "x", "[I", true)
  | 3 => ("TypedMill$Expressions", "y", "[I", true)
  | 4 => ("TypedMill$Expressions", "z", "[I", true)
  | 5 => ("TypedMill$Expressions", "height", "[I", true)
  | _ => ("TypedMill$Expressions", "count", "I", false)
def tF3 : u_T := fun k => match k with
  | 0 => ("TypedMill$Typing", "types", "LTypedMill$Types;", true)
  | 1 => ("TypedMill$Typing", "expressions", "LTypedMill$Expressions;", true)
  | 2 => ("TypedMill$Typing", "bound", "[I", true)
  | _ => ("TypedMill$Typing", "bounds", "I", false)
def tF4 : u_T := fun k => match k with
  | 0 => ("TypedMill$Evaluator", "expressions", "LTypedMill$Expressions;", true)
  | 1 => ("TypedMill$Evaluator", "kind", "[I", true)
  | 2 => ("TypedMill$Evaluator", "first", "[I", true)
  | 3 => ("TypedMill$Evaluator", "second", "[I", true)
  | 4 => ("TypedMill$Evaluator", "values", "I", false)
  | 5 => ("TypedMill$Evaluator", "function", "[I", true)
  | 6 => ("TypedMill$Evaluator", "argument", "[I", true)
  | 7 => ("TypedMill$Evaluator", "frames", "I", false)
  | 8 => ("TypedMill$Evaluator", "taken", "I", false)
  | _ => ("TypedMill$Evaluator", "over", "Z", false)
def tF5 : u_T := fun k => match k with
  | 0 => ("TypedMill$CodeWriter", "types", "LTypedMill$Types;", true)
  | 1 => ("TypedMill$CodeWriter", "expressions", "LTypedMill$Expressions;", true)
  | 2 => ("TypedMill$CodeWriter", "environmentType", "[I", true)
  | 3 => ("TypedMill$CodeWriter", "before", "[I", true)
  | 4 => ("TypedMill$CodeWriter", "bindsLast", "[Z", true)
  | 5 => ("TypedMill$CodeWriter", "environments", "I", false)
  | 6 => ("TypedMill$CodeWriter", "bodyLambda", "[I", true)
  | 7 => ("TypedMill$CodeWriter", "bodyEnvironment", "[I", true)
  | 8 => ("TypedMill$CodeWriter", "bodyBlock", "[I", true)
  | 9 => ("TypedMill$CodeWriter", "bodies", "I", false)
  | _ => ("TypedMill$CodeWriter", "code", "LTypedMill$Code;", false)
def tF6 : u_T := fun k => match k with
  | 0 => ("TypedMill$Checker", "types", "LTypedMill$Types;", true)
  | 1 => ("TypedMill$Checker", "held", "[I", true)
  | _ => ("TypedMill$Checker", "code", "LTypedMill$Code;", false)
def tF7 : u_T := fun k => match k with
  | 0 => ("TypedMill$Machine", "kind", "[I", true)
  | 1 => ("TypedMill$Machine", "value", "[I", true)
  | 2 => ("TypedMill$Machine", "firstKind", "[I", true)
  | 3 => ("TypedMill$Machine", "firstValue", "[I", true)
  | 4 => ("TypedMill$Machine", "secondKind", "[I", true)
  | 5 => ("TypedMill$Machine", "secondValue", "[I", true)
  | 6 => ("TypedMill$Machine", "pairs", "I", false)
  | 7 => ("TypedMill$Machine", "code", "LTypedMill$Code;", false)
  | 8 => ("TypedMill$Machine", "block", "I", false)
  | 9 => ("TypedMill$Machine", "next", "I", false)
  | _ => ("TypedMill$Machine", "condition", "I", false)
def tF8 : u_T := fun k => match k with
  | 0 => ("TypedMill$Code", "types", "LTypedMill$Types;", true)
  | 1 => ("TypedMill$Code", "operation", "[I", true)
  | 2 => ("TypedMill$Code", "a", "[I", true)
  | 3 => ("TypedMill$Code", "b", "[I", true)
  | 4 => ("TypedMill$Code", "c", "[I", true)
  | 5 => ("TypedMill$Code", "toldC", "[I", true)
  | 6 => ("TypedMill$Code", "count", "I", false)
  | 7 => ("TypedMill$Code", "start", "[I", true)
  | 8 => ("TypedMill$Code", "length", "[I", true)
  | 9 => ("TypedMill$Code", "asks", "[I", true)
  | 10 => ("TypedMill$Code", "askedSizes", "[I", true)
  | 11 => ("TypedMill$Code", "blocks", "I", false)
  | 12 => ("TypedMill$Code", "current", "I", false)
  | 13 => ("TypedMill$Code", "compiled", "Z", false)
  | 14 => ("TypedMill$Code", "verdict", "I", false)
  | _ => ("TypedMill$Code", "over", "Z", false)
def tF9 : u_T := fun k => match k with
  | 0 => ("TypedMillModel", "refusal", "I", false)
  | 1 => ("TypedMillModel", "types", "I", false)
  | 2 => ("TypedMillModel", "kind", "[I", false)
  | 3 => ("TypedMillModel", "one", "[I", false)
  | 4 => ("TypedMillModel", "two", "[I", false)
  | 5 => ("TypedMillModel", "three", "[I", false)
  | 6 => ("TypedMillModel", "size", "[I", false)
  | 7 => ("TypedMillModel", "made", "I", false)
  | 8 => ("TypedMillModel", "number", "[I", false)
  | 9 => ("TypedMillModel", "madeKind", "[I", false)
  | 10 => ("TypedMillModel", "madeOne", "[I", false)
  | 11 => ("TypedMillModel", "madeTwo", "[I", false)
  | 12 => ("TypedMillModel", "madeThree", "[I", false)
  | 13 => ("TypedMillModel", "expressions", "I", false)
  | 14 => ("TypedMillModel", "what", "[I", false)
  | 15 => ("TypedMillModel", "value", "[I", false)
  | 16 => ("TypedMillModel", "x", "[I", false)
  | 17 => ("TypedMillModel", "y", "[I", false)
  | 18 => ("TypedMillModel", "z", "[I", false)
  | 19 => ("TypedMillModel", "height", "[I", false)
  | 20 => ("TypedMillModel", "frames", "I", false)
  | 21 => ("TypedMillModel", "bound", "I", false)
  | 22 => ("TypedMillModel", "typed", "I", false)
  | 23 => ("TypedMillModel", "frame", "[I", false)
  | 24 => ("TypedMillModel", "phase", "[I", false)
  | 25 => ("TypedMillModel", "kept", "[I", false)
  | 26 => ("TypedMillModel", "keptMore", "[I", false)
  | 27 => ("TypedMillModel", "scope", "[I", false)
  | 28 => ("TypedMillModel", "binding", "[I", false)
  | 29 => ("TypedMillModel", "steps", "I", false)
  | 30 => ("TypedMillModel", "values", "I", false)
  | 31 => ("TypedMillModel", "scopes", "I", false)
  | 32 => ("TypedMillModel", "valueKind", "[I", false)
  | 33 => ("TypedMillModel", "first", "[I", false)
  | 34 => ("TypedMillModel", "second", "[I", false)
  | 35 => ("TypedMillModel", "scopeValue", "[I", false)
  | 36 => ("TypedMillModel", "scopeNext", "[I", false)
  | 37 => ("TypedMillModel", "compiled", "Z", false)
  | 38 => ("TypedMillModel", "blocks", "I", false)
  | 39 => ("TypedMillModel", "instructions", "I", false)
  | 40 => ("TypedMillModel", "operation", "[I", false)
  | 41 => ("TypedMillModel", "a", "[I", false)
  | 42 => ("TypedMillModel", "b", "[I", false)
  | 43 => ("TypedMillModel", "c", "[I", false)
  | 44 => ("TypedMillModel", "start", "[I", false)
  | 45 => ("TypedMillModel", "many", "[I", false)
  | 46 => ("TypedMillModel", "ask", "[I", false)
  | 47 => ("TypedMillModel", "full", "Z", false)
  | 48 => ("TypedMillModel", "tasks", "I", false)
  | 49 => ("TypedMillModel", "done", "I", false)
  | 50 => ("TypedMillModel", "environments", "I", false)
  | 51 => ("TypedMillModel", "environment", "I", false)
  | 52 => ("TypedMillModel", "named", "I", false)
  | 53 => ("TypedMillModel", "bodies", "I", false)
  | 54 => ("TypedMillModel", "current", "I", false)
  | 55 => ("TypedMillModel", "task", "[I", false)
  | 56 => ("TypedMillModel", "with", "[I", false)
  | 57 => ("TypedMillModel", "more", "[I", false)
  | 58 => ("TypedMillModel", "doneType", "[I", false)
  | 59 => ("TypedMillModel", "behind", "[I", false)
  | 60 => ("TypedMillModel", "holds", "[I", false)
  | 61 => ("TypedMillModel", "whole", "[I", false)
  | 62 => ("TypedMillModel", "isBound", "[Z", false)
  | 63 => ("TypedMillModel", "body", "[I", false)
  | 64 => ("TypedMillModel", "bodyScope", "[I", false)
  | 65 => ("TypedMillModel", "bodyBlock", "[I", false)
  | 66 => ("TypedMillModel", "state", "I", false)
  | 67 => ("TypedMillModel", "at", "I", false)
  | 68 => ("TypedMillModel", "end", "I", false)
  | 69 => ("TypedMillModel", "pairs", "I", false)
  | 70 => ("TypedMillModel", "register", "[I", false)
  | 71 => ("TypedMillModel", "content", "[I", false)
  | 72 => ("TypedMillModel", "leftKind", "[I", false)
  | 73 => ("TypedMillModel", "left", "[I", false)
  | 74 => ("TypedMillModel", "rightKind", "[I", false)
  | 75 => ("TypedMillModel", "right", "[I", false)
  | 76 => ("TypedMillModel", "has", "[I", false)
  | 77 => ("TypedMillModel", "oldOperation", "[I", false)
  | 78 => ("TypedMillModel", "oldA", "[I", false)
  | 79 => ("TypedMillModel", "oldB", "[I", false)
  | 80 => ("TypedMillModel", "oldC", "[I", false)
  | 81 => ("TypedMillModel", "oldStart", "[I", false)
  | 82 => ("TypedMillModel", "oldMany", "[I", false)
  | _ => ("TypedMillModel", "oldAsk", "[I", false)
abbrev smCl : List vw_C := [("TypedMill", tF0, 9), ("TypedMill$Types", tF1, 8), ("TypedMill$Expressions", tF2, 7), ("TypedMill$Typing", tF3, 4), ("TypedMill$Evaluator", tF4, 10), ("TypedMill$CodeWriter", tF5, 11), ("TypedMill$Checker", tF6, 3), ("TypedMill$Machine", tF7, 11), ("TypedMill$Code", tF8, 16), ("TypedMillModel", tF9, 84)]
def smNm (o : Nat) : String := ["TypedMill", "TypedMill$Types", "TypedMill$Expressions", "TypedMill$Typing", "TypedMill$Evaluator", "TypedMill$CodeWriter", "TypedMill$Checker", "TypedMill$Machine", "TypedMill$Code", "TypedMillModel", "java/lang/Math", "java/util/Arrays"].getD o ""
def tFORM : List Nat := [2, 1, 0, 2, 2, 2, 2, 2, 2, 2, 2, 2, 2, 2, 2, 2, 2, 4, 2, 3, 0, 2, 2, 5, 2, 2, 2, 3, 0, 0, 2, 3, 0, 2, 0, 0, 0, 0, 0]
def tPARTS : List Nat := [0, 0, 2, 2, 2, 3, 1, 2, 2, 1, 1]
def smSa : sm_Sa := [(1000, ("TypedMill$Code", "FORM"), tFORM), (1001, ("TypedMill$Expressions", "PARTS"), tPARTS)]
def shC : List sm_Sh := [
  (2, 1, [(1, 2), (1, 3), (1, 4), (1, 5), (1, 6), (1, 7), (1, 8), (0, 0)]),
  (0, 800, []),
  (0, 800, []),
  (0, 800, []),
  (0, 800, []),
  (0, 800, []),
  (0, 128, []),
  (0, 800, []),
  (2, 2, [(1, 10), (1, 11), (1, 12), (1, 13), (1, 14), (1, 15), (0, 0)]),
  (0, 40, []),
  (0, 40, []),
  (0, 40, []),
  (0, 40, []),
  (0, 40, []),
  (0, 40, []),
  (2, 3, [(1, 1), (1, 9), (1, 17), (0, 0)]),
  (0, 16, []),
  (2, 4, [(1, 9), (1, 19), (1, 20), (1, 21), (0, 0), (1, 22), (1, 23), (0, 0), (0, 0), (3, 0)]),
  (0, 500, []),
  (0, 500, []),
  (0, 500, []),
  (0, 166, []),
  (0, 166, []),
  (2, 5, [(1, 1), (1, 9), (1, 25), (1, 26), (1, 27), (0, 0), (1, 28), (1, 29), (1, 30), (0, 0), (2, 4)]),
  (0, 301, []),
  (0, 301, []),
  (1, 301, []),
  (0, 40, []),
  (0, 40, []),
  (0, 40, []),
  (2, 6, [(1, 1), (1, 32), (2, 3)]),
  (0, 6, []),
  (2, 7, [(1, 34), (1, 35), (1, 36), (1, 37), (1, 38), (1, 39), (0, 0), (2, 2), (0, 0), (0, 0), (0, 0)]),
  (0, 6, []),
  (0, 6, []),
  (0, 400, []),
  (0, 400, []),
  (0, 400, []),
  (0, 400, []),
  (2, 8, [(1, 1), (1, 41), (1, 42), (1, 43), (1, 44), (1, 45), (0, 0), (1, 46), (1, 47), (1, 48), (1, 49), (0, 0), (0, 0), (3, 0), (0, 0), (3, 0)]),
  (0, 300, []),
  (0, 300, []),
  (0, 300, []),
  (0, 300, []),
  (0, 300, []),
  (0, 40, []),
  (0, 40, []),
  (0, 120, []),
  (0, 120, []),
  (2, 8, [(1, 1), (1, 51), (1, 52), (1, 53), (1, 54), (1, 55), (0, 0), (1, 56), (1, 57), (1, 58), (1, 59), (0, 0), (0, 0), (3, 0), (0, 0), (3, 0)]),
  (0, 300, []),
  (0, 300, []),
  (0, 300, []),
  (0, 300, []),
  (0, 300, []),
  (0, 40, []),
  (0, 40, []),
  (0, 120, []),
  (0, 120, []),
  (2, 0, [(1, 1), (1, 9), (1, 16), (1, 18), (1, 24), (1, 31), (1, 33), (2, 0), (2, 1)])]
def shT : List sm_Sh := [
  (2, 1, [(1, 2), (1, 3), (1, 4), (1, 5), (1, 6), (1, 7), (1, 8), (0, 0)]),
  (0, 800, []),
  (0, 800, []),
  (0, 800, []),
  (0, 800, []),
  (0, 800, []),
  (0, 128, []),
  (0, 800, [])]
def shM : List sm_Sh := [
  (2, 9, [(0, 0), (0, 0), (1, 2), (1, 3), (1, 4), (1, 5), (1, 6), (0, 0), (1, 7), (1, 8), (1, 9), (1, 10), (1, 11), (0, 0), (1, 12), (1, 13), (1, 14), (1, 15), (1, 16), (1, 17), (0, 0), (0, 0), (0, 0), (1, 18), (1, 19), (1, 20), (1, 21), (1, 22), (1, 23), (0, 0), (0, 0), (0, 0), (1, 24), (1, 25), (1, 26), (1, 27), (1, 28), (3, 0), (0, 0), (0, 0), (1, 29), (1, 30), (1, 31), (1, 32), (1, 33), (1, 34), (1, 35), (3, 0), (0, 0), (0, 0), (0, 0), (0, 0), (0, 0), (0, 0), (0, 0), (1, 36), (1, 37), (1, 38), (1, 39), (1, 40), (1, 41), (1, 42), (1, 43), (1, 44), (1, 45), (1, 46), (0, 0), (0, 0), (0, 0), (0, 0), (1, 47), (1, 48), (1, 49), (1, 50), (1, 51), (1, 52), (1, 53), (1, 54), (1, 55), (1, 56), (1, 57), (1, 58), (1, 59), (1, 60)]),
  (0, 3000, []),
  (0, 3000, []),
  (0, 3000, []),
  (0, 3000, []),
  (0, 3000, []),
  (0, 30, []),
  (0, 30, []),
  (0, 30, []),
  (0, 30, []),
  (0, 30, []),
  (0, 40, []),
  (0, 40, []),
  (0, 40, []),
  (0, 40, []),
  (0, 40, []),
  (0, 40, []),
  (0, 64, []),
  (0, 64, []),
  (0, 64, []),
  (0, 64, []),
  (0, 64, []),
  (0, 32, []),
  (0, 600, []),
  (0, 600, []),
  (0, 600, []),
  (0, 1200, []),
  (0, 1200, []),
  (0, 301, []),
  (0, 301, []),
  (0, 301, []),
  (0, 301, []),
  (0, 41, []),
  (0, 41, []),
  (0, 123, []),
  (0, 400, []),
  (0, 400, []),
  (0, 400, []),
  (0, 400, []),
  (0, 1200, []),
  (0, 1200, []),
  (0, 1200, []),
  (1, 1200, []),
  (0, 64, []),
  (0, 64, []),
  (0, 64, []),
  (0, 6, []),
  (0, 6, []),
  (0, 400, []),
  (0, 400, []),
  (0, 400, []),
  (0, 400, []),
  (0, 6, []),
  (0, 301, []),
  (0, 301, []),
  (0, 301, []),
  (0, 301, []),
  (0, 41, []),
  (0, 41, []),
  (0, 123, [])]
def gC : List (List Nat) := [[40], [50]]
def gF : List (List Nat) := [[7, 128], [32, 6], [34, 6], [35, 6]]
def gY : List (List Nat) := [[29, 54, 301], [54, 29, 301], [30, 55, 301], [55, 30, 301], [31, 56, 301], [56, 31, 301], [32, 57, 301], [57, 32, 301], [33, 58, 41], [58, 33, 41], [34, 59, 41], [59, 34, 41], [35, 60, 123], [60, 35, 123]]
def sm_ga {ρ : Type} (a : List Nat) (l : List (List Nat)) (k : Option ρ) : Option ρ := if a ∈ l then k else none
def sm_eqp {ρ : Type} (a b : Nat) (k : Option ρ) : Option ρ := if a = b then k else none
def sm_inr {σ ρ : Type} (x : Option ρ) : Option (σ ⊕ ρ) := x.map .inr
def sm_lng {ρ : Type} (sh : List sm_Sh) (p : Nat) (k : Nat → Option ρ) : Option ρ := match sm_at sh p with
  | some (0, n, _) => k n
  | _ => none
theorem sm_ga_inv {ρ : Type} {a : List Nat} {l : List (List Nat)} {k : Option ρ} {v : ρ} (h : sm_ga a l k = some v) : a ∈ l ∧ k = some v := by
  unfold sm_ga at h
  split at h
  · rename_i hc
    exact ⟨hc, h⟩
  · cases h
theorem sm_eqp_inv {ρ : Type} {a b : Nat} {k : Option ρ} {v : ρ} (h : sm_eqp a b k = some v) : a = b ∧ k = some v := by
  unfold sm_eqp at h
  split at h
  · rename_i hc
    exact ⟨hc, h⟩
  · cases h
theorem sm_inr_inv {σ ρ : Type} {x : Option ρ} {v : σ ⊕ ρ} (h : sm_inr x = some v) : ∃ r, x = some r ∧ v = .inr r := by
  unfold sm_inr at h
  cases x with
  | none => cases h
  | some r => cases h; exact ⟨r, rfl, rfl⟩
theorem sm_lng_inv {ρ : Type} {sh : List sm_Sh} {p : Nat} {k : Nat → Option ρ} {v : ρ} (h : sm_lng sh p k = some v) : ∃ n, k n = some v := by
  unfold sm_lng at h
  split at h
  · exact ⟨_, h⟩
  · cases h
theorem gC_inv {p : Nat} (h : [p] ∈ gC) : p = 40 ∨ p = 50 := by simpa [gC] using h
theorem gF_inv {p n : Nat} (h : [p, n] ∈ gF) : (p = 7 ∧ n = 128) ∨ (p = 32 ∧ n = 6) ∨ (p = 34 ∧ n = 6) ∨ (p = 35 ∧ n = 6) := by simpa [gF] using h
theorem gY_inv {p q n : Nat} (h : [p, q, n] ∈ gY) : (p = 29 ∧ q = 54 ∧ n = 301) ∨ (p = 54 ∧ q = 29 ∧ n = 301) ∨ (p = 30 ∧ q = 55 ∧ n = 301) ∨ (p = 55 ∧ q = 30 ∧ n = 301) ∨ (p = 31 ∧ q = 56 ∧ n = 301) ∨ (p = 56 ∧ q = 31 ∧ n = 301) ∨ (p = 32 ∧ q = 57 ∧ n = 301) ∨ (p = 57 ∧ q = 32 ∧ n = 301) ∨ (p = 33 ∧ q = 58 ∧ n = 41) ∨ (p = 58 ∧ q = 33 ∧ n = 41) ∨ (p = 34 ∧ q = 59 ∧ n = 41) ∨ (p = 59 ∧ q = 34 ∧ n = 41) ∨ (p = 35 ∧ q = 60 ∧ n = 123) ∨ (p = 60 ∧ q = 35 ∧ n = 123) := by simpa [gY] using h
