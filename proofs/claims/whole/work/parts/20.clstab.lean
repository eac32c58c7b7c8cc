/-! THE CLASS: its classes, cells, words (printed by wip/gen/cls.py) -/
def ce_RE : String := "ShapeEngine"
def ce_TE : u_T := fun k => match k with
  | 0 => ("ShapeEngine", "tape", "[B", true)
  | 1 => ("ShapeEngine", "taped", "I", false)
  | 2 => ("ShapeEngine", "compiler", "LShapeEngine$Compiler;", true)
  | 3 => ("ShapeEngine", "machine", "LShapeEngine$Machine;", true)
  | 4 => ("ShapeEngine", "text", "LShapeEngine$Program;", false)
  | 5 => ("ShapeEngine", "spare", "LShapeEngine$Program;", false)
  | _ => ("ShapeEngine", "hasText", "Z", false)
def ce_tyE : Nat → FieldType := fun k => match k with
  | 0 => .array .byte
  | 1 => .int
  | 2 => .object "ShapeEngine$Compiler"
  | 3 => .object "ShapeEngine$Machine"
  | 4 => .object "ShapeEngine$Program"
  | 5 => .object "ShapeEngine$Program"
  | _ => .boolean
def ce_RC : String := "ShapeEngine$Compiler"
def ce_TC : u_T := fun k => match k with
  | 0 => ("ShapeEngine$Compiler", "lexer", "LShapeEngine$Lexer;", true)
  | 1 => ("ShapeEngine$Compiler", "program", "LShapeEngine$Program;", false)
  | 2 => ("ShapeEngine$Compiler", "refused", "Z", false)
  | 3 => ("ShapeEngine$Compiler", "faultKind", "I", false)
  | 4 => ("ShapeEngine$Compiler", "faultPlace", "I", false)
  | 5 => ("ShapeEngine$Compiler", "open", "I", false)
  | 6 => ("ShapeEngine$Compiler", "scope", "I", false)
  | 7 => ("ShapeEngine$Compiler", "variables", "[J", true)
  | 8 => ("ShapeEngine$Compiler", "known", "I", false)
  | 9 => ("ShapeEngine$Compiler", "callNames", "[J", true)
  | 10 => ("ShapeEngine$Compiler", "callCounts", "[I", true)
  | 11 => ("ShapeEngine$Compiler", "callCodes", "[I", true)
  | _ => ("ShapeEngine$Compiler", "calls", "I", false)
def ce_tyC : Nat → FieldType := fun k => match k with
  | 0 => .object "ShapeEngine$Lexer"
  | 1 => .object "ShapeEngine$Program"
  | 2 => .boolean
  | 3 => .int
  | 4 => .int
  | 5 => .int
  | 6 => .int
  | 7 => .array .long
  | 8 => .int
  | 9 => .array .long
  | 10 => .array .int
  | 11 => .array .int
  | _ => .int
def ce_RX : String := "ShapeEngine$Lexer"
def ce_TX : u_T := fun k => match k with
  | 0 => ("ShapeEngine$Lexer", "keys", "[J", true)
  | 1 => ("ShapeEngine$Lexer", "kinds", "[S", true)
  | 2 => ("ShapeEngine$Lexer", "places", "[S", true)
  | 3 => ("ShapeEngine$Lexer", "values", "[J", true)
  | 4 => ("ShapeEngine$Lexer", "tokens", "I", false)
  | 5 => ("ShapeEngine$Lexer", "current", "I", false)
  | 6 => ("ShapeEngine$Lexer", "kind", "I", false)
  | 7 => ("ShapeEngine$Lexer", "place", "I", false)
  | _ => ("ShapeEngine$Lexer", "value", "J", false)
def ce_tyX : Nat → FieldType := fun k => match k with
  | 0 => .array .long
  | 1 => .array .short
  | 2 => .array .short
  | 3 => .array .long
  | 4 => .int
  | 5 => .int
  | 6 => .int
  | 7 => .int
  | _ => .long
def ce_RP : String := "ShapeEngine$Program"
def ce_TP : u_T := fun k => match k with
  | 0 => ("ShapeEngine$Program", "ops", "[B", true)
  | 1 => ("ShapeEngine$Program", "args", "[I", true)
  | 2 => ("ShapeEngine$Program", "places", "[S", true)
  | 3 => ("ShapeEngine$Program", "length", "I", false)
  | 4 => ("ShapeEngine$Program", "siteKinds", "[I", true)
  | 5 => ("ShapeEngine$Program", "sitePlaces", "[I", true)
  | 6 => ("ShapeEngine$Program", "siteFns", "[I", true)
  | 7 => ("ShapeEngine$Program", "siteNames", "[J", true)
  | 8 => ("ShapeEngine$Program", "sites", "I", false)
  | 9 => ("ShapeEngine$Program", "fnNames", "[J", true)
  | 10 => ("ShapeEngine$Program", "fnStarts", "[I", true)
  | 11 => ("ShapeEngine$Program", "fnTakes", "[I", true)
  | 12 => ("ShapeEngine$Program", "fns", "I", false)
  | 13 => ("ShapeEngine$Program", "mainStart", "I", false)
  | 14 => ("ShapeEngine$Program", "mainVariables", "I", false)
  | _ => ("ShapeEngine$Program", "bytes", "I", false)
def ce_tyP : Nat → FieldType := fun k => match k with
  | 0 => .array .byte
  | 1 => .array .int
  | 2 => .array .short
  | 3 => .int
  | 4 => .array .int
  | 5 => .array .int
  | 6 => .array .int
  | 7 => .array .long
  | 8 => .int
  | 9 => .array .long
  | 10 => .array .int
  | 11 => .array .int
  | 12 => .int
  | 13 => .int
  | 14 => .int
  | _ => .int
def ce_RM : String := "ShapeEngine$Machine"
def ce_TM : u_T := fun k => match k with
  | 0 => ("ShapeEngine$Machine", "heap", "LShapeEngine$Heap;", true)
  | 1 => ("ShapeEngine$Machine", "rows", "LShapeEngine$Rows;", true)
  | 2 => ("ShapeEngine$Machine", "sites", "LShapeEngine$Sites;", true)
  | 3 => ("ShapeEngine$Machine", "functions", "LShapeEngine$Functions;", true)
  | 4 => ("ShapeEngine$Machine", "sheet", "LShapeEngine$Values;", true)
  | 5 => ("ShapeEngine$Machine", "printedInAll", "I", false)
  | 6 => ("ShapeEngine$Machine", "program", "LShapeEngine$Program;", false)
  | 7 => ("ShapeEngine$Machine", "stack", "LShapeEngine$Values;", true)
  | 8 => ("ShapeEngine$Machine", "top", "I", false)
  | 9 => ("ShapeEngine$Machine", "variables", "LShapeEngine$Values;", true)
  | 10 => ("ShapeEngine$Machine", "returns", "[I", true)
  | 11 => ("ShapeEngine$Machine", "depth", "I", false)
  | 12 => ("ShapeEngine$Machine", "deepest", "I", false)
  | 13 => ("ShapeEngine$Machine", "pc", "I", false)
  | 14 => ("ShapeEngine$Machine", "limit", "I", false)
  | 15 => ("ShapeEngine$Machine", "steps", "I", false)
  | 16 => ("ShapeEngine$Machine", "calls", "I", false)
  | 17 => ("ShapeEngine$Machine", "ending", "I", false)
  | 18 => ("ShapeEngine$Machine", "failure", "I", false)
  | _ => ("ShapeEngine$Machine", "failurePlace", "I", false)
def ce_tyM : Nat → FieldType := fun k => match k with
  | 0 => .object "ShapeEngine$Heap"
  | 1 => .object "ShapeEngine$Rows"
  | 2 => .object "ShapeEngine$Sites"
  | 3 => .object "ShapeEngine$Functions"
  | 4 => .object "ShapeEngine$Values"
  | 5 => .int
  | 6 => .object "ShapeEngine$Program"
  | 7 => .object "ShapeEngine$Values"
  | 8 => .int
  | 9 => .object "ShapeEngine$Values"
  | 10 => .array .int
  | 11 => .int
  | 12 => .int
  | 13 => .int
  | 14 => .int
  | 15 => .int
  | 16 => .int
  | 17 => .int
  | 18 => .int
  | _ => .int
def ce_RH : String := "ShapeEngine$Heap"
def ce_TH : u_T := fun k => match k with
  | 0 => ("ShapeEngine$Heap", "shapes", "LShapeEngine$Shapes;", true)
  | 1 => ("ShapeEngine$Heap", "forms", "[I", true)
  | 2 => ("ShapeEngine$Heap", "parents", "[I", true)
  | 3 => ("ShapeEngine$Heap", "sizes", "[I", true)
  | 4 => ("ShapeEngine$Heap", "firsts", "[I", true)
  | 5 => ("ShapeEngine$Heap", "lasts", "[I", true)
  | 6 => ("ShapeEngine$Heap", "lines", "[J", true)
  | 7 => ("ShapeEngine$Heap", "made", "I", false)
  | 8 => ("ShapeEngine$Heap", "dictionaries", "I", false)
  | 9 => ("ShapeEngine$Heap", "names", "[J", false)
  | 10 => ("ShapeEngine$Heap", "nexts", "[I", false)
  | 11 => ("ShapeEngine$Heap", "values", "LShapeEngine$Values;", true)
  | 12 => ("ShapeEngine$Heap", "used", "I", false)
  | _ => ("ShapeEngine$Heap", "free", "I", false)
def ce_tyH : Nat → FieldType := fun k => match k with
  | 0 => .object "ShapeEngine$Shapes"
  | 1 => .array .int
  | 2 => .array .int
  | 3 => .array .int
  | 4 => .array .int
  | 5 => .array .int
  | 6 => .array .long
  | 7 => .int
  | 8 => .int
  | 9 => .array .long
  | 10 => .array .int
  | 11 => .object "ShapeEngine$Values"
  | 12 => .int
  | _ => .int
def ce_RS : String := "ShapeEngine$Shapes"
def ce_TS : u_T := fun k => match k with
  | 0 => ("ShapeEngine$Shapes", "roots", "[I", true)
  | 1 => ("ShapeEngine$Shapes", "parents", "[I", false)
  | 2 => ("ShapeEngine$Shapes", "lengths", "[I", false)
  | 3 => ("ShapeEngine$Shapes", "shorter", "[I", false)
  | 4 => ("ShapeEngine$Shapes", "longer", "[I", false)
  | 5 => ("ShapeEngine$Shapes", "names", "[J", false)
  | 6 => ("ShapeEngine$Shapes", "firstLonger", "[I", false)
  | 7 => ("ShapeEngine$Shapes", "nextSibling", "[I", false)
  | _ => ("ShapeEngine$Shapes", "made", "I", false)
def ce_tyS : Nat → FieldType := fun k => match k with
  | 0 => .array .int
  | 1 => .array .int
  | 2 => .array .int
  | 3 => .array .int
  | 4 => .array .int
  | 5 => .array .long
  | 6 => .array .int
  | 7 => .array .int
  | _ => .int
def ce_RR : String := "ShapeEngine$Rows"
def ce_TR : u_T := fun k => match k with
  | 0 => ("ShapeEngine$Rows", "kinds", "[I", true)
  | 1 => ("ShapeEngine$Rows", "sizes", "[I", true)
  | 2 => ("ShapeEngine$Rows", "starts", "[I", true)
  | 3 => ("ShapeEngine$Rows", "items", "LShapeEngine$Values;", true)
  | 4 => ("ShapeEngine$Rows", "used", "I", false)
  | 5 => ("ShapeEngine$Rows", "made", "I", false)
  | _ => ("ShapeEngine$Rows", "widened", "I", false)
def ce_tyR : Nat → FieldType := fun k => match k with
  | 0 => .array .int
  | 1 => .array .int
  | 2 => .array .int
  | 3 => .object "ShapeEngine$Values"
  | 4 => .int
  | 5 => .int
  | _ => .int
def ce_RT : String := "ShapeEngine$Sites"
def ce_TT : u_T := fun k => match k with
  | 0 => ("ShapeEngine$Sites", "ran", "[I", true)
  | 1 => ("ShapeEngine$Sites", "hits", "[I", true)
  | 2 => ("ShapeEngine$Sites", "sizes", "[I", true)
  | 3 => ("ShapeEngine$Sites", "many", "[I", true)
  | 4 => ("ShapeEngine$Sites", "gave", "[I", true)
  | 5 => ("ShapeEngine$Sites", "entries", "[I", true)
  | 6 => ("ShapeEngine$Sites", "wayEnds", "[I", true)
  | 7 => ("ShapeEngine$Sites", "guesses", "[I", true)
  | 8 => ("ShapeEngine$Sites", "guessSizes", "[I", true)
  | 9 => ("ShapeEngine$Sites", "readHits", "I", false)
  | 10 => ("ShapeEngine$Sites", "readMisses", "I", false)
  | _ => ("ShapeEngine$Sites", "broken", "I", false)
def ce_tyT : Nat → FieldType := fun k => match k with
  | 0 => .array .int
  | 1 => .array .int
  | 2 => .array .int
  | 3 => .array .int
  | 4 => .array .int
  | 5 => .array .int
  | 6 => .array .int
  | 7 => .array .int
  | 8 => .array .int
  | 9 => .int
  | 10 => .int
  | _ => .int
def ce_RF : String := "ShapeEngine$Functions"
def ce_TF : u_T := fun k => match k with
  | 0 => ("ShapeEngine$Functions", "calls", "[I", true)
  | 1 => ("ShapeEngine$Functions", "counts", "[I", true)
  | 2 => ("ShapeEngine$Functions", "made", "[I", true)
  | 3 => ("ShapeEngine$Functions", "mades", "[I", true)
  | 4 => ("ShapeEngine$Functions", "lefts", "[I", true)
  | 5 => ("ShapeEngine$Functions", "leftAt", "[I", true)
  | 6 => ("ShapeEngine$Functions", "madeInAll", "I", false)
  | _ => ("ShapeEngine$Functions", "leftInAll", "I", false)
def ce_tyF : Nat → FieldType := fun k => match k with
  | 0 => .array .int
  | 1 => .array .int
  | 2 => .array .int
  | 3 => .array .int
  | 4 => .array .int
  | 5 => .array .int
  | 6 => .int
  | _ => .int
def ce_RV : String := "ShapeEngine$Values"
def ce_TV : u_T := fun k => match k with
  | 0 => ("ShapeEngine$Values", "most", "I", true)
  | 1 => ("ShapeEngine$Values", "sorts", "[B", false)
  | _ => ("ShapeEngine$Values", "numbers", "[J", false)
def ce_tyV : Nat → FieldType := fun k => match k with
  | 0 => .int
  | 1 => .array .byte
  | _ => .array .long
def ce_RA : String := "java/util/Arrays"
def ce_ct : Nat → Nat × Nat × Nat := fun k => match k with
  | 0 => (0, 0, 7)
  | 1 => (2, 0, 1500)
  | 2 => (0, 1, 13)
  | 3 => (5, 0, 12)
  | 4 => (5, 0, 500)
  | 5 => (1, 0, 500)
  | 6 => (1, 0, 500)
  | 7 => (0, 2, 9)
  | 8 => (5, 0, 12)
  | 9 => (3, 0, 1501)
  | 10 => (3, 0, 1501)
  | 11 => (5, 0, 1501)
  | 12 => (0, 3, 16)
  | 13 => (2, 0, 2400)
  | 14 => (1, 0, 2400)
  | 15 => (3, 0, 2400)
  | 16 => (1, 0, 80)
  | 17 => (1, 0, 80)
  | 18 => (1, 0, 80)
  | 19 => (5, 0, 80)
  | 20 => (5, 0, 8)
  | 21 => (1, 0, 8)
  | 22 => (1, 0, 8)
  | 23 => (0, 3, 16)
  | 24 => (2, 0, 2400)
  | 25 => (1, 0, 2400)
  | 26 => (3, 0, 2400)
  | 27 => (1, 0, 80)
  | 28 => (1, 0, 80)
  | 29 => (1, 0, 80)
  | 30 => (5, 0, 80)
  | 31 => (5, 0, 8)
  | 32 => (1, 0, 8)
  | 33 => (1, 0, 8)
  | 34 => (0, 4, 20)
  | 35 => (1, 0, 12)
  | 36 => (0, 5, 14)
  | 37 => (1, 0, 200)
  | 38 => (1, 0, 200)
  | 39 => (1, 0, 200)
  | 40 => (1, 0, 200)
  | 41 => (1, 0, 200)
  | 42 => (5, 0, 800)
  | 43 => (0, 6, 9)
  | 44 => (1, 0, 201)
  | 45 => (0, 7, 7)
  | 46 => (1, 0, 60)
  | 47 => (1, 0, 60)
  | 48 => (1, 0, 60)
  | 49 => (0, 8, 12)
  | 50 => (1, 0, 80)
  | 51 => (1, 0, 80)
  | 52 => (1, 0, 80)
  | 53 => (1, 0, 80)
  | 54 => (1, 0, 80)
  | 55 => (1, 0, 320)
  | 56 => (1, 0, 320)
  | 57 => (1, 0, 320)
  | 58 => (1, 0, 80)
  | 59 => (0, 9, 8)
  | 60 => (1, 0, 8)
  | 61 => (1, 0, 8)
  | 62 => (1, 0, 8)
  | 63 => (1, 0, 8)
  | 64 => (1, 0, 8)
  | 65 => (1, 0, 8)
  | 66 => (0, 10, 3)
  | 67 => (2, 0, 0)
  | 68 => (5, 0, 0)
  | 69 => (0, 10, 3)
  | 70 => (2, 0, 0)
  | 71 => (5, 0, 0)
  | 72 => (0, 10, 3)
  | 73 => (2, 0, 0)
  | 74 => (5, 0, 0)
  | 75 => (0, 10, 3)
  | 76 => (2, 0, 0)
  | 77 => (5, 0, 0)
  | 78 => (0, 10, 3)
  | 79 => (2, 0, 0)
  | 80 => (5, 0, 0)
  | 81 => (1, 0, 0)
  | 82 => (1, 0, 0)
  | 83 => (1, 0, 0)
  | 84 => (1, 0, 0)
  | 85 => (5, 0, 0)
  | 86 => (1, 0, 0)
  | 87 => (1, 0, 0)
  | 88 => (5, 0, 0)
  | _ => (1, 0, 0)
def ce_ftE : Nat → Nat × Nat := fun j => match j with
  | 0 => (2, 1)
  | 1 => (0, 0)
  | 2 => (2, 2)
  | 3 => (2, 34)
  | 4 => (3, 0)
  | 5 => (3, 0)
  | _ => (0, 0)
def ce_ftC : Nat → Nat × Nat := fun j => match j with
  | 0 => (2, 7)
  | 1 => (3, 0)
  | 2 => (0, 0)
  | 3 => (0, 0)
  | 4 => (0, 0)
  | 5 => (0, 0)
  | 6 => (0, 0)
  | 7 => (2, 3)
  | 8 => (0, 0)
  | 9 => (2, 4)
  | 10 => (2, 5)
  | 11 => (2, 6)
  | _ => (0, 0)
def ce_ftX : Nat → Nat × Nat := fun j => match j with
  | 0 => (2, 8)
  | 1 => (2, 9)
  | 2 => (2, 10)
  | 3 => (2, 11)
  | 4 => (0, 0)
  | 5 => (0, 0)
  | 6 => (0, 0)
  | 7 => (0, 0)
  | _ => (1, 0)
def ce_ftP0 : Nat → Nat × Nat := fun j => match j with
  | 0 => (2, 13)
  | 1 => (2, 14)
  | 2 => (2, 15)
  | 3 => (0, 0)
  | 4 => (2, 16)
  | 5 => (2, 17)
  | 6 => (2, 18)
  | 7 => (2, 19)
  | 8 => (0, 0)
  | 9 => (2, 20)
  | 10 => (2, 21)
  | 11 => (2, 22)
  | 12 => (0, 0)
  | 13 => (0, 0)
  | 14 => (0, 0)
  | _ => (0, 0)
def ce_ftP1 : Nat → Nat × Nat := fun j => match j with
  | 0 => (2, 24)
  | 1 => (2, 25)
  | 2 => (2, 26)
  | 3 => (0, 0)
  | 4 => (2, 27)
  | 5 => (2, 28)
  | 6 => (2, 29)
  | 7 => (2, 30)
  | 8 => (0, 0)
  | 9 => (2, 31)
  | 10 => (2, 32)
  | 11 => (2, 33)
  | 12 => (0, 0)
  | 13 => (0, 0)
  | 14 => (0, 0)
  | _ => (0, 0)
def ce_ftM : Nat → Nat × Nat := fun j => match j with
  | 0 => (2, 36)
  | 1 => (2, 45)
  | 2 => (2, 49)
  | 3 => (2, 59)
  | 4 => (2, 72)
  | 5 => (0, 0)
  | 6 => (3, 0)
  | 7 => (2, 75)
  | 8 => (0, 0)
  | 9 => (2, 78)
  | 10 => (2, 35)
  | 11 => (0, 0)
  | 12 => (0, 0)
  | 13 => (0, 0)
  | 14 => (0, 0)
  | 15 => (0, 0)
  | 16 => (0, 0)
  | 17 => (0, 0)
  | 18 => (0, 0)
  | _ => (0, 0)
def ce_ftH : Nat → Nat × Nat := fun j => match j with
  | 0 => (2, 43)
  | 1 => (2, 37)
  | 2 => (2, 38)
  | 3 => (2, 39)
  | 4 => (2, 40)
  | 5 => (2, 41)
  | 6 => (2, 42)
  | 7 => (0, 0)
  | 8 => (0, 0)
  | 9 => (2, 88)
  | 10 => (2, 89)
  | 11 => (2, 66)
  | 12 => (0, 0)
  | _ => (0, 0)
def ce_ftS : Nat → Nat × Nat := fun j => match j with
  | 0 => (2, 44)
  | 1 => (2, 81)
  | 2 => (2, 82)
  | 3 => (2, 83)
  | 4 => (2, 84)
  | 5 => (2, 85)
  | 6 => (2, 86)
  | 7 => (2, 87)
  | _ => (0, 0)
def ce_ftR : Nat → Nat × Nat := fun j => match j with
  | 0 => (2, 46)
  | 1 => (2, 47)
  | 2 => (2, 48)
  | 3 => (2, 69)
  | 4 => (0, 0)
  | 5 => (0, 0)
  | _ => (0, 0)
def ce_ftT : Nat → Nat × Nat := fun j => match j with
  | 0 => (2, 50)
  | 1 => (2, 51)
  | 2 => (2, 52)
  | 3 => (2, 53)
  | 4 => (2, 54)
  | 5 => (2, 55)
  | 6 => (2, 56)
  | 7 => (2, 57)
  | 8 => (2, 58)
  | 9 => (0, 0)
  | 10 => (0, 0)
  | _ => (0, 0)
def ce_ftF : Nat → Nat × Nat := fun j => match j with
  | 0 => (2, 60)
  | 1 => (2, 61)
  | 2 => (2, 62)
  | 3 => (2, 63)
  | 4 => (2, 64)
  | 5 => (2, 65)
  | 6 => (0, 0)
  | _ => (0, 0)
def ce_ftV0 : Nat → Nat × Nat := fun j => match j with
  | 0 => (0, 0)
  | 1 => (2, 67)
  | _ => (2, 68)
def ce_ftV1 : Nat → Nat × Nat := fun j => match j with
  | 0 => (0, 0)
  | 1 => (2, 70)
  | _ => (2, 71)
def ce_ftV2 : Nat → Nat × Nat := fun j => match j with
  | 0 => (0, 0)
  | 1 => (2, 73)
  | _ => (2, 74)
def ce_ftV3 : Nat → Nat × Nat := fun j => match j with
  | 0 => (0, 0)
  | 1 => (2, 76)
  | _ => (2, 77)
def ce_ftV4 : Nat → Nat × Nat := fun j => match j with
  | 0 => (0, 0)
  | 1 => (2, 79)
  | _ => (2, 80)
def ce_ft : Nat → Nat → Nat × Nat := fun k => match k with
  | 0 => ce_ftE
  | 2 => ce_ftC
  | 7 => ce_ftX
  | 12 => ce_ftP0
  | 23 => ce_ftP1
  | 34 => ce_ftM
  | 36 => ce_ftH
  | 43 => ce_ftS
  | 45 => ce_ftR
  | 49 => ce_ftT
  | 59 => ce_ftF
  | 66 => ce_ftV0
  | 69 => ce_ftV1
  | 72 => ce_ftV2
  | 75 => ce_ftV3
  | 78 => ce_ftV4
  | _ => fun _ => (0, 0)
/-- whose field a growing row is -/
def ce_ow : Nat → Nat × Nat := fun c => match c with
  | 67 => (66, 1)
  | 68 => (66, 2)
  | 70 => (69, 1)
  | 71 => (69, 2)
  | 73 => (72, 1)
  | 74 => (72, 2)
  | 76 => (75, 1)
  | 77 => (75, 2)
  | 79 => (78, 1)
  | 80 => (78, 2)
  | 81 => (43, 1)
  | 82 => (43, 2)
  | 83 => (43, 3)
  | 84 => (43, 4)
  | 85 => (43, 5)
  | 86 => (43, 6)
  | 87 => (43, 7)
  | 88 => (36, 9)
  | 89 => (36, 10)
  | _ => (0, 0)
/-- the moving references are none of the growing rows -/
def zdy (u : zMu) : Bool := decide (zR u 0 4 < 66 ∧ zR u 0 5 < 66 ∧ zR u 2 1 < 66 ∧ zR u 34 6 < 66)
def ce_chk : Bool := (List.range 90).all fun k => (ce_ct k).1 != 0 || (List.range (ce_ct k).2.2).all fun j => ((ce_ft k j).1 != 2 || (ce_ct (ce_ft k j).2).2.2 != 0 || ce_ow (ce_ft k j).2 == (k, j)) && ((ce_ft k j).1 != 3 || (k == 0 && j == 4) || (k == 0 && j == 5) || (k == 2 && j == 1) || (k == 34 && j == 6)) && decide ((ce_ft k j).1 ≤ 3)
theorem ce_chk_ok : ce_chk = true := by decide +kernel
def ce_chk2 : Bool := (List.range 90).all fun k => decide (k < 66) || (ce_ct k).2.2 != 0 || decide (1 ≤ (ce_ct k).1)
def ce_tb : zTb := (90, 66, ce_ct, ce_ft)
abbrev ce_cl : List vw_C := [(ce_RE, ce_TE, 7), (ce_RC, ce_TC, 13), (ce_RX, ce_TX, 9), (ce_RP, ce_TP, 16), (ce_RM, ce_TM, 20), (ce_RH, ce_TH, 14), (ce_RS, ce_TS, 9), (ce_RR, ce_TR, 7), (ce_RT, ce_TT, 12), (ce_RF, ce_TF, 8), (ce_RV, ce_TV, 3)]
def ceY_C_compile : MethodName := ⟨ce_RC, "compile", "([BILShapeEngine$Program;)V"⟩
def ceY_C_begin : MethodName := ⟨ce_RC, "begin", "(ILShapeEngine$Program;)V"⟩
def ceY_C_compileHead : MethodName := ⟨ce_RC, "compileHead", "()V"⟩
def ceY_C_compileNames : MethodName := ⟨ce_RC, "compileNames", "()V"⟩
def ceY_C_compileBlock : MethodName := ⟨ce_RC, "compileBlock", "()V"⟩
def ceY_C_compileStep : MethodName := ⟨ce_RC, "compileStep", "()V"⟩
def ceY_C_compileLet : MethodName := ⟨ce_RC, "compileLet", "()V"⟩
def ceY_C_compileIf : MethodName := ⟨ce_RC, "compileIf", "()V"⟩
def ceY_C_compileWhile : MethodName := ⟨ce_RC, "compileWhile", "()V"⟩
def ceY_C_compilePlain : MethodName := ⟨ce_RC, "compilePlain", "(I)V"⟩
def ceY_C_compileDel : MethodName := ⟨ce_RC, "compileDel", "()V"⟩
def ceY_C_compilePut : MethodName := ⟨ce_RC, "compilePut", "()V"⟩
def ceY_C_compileE : MethodName := ⟨ce_RC, "compileE", "(I)I"⟩
def ceY_C_bindsAt : MethodName := ⟨ce_RC, "bindsAt", "(I)Z"⟩
def ceY_C_compileRest : MethodName := ⟨ce_RC, "compileRest", "(I)V"⟩
def ceY_C_opOf : MethodName := ⟨ce_RC, "opOf", "(I)I"⟩
def ceY_C_compilePost : MethodName := ⟨ce_RC, "compilePost", "()I"⟩
def ceY_C_compileMember : MethodName := ⟨ce_RC, "compileMember", "()I"⟩
def ceY_C_compileItem : MethodName := ⟨ce_RC, "compileItem", "()I"⟩
def ceY_C_compileOne : MethodName := ⟨ce_RC, "compileOne", "()I"⟩
def ceY_C_compileNegated : MethodName := ⟨ce_RC, "compileNegated", "()V"⟩
def ceY_C_compileMade : MethodName := ⟨ce_RC, "compileMade", "(I)V"⟩
def ceY_C_compileNamed : MethodName := ⟨ce_RC, "compileNamed", "()I"⟩
def ceY_C_compileArguments : MethodName := ⟨ce_RC, "compileArguments", "()I"⟩
def ceY_C_keepCall : MethodName := ⟨ce_RC, "keepCall", "(JII)V"⟩
def ceY_C_settleCalls : MethodName := ⟨ce_RC, "settleCalls", "()V"⟩
def ceY_C_variableNamed : MethodName := ⟨ce_RC, "variableNamed", "(J)I"⟩
def ceY_C_addVariable : MethodName := ⟨ce_RC, "addVariable", "(JI)I"⟩
def ceY_C_addSite : MethodName := ⟨ce_RC, "addSite", "(IIJ)I"⟩
def ceY_C_takes : MethodName := ⟨ce_RC, "takes", "(I)Z"⟩
def ceY_C_expect : MethodName := ⟨ce_RC, "expect", "(I)V"⟩
def ceY_C_opens : MethodName := ⟨ce_RC, "opens", "(I)V"⟩
def ceY_C_closes : MethodName := ⟨ce_RC, "closes", "(I)V"⟩
def ceY_C_refuse : MethodName := ⟨ce_RC, "refuse", "()V"⟩
def ceY_C_note : MethodName := ⟨ce_RC, "note", "(II)V"⟩
def ceY_F_clear : MethodName := ⟨ce_RF, "clear", "()V"⟩
def ceY_F_isCold : MethodName := ⟨ce_RF, "isCold", "(I)Z"⟩
def ceY_F_makes : MethodName := ⟨ce_RF, "makes", "(I)Z"⟩
def ceY_F_leave : MethodName := ⟨ce_RF, "leave", "(II)V"⟩
def ceY_H_clear : MethodName := ⟨ce_RH, "clear", "()V"⟩
def ceY_H_isObject : MethodName := ⟨ce_RH, "isObject", "(I)Z"⟩
def ceY_H_addObject : MethodName := ⟨ce_RH, "addObject", "(I)I"⟩
def ceY_H_isOnLine : MethodName := ⟨ce_RH, "isOnLine", "(II)Z"⟩
def ceY_H_find : MethodName := ⟨ce_RH, "find", "(IJ)I"⟩
def ceY_H_holderOf : MethodName := ⟨ce_RH, "holderOf", "(IJ)I"⟩
def ceY_H_cellAt : MethodName := ⟨ce_RH, "cellAt", "(II)I"⟩
def ceY_H_give : MethodName := ⟨ce_RH, "give", "(IJIJ)V"⟩
def ceY_H_append : MethodName := ⟨ce_RH, "append", "(IJ)I"⟩
def ceY_H_freshCell : MethodName := ⟨ce_RH, "freshCell", "()I"⟩
def ceY_H_loseShape : MethodName := ⟨ce_RH, "loseShape", "(I)V"⟩
def ceY_H_strike : MethodName := ⟨ce_RH, "strike", "(IJ)V"⟩
def ceY_X_begin : MethodName := ⟨ce_RX, "begin", "([BI)V"⟩
def ceY_X_advance : MethodName := ⟨ce_RX, "advance", "()V"⟩
def ceY_X_add : MethodName := ⟨ce_RX, "add", "(IIJ)V"⟩
def ceY_X_takeWord : MethodName := ⟨ce_RX, "takeWord", "([BII)I"⟩
def ceY_X_kindOf : MethodName := ⟨ce_RX, "kindOf", "(J)I"⟩
def ceY_X_takeNumber : MethodName := ⟨ce_RX, "takeNumber", "([BII)I"⟩
def ceY_X_takeSign : MethodName := ⟨ce_RX, "takeSign", "([BII)I"⟩
def ceY_X_isLetter : MethodName := ⟨ce_RX, "isLetter", "(B)Z"⟩
def ceY_X_isDigit : MethodName := ⟨ce_RX, "isDigit", "(B)Z"⟩
def ceY_M_load : MethodName := ⟨ce_RM, "load", "(LShapeEngine$Program;)V"⟩
def ceY_M_execute : MethodName := ⟨ce_RM, "execute", "(I)I"⟩
def ceY_M_perform : MethodName := ⟨ce_RM, "perform", "()V"⟩
def ceY_M_fail : MethodName := ⟨ce_RM, "fail", "(II)V"⟩
def ceY_M_takeStep : MethodName := ⟨ce_RM, "takeStep", "()Z"⟩
def ceY_M_push : MethodName := ⟨ce_RM, "push", "(IJ)V"⟩
def ceY_M_pushNumber : MethodName := ⟨ce_RM, "pushNumber", "(J)V"⟩
def ceY_M_sortOf : MethodName := ⟨ce_RM, "sortOf", "(J)I"⟩
def ceY_M_fetch : MethodName := ⟨ce_RM, "fetch", "(I)V"⟩
def ceY_M_store : MethodName := ⟨ce_RM, "store", "(I)V"⟩
def ceY_M_clearVariables : MethodName := ⟨ce_RM, "clearVariables", "()V"⟩
def ceY_M_negate : MethodName := ⟨ce_RM, "negate", "(I)V"⟩
def ceY_M_calculate : MethodName := ⟨ce_RM, "calculate", "(III)V"⟩
def ceY_M_resultOf : MethodName := ⟨ce_RM, "resultOf", "(IJJ)J"⟩
def ceY_M_compare : MethodName := ⟨ce_RM, "compare", "(I)V"⟩
def ceY_M_equate : MethodName := ⟨ce_RM, "equate", "()V"⟩
def ceY_M_makeObject : MethodName := ⟨ce_RM, "makeObject", "(I)V"⟩
def ceY_M_objectAt : MethodName := ⟨ce_RM, "objectAt", "(II)I"⟩
def ceY_M_getMember : MethodName := ⟨ce_RM, "getMember", "(II)V"⟩
def ceY_M_putMember : MethodName := ⟨ce_RM, "putMember", "(II)V"⟩
def ceY_M_strikeMember : MethodName := ⟨ce_RM, "strikeMember", "(II)V"⟩
def ceY_M_leaveMade : MethodName := ⟨ce_RM, "leaveMade", "(I)V"⟩
def ceY_M_makeRow : MethodName := ⟨ce_RM, "makeRow", "(I)V"⟩
def ceY_M_getItem : MethodName := ⟨ce_RM, "getItem", "(I)V"⟩
def ceY_M_putItem : MethodName := ⟨ce_RM, "putItem", "(I)V"⟩
def ceY_M_itemAt : MethodName := ⟨ce_RM, "itemAt", "(I)I"⟩
def ceY_M_measure : MethodName := ⟨ce_RM, "measure", "(I)V"⟩
def ceY_M_enter : MethodName := ⟨ce_RM, "enter", "(II)V"⟩
def ceY_M_leave : MethodName := ⟨ce_RM, "leave", "()V"⟩
def ceY_M_print : MethodName := ⟨ce_RM, "print", "()V"⟩
def ceY_M_branch : MethodName := ⟨ce_RM, "branch", "(II)V"⟩
def ceY_M_keptOnPaper : MethodName := ⟨ce_RM, "keptOnPaper", "()I"⟩
def ceY_M_tellOfRun : MethodName := ⟨ce_RM, "tellOfRun", "(I)I"⟩
def ceY_M_tellOfCaches : MethodName := ⟨ce_RM, "tellOfCaches", "(I)I"⟩
def ceY_P_begin : MethodName := ⟨ce_RP, "begin", "(I)V"⟩
def ceY_P_emit : MethodName := ⟨ce_RP, "emit", "(III)I"⟩
def ceY_P_takeBack : MethodName := ⟨ce_RP, "takeBack", "()I"⟩
def ceY_P_aim : MethodName := ⟨ce_RP, "aim", "(I)V"⟩
def ceY_P_placeTakenBack : MethodName := ⟨ce_RP, "placeTakenBack", "()I"⟩
def ceY_P_isSite : MethodName := ⟨ce_RP, "isSite", "(I)Z"⟩
def ceY_P_turnSite : MethodName := ⟨ce_RP, "turnSite", "(II)V"⟩
def ceY_P_isFn : MethodName := ⟨ce_RP, "isFn", "(I)Z"⟩
def ceY_P_addName : MethodName := ⟨ce_RP, "addName", "(I)V"⟩
def ceY_P_addSite : MethodName := ⟨ce_RP, "addSite", "(IIIJ)I"⟩
def ceY_P_addFn : MethodName := ⟨ce_RP, "addFn", "(J)I"⟩
def ceY_P_fnNamed : MethodName := ⟨ce_RP, "fnNamed", "(J)I"⟩
def ceY_R_clear : MethodName := ⟨ce_RR, "clear", "()V"⟩
def ceY_R_isRow : MethodName := ⟨ce_RR, "isRow", "(I)Z"⟩
def ceY_R_addRow : MethodName := ⟨ce_RR, "addRow", "(I)I"⟩
def ceY_R_placeOf : MethodName := ⟨ce_RR, "placeOf", "(IJ)I"⟩
def ceY_R_putAt : MethodName := ⟨ce_RR, "putAt", "(IIIJ)V"⟩
def ceY_R_neededFor : MethodName := ⟨ce_RR, "neededFor", "(IJ)I"⟩
def ceY_S_clear : MethodName := ⟨ce_RS, "clear", "()V"⟩
def ceY_S_isShape : MethodName := ⟨ce_RS, "isShape", "(I)Z"⟩
def ceY_S_isParent : MethodName := ⟨ce_RS, "isParent", "(I)Z"⟩
def ceY_S_parentOf : MethodName := ⟨ce_RS, "parentOf", "(I)I"⟩
def ceY_S_rootOf : MethodName := ⟨ce_RS, "rootOf", "(I)I"⟩
def ceY_S_with : MethodName := ⟨ce_RS, "with", "(IJ)I"⟩
def ceY_S_add : MethodName := ⟨ce_RS, "add", "(IIJ)I"⟩
def ceY_S_grow : MethodName := ⟨ce_RS, "grow", "()V"⟩
def ceY_T_clear : MethodName := ⟨ce_RT, "clear", "()V"⟩
def ceY_T_meetRead : MethodName := ⟨ce_RT, "meetRead", "(III)V"⟩
def ceY_T_meetPut : MethodName := ⟨ce_RT, "meetPut", "(II)V"⟩
def ceY_T_meetStrike : MethodName := ⟨ce_RT, "meetStrike", "(I)V"⟩
def ceY_T_meetSum : MethodName := ⟨ce_RT, "meetSum", "(II)V"⟩
def ceY_T_meets : MethodName := ⟨ce_RT, "meets", "(III)Z"⟩
def ceY_T_enter : MethodName := ⟨ce_RT, "enter", "(III)V"⟩
def ceY_T_entryAt : MethodName := ⟨ce_RT, "entryAt", "(II)I"⟩
def ceY_T_breakWays : MethodName := ⟨ce_RT, "breakWays", "(ILShapeEngine$Heap;I)V"⟩
def ceY_T_isOnWay : MethodName := ⟨ce_RT, "isOnWay", "(IILShapeEngine$Heap;)Z"⟩
def ceY_T_hasGuess : MethodName := ⟨ce_RT, "hasGuess", "(I)Z"⟩
def ceY_T_guessed : MethodName := ⟨ce_RT, "guessed", "(II)Z"⟩
def ceY_T_takeGuesses : MethodName := ⟨ce_RT, "takeGuesses", "(LShapeEngine$Program;I)V"⟩
def ceY_T_guessShapes : MethodName := ⟨ce_RT, "guessShapes", "(I)V"⟩
def ceY_T_dropGuesses : MethodName := ⟨ce_RT, "dropGuesses", "(LShapeEngine$Program;I)V"⟩
def ceY_V_set : MethodName := ⟨ce_RV, "set", "(IIJ)V"⟩
def ceY_V_grow : MethodName := ⟨ce_RV, "grow", "(I)V"⟩
def ceY_V_sortAt : MethodName := ⟨ce_RV, "sortAt", "(I)I"⟩
def ceY_V_numberAt : MethodName := ⟨ce_RV, "numberAt", "(I)J"⟩
def ceY_V_isNumberAt : MethodName := ⟨ce_RV, "isNumberAt", "(I)Z"⟩
def ceY_V_worthAt : MethodName := ⟨ce_RV, "worthAt", "(I)J"⟩
def ceY_V_referenceAt : MethodName := ⟨ce_RV, "referenceAt", "(I)I"⟩
def ceY_E_feed : MethodName := ⟨ce_RE, "feed", "(IJ)I"⟩
def ceY_E_read : MethodName := ⟨ce_RE, "read", "()I"⟩
def ceY_E_fault : MethodName := ⟨ce_RE, "fault", "(I)I"⟩
def ceY_E_run : MethodName := ⟨ce_RE, "run", "(I)I"⟩
def ceY_E_told : MethodName := ⟨ce_RE, "told", "(I)I"⟩
def ceY_E_paper : MethodName := ⟨ce_RE, "paper", "(II)I"⟩
def ceY_E_printed : MethodName := ⟨ce_RE, "printed", "(I)J"⟩
def ceY_E_object : MethodName := ⟨ce_RE, "object", "(II)I"⟩
def ceY_E_member : MethodName := ⟨ce_RE, "member", "(III)I"⟩
def ceY_E_worth : MethodName := ⟨ce_RE, "worth", "(II)J"⟩
def ceY_E_letter : MethodName := ⟨ce_RE, "letter", "(III)I"⟩
def ceY_E_row : MethodName := ⟨ce_RE, "row", "(II)I"⟩
def ceY_E_item : MethodName := ⟨ce_RE, "item", "(II)J"⟩
def ceY_E_shape : MethodName := ⟨ce_RE, "shape", "(II)I"⟩
def ceY_E_site : MethodName := ⟨ce_RE, "site", "(II)I"⟩
def ceY_E_fn : MethodName := ⟨ce_RE, "fn", "(II)I"⟩
def ceY_E_count : MethodName := ⟨ce_RE, "count", "(I)I"⟩
def ceY_fill : MethodName := ⟨ce_RA, "fill", "([II)V"⟩
def ceY_copyB : MethodName := ⟨ce_RA, "copyOf", "([BI)[B"⟩
def ceY_copyI : MethodName := ⟨ce_RA, "copyOf", "([II)[I"⟩
def ceY_copyL : MethodName := ⟨ce_RA, "copyOf", "([JI)[J"⟩
def jsY_canEncode : MethodName := ⟨"java/lang/StringLatin1", "canEncode", "(I)Z"⟩
def jsY_indexOfChar : MethodName := ⟨"java/lang/StringLatin1", "indexOfChar", "([BIII)I"⟩
def jsY_indexOfB : MethodName := ⟨"java/lang/StringLatin1", "indexOf", "([BIII)I"⟩
def jsY_isLatin1 : MethodName := ⟨"java/lang/String", "isLatin1", "()Z"⟩
def jsY_coder : MethodName := ⟨"java/lang/String", "coder", "()B"⟩
def jsY_length : MethodName := ⟨"java/lang/String", "length", "()I"⟩
def jsY_indexOf2 : MethodName := ⟨"java/lang/String", "indexOf", "(II)I"⟩
def jsY_indexOf1 : MethodName := ⟨"java/lang/String", "indexOf", "(I)I"⟩
def ce_gl0 : List Cond := [Cond.constantLong ce_RX 100 (536870911), Cond.constantLong ce_RX 98 (10), Cond.methodLink ce_RC 228 Lib.Math.max.name, Cond.static Lib.Math.max.name, Cond.initialized "java/lang/Math", Cond.code Lib.Math.max.name Lib.Math.max.code 2 (some .int), Cond.methodLink ce_RS 58 Lib.Math.min.name, Cond.static Lib.Math.min.name, Cond.code Lib.Math.min.name Lib.Math.min.code 2 (some .int), Cond.methodLink ce_RS 64 Lib.Math.max.name, Cond.methodLink ce_RV 9 Lib.Math.max.name, Cond.methodLink ce_RV 33 Lib.Math.min.name, Cond.constantLong ce_RM 201 (-1073741824), Cond.constantLong ce_RM 203 (1073741823), Cond.methodLink ce_RM 261 Lib.Math.max.name, Cond.constantLong ce_RM 310 (50), Cond.constantLong ce_RR 52 (-128), Cond.constantLong ce_RR 54 (127), Cond.constantLong ce_RM 110 (2400), Cond.methodLink ce_RM 347 Lib.Math.min.name, Cond.fieldLink ce_RP 45 "ShapeEngine$Program" "length" "I", Cond.fieldLink ce_RP 49 "ShapeEngine$Program" "sites" "I", Cond.fieldLink ce_RP 52 "ShapeEngine$Program" "fns" "I", Cond.fieldLink ce_RP 55 "ShapeEngine$Program" "mainStart" "I", Cond.fieldLink ce_RP 58 "ShapeEngine$Program" "mainVariables" "I", Cond.fieldLink ce_RP 61 "ShapeEngine$Program" "bytes" "I", Cond.fieldLink ce_RC 52 "ShapeEngine$Compiler" "program" "LShapeEngine$Program;", Cond.fieldLink ce_RC 80 "ShapeEngine$Compiler" "refused" "Z", Cond.fieldLink ce_RC 90 "ShapeEngine$Compiler" "faultKind" "I", Cond.fieldLink ce_RC 18 "ShapeEngine$Compiler" "faultPlace" "I", Cond.fieldLink ce_RC 93 "ShapeEngine$Compiler" "open" "I", Cond.fieldLink ce_RC 96 "ShapeEngine$Compiler" "calls" "I", Cond.fieldLink ce_RX 39 "ShapeEngine$Lexer" "keys" "[J", Cond.fieldLink ce_RX 57 "ShapeEngine$Lexer" "tokens" "I", Cond.fieldLink ce_RX 43 "ShapeEngine$Lexer" "kinds" "[S", Cond.fieldLink ce_RX 47 "ShapeEngine$Lexer" "places" "[S", Cond.fieldLink ce_RX 50 "ShapeEngine$Lexer" "values" "[J", Cond.fieldLink ce_RX 81 "ShapeEngine$Lexer" "current" "I", Cond.fieldLink ce_RX 53 "ShapeEngine$Lexer" "kind" "I", Cond.fieldLink ce_RX 87 "ShapeEngine$Lexer" "place" "I"]
def ce_gl1 : List Cond := [Cond.fieldLink ce_RX 90 "ShapeEngine$Lexer" "value" "J", Cond.fieldLink ce_RC 12 "ShapeEngine$Compiler" "lexer" "LShapeEngine$Lexer;", Cond.fieldLink ce_RC 116 "ShapeEngine$Lexer" "place" "I", Cond.fieldLink ce_RC 43 "ShapeEngine$Lexer" "kind" "I", Cond.fieldLink ce_RP 36 "ShapeEngine$Program" "fnNames" "[J", Cond.fieldLink ce_RP 39 "ShapeEngine$Program" "fnStarts" "[I", Cond.fieldLink ce_RP 42 "ShapeEngine$Program" "fnTakes" "[I", Cond.fieldLink ce_RC 65 "ShapeEngine$Compiler" "known" "I", Cond.fieldLink ce_RC 22 "ShapeEngine$Compiler" "variables" "[J", Cond.fieldLink ce_RC 108 "ShapeEngine$Lexer" "value" "J", Cond.fieldLink ce_RC 62 "ShapeEngine$Compiler" "scope" "I", Cond.fieldLink ce_RC 99 "ShapeEngine$Program" "fns" "I", Cond.fieldLink ce_RP 11 "ShapeEngine$Program" "ops" "[B", Cond.fieldLink ce_RP 15 "ShapeEngine$Program" "args" "[I", Cond.fieldLink ce_RP 19 "ShapeEngine$Program" "places" "[S", Cond.fieldLink ce_RC 26 "ShapeEngine$Compiler" "callNames" "[J", Cond.fieldLink ce_RC 29 "ShapeEngine$Compiler" "callCounts" "[I", Cond.fieldLink ce_RC 33 "ShapeEngine$Compiler" "callCodes" "[I", Cond.fieldLink ce_RP 23 "ShapeEngine$Program" "siteKinds" "[I", Cond.fieldLink ce_RP 26 "ShapeEngine$Program" "sitePlaces" "[I", Cond.fieldLink ce_RP 29 "ShapeEngine$Program" "siteFns" "[I", Cond.fieldLink ce_RP 32 "ShapeEngine$Program" "siteNames" "[J", Cond.fieldLink ce_RC 68 "ShapeEngine$Program" "length" "I", Cond.fieldLink ce_RC 234 "ShapeEngine$Program" "places" "[S", Cond.fieldLink ce_RC 238 "ShapeEngine$Program" "fnTakes" "[I", Cond.fieldLink ce_RC 241 "ShapeEngine$Program" "args" "[I", Cond.fieldLink ce_RC 71 "ShapeEngine$Program" "mainStart" "I", Cond.fieldLink ce_RC 77 "ShapeEngine$Program" "mainVariables" "I", Cond.fieldLink ce_RF 9 "ShapeEngine$Functions" "calls" "[I", Cond.fieldLink ce_RF 15 "ShapeEngine$Functions" "counts" "[I", Cond.fieldLink ce_RF 18 "ShapeEngine$Functions" "made" "[I", Cond.fieldLink ce_RF 21 "ShapeEngine$Functions" "mades" "[I", Cond.fieldLink ce_RF 24 "ShapeEngine$Functions" "lefts" "[I", Cond.fieldLink ce_RF 27 "ShapeEngine$Functions" "leftAt" "[I", Cond.fieldLink ce_RF 36 "ShapeEngine$Functions" "madeInAll" "I", Cond.fieldLink ce_RF 40 "ShapeEngine$Functions" "leftInAll" "I", Cond.fieldLink ce_RS 9 "ShapeEngine$Shapes" "roots" "[I", Cond.fieldLink ce_RS 43 "ShapeEngine$Shapes" "made" "I", Cond.fieldLink ce_RH 12 "ShapeEngine$Heap" "shapes" "LShapeEngine$Shapes;", Cond.fieldLink ce_RH 56 "ShapeEngine$Heap" "made" "I"]
def ce_gl2 : List Cond := [Cond.fieldLink ce_RH 60 "ShapeEngine$Heap" "dictionaries" "I", Cond.fieldLink ce_RH 63 "ShapeEngine$Heap" "used" "I", Cond.fieldLink ce_RH 66 "ShapeEngine$Heap" "free" "I", Cond.fieldLink ce_RS 15 "ShapeEngine$Shapes" "parents" "[I", Cond.fieldLink ce_RS 18 "ShapeEngine$Shapes" "lengths" "[I", Cond.fieldLink ce_RS 21 "ShapeEngine$Shapes" "shorter" "[I", Cond.fieldLink ce_RS 24 "ShapeEngine$Shapes" "longer" "[I", Cond.fieldLink ce_RS 27 "ShapeEngine$Shapes" "names" "[J", Cond.fieldLink ce_RS 31 "ShapeEngine$Shapes" "firstLonger" "[I", Cond.fieldLink ce_RS 34 "ShapeEngine$Shapes" "nextSibling" "[I", Cond.fieldLink ce_RH 22 "ShapeEngine$Heap" "parents" "[I", Cond.fieldLink ce_RH 18 "ShapeEngine$Heap" "forms" "[I", Cond.fieldLink ce_RH 25 "ShapeEngine$Heap" "sizes" "[I", Cond.fieldLink ce_RH 28 "ShapeEngine$Heap" "firsts" "[I", Cond.fieldLink ce_RH 31 "ShapeEngine$Heap" "lasts" "[I", Cond.fieldLink ce_RH 34 "ShapeEngine$Heap" "lines" "[J", Cond.fieldLink ce_RH 38 "ShapeEngine$Heap" "names" "[J", Cond.fieldLink ce_RH 41 "ShapeEngine$Heap" "nexts" "[I", Cond.fieldLink ce_RV 15 "ShapeEngine$Values" "most" "I", Cond.fieldLink ce_RV 21 "ShapeEngine$Values" "sorts" "[B", Cond.fieldLink ce_RV 25 "ShapeEngine$Values" "numbers" "[J", Cond.fieldLink ce_RH 49 "ShapeEngine$Heap" "values" "LShapeEngine$Values;", Cond.fieldLink ce_RR 30 "ShapeEngine$Rows" "used" "I", Cond.fieldLink ce_RR 34 "ShapeEngine$Rows" "made" "I", Cond.fieldLink ce_RR 37 "ShapeEngine$Rows" "widened" "I", Cond.fieldLink ce_RT 9 "ShapeEngine$Sites" "ran" "[I", Cond.fieldLink ce_RT 15 "ShapeEngine$Sites" "hits" "[I", Cond.fieldLink ce_RT 18 "ShapeEngine$Sites" "sizes" "[I", Cond.fieldLink ce_RT 21 "ShapeEngine$Sites" "many" "[I", Cond.fieldLink ce_RT 24 "ShapeEngine$Sites" "gave" "[I", Cond.fieldLink ce_RT 36 "ShapeEngine$Sites" "guessSizes" "[I", Cond.fieldLink ce_RT 45 "ShapeEngine$Sites" "readHits" "I", Cond.fieldLink ce_RT 49 "ShapeEngine$Sites" "readMisses" "I", Cond.fieldLink ce_RT 52 "ShapeEngine$Sites" "broken" "I", Cond.fieldLink ce_RM 58 "ShapeEngine$Machine" "program" "LShapeEngine$Program;", Cond.fieldLink ce_RM 12 "ShapeEngine$Machine" "heap" "LShapeEngine$Heap;", Cond.fieldLink ce_RM 21 "ShapeEngine$Machine" "rows" "LShapeEngine$Rows;", Cond.fieldLink ce_RM 28 "ShapeEngine$Machine" "sites" "LShapeEngine$Sites;", Cond.fieldLink ce_RM 35 "ShapeEngine$Machine" "functions" "LShapeEngine$Functions;", Cond.fieldLink ce_RM 68 "ShapeEngine$Machine" "printedInAll" "I"]
def ce_gl3 : List Cond := [Cond.fieldLink ce_RM 72 "ShapeEngine$Machine" "top" "I", Cond.fieldLink ce_RM 75 "ShapeEngine$Machine" "depth" "I", Cond.fieldLink ce_RM 78 "ShapeEngine$Machine" "deepest" "I", Cond.fieldLink ce_RM 81 "ShapeEngine$Machine" "steps" "I", Cond.fieldLink ce_RM 84 "ShapeEngine$Machine" "calls" "I", Cond.fieldLink ce_RM 87 "ShapeEngine$Machine" "failure" "I", Cond.fieldLink ce_RM 90 "ShapeEngine$Machine" "failurePlace" "I", Cond.fieldLink ce_RM 51 "ShapeEngine$Machine" "variables" "LShapeEngine$Values;", Cond.fieldLink ce_RM 93 "ShapeEngine$Machine" "limit" "I", Cond.fieldLink ce_RM 104 "ShapeEngine$Machine" "ending" "I", Cond.fieldLink ce_RM 48 "ShapeEngine$Machine" "stack" "LShapeEngine$Values;", Cond.fieldLink ce_RT 87 "ShapeEngine$Program" "sites" "I", Cond.fieldLink ce_RT 92 "ShapeEngine$Program" "siteFns" "[I", Cond.fieldLink ce_RM 298 "ShapeEngine$Program" "siteFns" "[I", Cond.fieldLink ce_RT 27 "ShapeEngine$Sites" "entries" "[I", Cond.fieldLink ce_RT 30 "ShapeEngine$Sites" "wayEnds" "[I", Cond.fieldLink ce_RT 33 "ShapeEngine$Sites" "guesses" "[I", Cond.fieldLink ce_RM 250 "ShapeEngine$Program" "siteNames" "[J", Cond.fieldLink ce_RM 258 "ShapeEngine$Heap" "forms" "[I", Cond.fieldLink ce_RM 276 "ShapeEngine$Heap" "values" "LShapeEngine$Values;", Cond.fieldLink ce_RT 63 "ShapeEngine$Heap" "shapes" "LShapeEngine$Shapes;", Cond.fieldLink ce_RM 282 "ShapeEngine$Program" "sites" "I", Cond.fieldLink ce_RR 9 "ShapeEngine$Rows" "kinds" "[I", Cond.fieldLink ce_RR 15 "ShapeEngine$Rows" "sizes" "[I", Cond.fieldLink ce_RR 18 "ShapeEngine$Rows" "starts" "[I", Cond.fieldLink ce_RR 26 "ShapeEngine$Rows" "items" "LShapeEngine$Values;", Cond.fieldLink ce_RM 318 "ShapeEngine$Rows" "items" "LShapeEngine$Values;", Cond.fieldLink ce_RM 334 "ShapeEngine$Heap" "sizes" "[I", Cond.fieldLink ce_RM 331 "ShapeEngine$Rows" "sizes" "[I", Cond.fieldLink ce_RT 95 "ShapeEngine$Program" "siteKinds" "[I", Cond.fieldLink ce_RM 54 "ShapeEngine$Machine" "returns" "[I", Cond.fieldLink ce_RM 101 "ShapeEngine$Machine" "pc" "I", Cond.fieldLink ce_RM 341 "ShapeEngine$Program" "fnTakes" "[I", Cond.fieldLink ce_RM 344 "ShapeEngine$Program" "fnStarts" "[I", Cond.fieldLink ce_RM 44 "ShapeEngine$Machine" "sheet" "LShapeEngine$Values;", Cond.fieldLink ce_RM 115 "ShapeEngine$Program" "length" "I", Cond.fieldLink ce_RM 118 "ShapeEngine$Program" "ops" "[B", Cond.fieldLink ce_RM 122 "ShapeEngine$Program" "args" "[I", Cond.fieldLink ce_RM 125 "ShapeEngine$Program" "places" "[S", Cond.fieldLink ce_RM 96 "ShapeEngine$Program" "mainStart" "I"]
def ce_gl4 : List Cond := [Cond.fieldLink ce_RM 350 "ShapeEngine$Heap" "made" "I", Cond.fieldLink ce_RM 353 "ShapeEngine$Heap" "shapes" "LShapeEngine$Shapes;", Cond.fieldLink ce_RM 357 "ShapeEngine$Shapes" "made" "I", Cond.fieldLink ce_RM 360 "ShapeEngine$Rows" "made" "I", Cond.fieldLink ce_RM 361 "ShapeEngine$Heap" "dictionaries" "I", Cond.fieldLink ce_RM 364 "ShapeEngine$Sites" "readHits" "I", Cond.fieldLink ce_RM 367 "ShapeEngine$Sites" "readMisses" "I", Cond.fieldLink ce_RM 370 "ShapeEngine$Sites" "broken" "I", Cond.fieldLink ce_RM 373 "ShapeEngine$Functions" "madeInAll" "I", Cond.fieldLink ce_RM 376 "ShapeEngine$Functions" "leftInAll" "I", Cond.fieldLink ce_RM 379 "ShapeEngine$Rows" "widened" "I", Cond.fieldLink ce_RE 41 "ShapeEngine" "taped" "I", Cond.fieldLink ce_RE 9 "ShapeEngine" "tape" "[B", Cond.fieldLink ce_RE 16 "ShapeEngine" "compiler" "LShapeEngine$Compiler;", Cond.fieldLink ce_RE 34 "ShapeEngine" "spare" "LShapeEngine$Program;", Cond.fieldLink ce_RE 49 "ShapeEngine$Compiler" "faultKind" "I", Cond.fieldLink ce_RE 30 "ShapeEngine" "text" "LShapeEngine$Program;", Cond.fieldLink ce_RE 52 "ShapeEngine" "hasText" "Z", Cond.fieldLink ce_RE 23 "ShapeEngine" "machine" "LShapeEngine$Machine;", Cond.fieldLink ce_RE 56 "ShapeEngine$Program" "sites" "I", Cond.fieldLink ce_RE 59 "ShapeEngine$Compiler" "faultPlace" "I", Cond.fieldLink ce_RE 76 "ShapeEngine$Machine" "sheet" "LShapeEngine$Values;", Cond.fieldLink ce_RE 92 "ShapeEngine$Machine" "heap" "LShapeEngine$Heap;", Cond.fieldLink ce_RE 102 "ShapeEngine$Heap" "forms" "[I", Cond.fieldLink ce_RE 106 "ShapeEngine$Heap" "parents" "[I", Cond.fieldLink ce_RE 109 "ShapeEngine$Heap" "sizes" "[I", Cond.fieldLink ce_RE 116 "ShapeEngine$Heap" "values" "LShapeEngine$Values;", Cond.fieldLink ce_RE 119 "ShapeEngine$Heap" "names" "[J", Cond.fieldLink ce_RE 123 "ShapeEngine$Machine" "rows" "LShapeEngine$Rows;", Cond.fieldLink ce_RE 132 "ShapeEngine$Rows" "kinds" "[I", Cond.fieldLink ce_RE 135 "ShapeEngine$Rows" "sizes" "[I", Cond.fieldLink ce_RE 140 "ShapeEngine$Rows" "items" "LShapeEngine$Values;", Cond.fieldLink ce_RE 143 "ShapeEngine$Heap" "shapes" "LShapeEngine$Shapes;", Cond.fieldLink ce_RE 152 "ShapeEngine$Shapes" "parents" "[I", Cond.fieldLink ce_RE 153 "ShapeEngine$Shapes" "lengths" "[I", Cond.fieldLink ce_RE 156 "ShapeEngine$Shapes" "shorter" "[I", Cond.fieldLink ce_RE 159 "ShapeEngine$Shapes" "longer" "[I", Cond.fieldLink ce_RE 165 "ShapeEngine$Machine" "sites" "LShapeEngine$Sites;", Cond.fieldLink ce_RE 168 "ShapeEngine$Program" "siteKinds" "[I", Cond.fieldLink ce_RE 171 "ShapeEngine$Program" "sitePlaces" "[I"]
def ce_gl5 : List Cond := [Cond.fieldLink ce_RE 174 "ShapeEngine$Sites" "ran" "[I", Cond.fieldLink ce_RE 179 "ShapeEngine$Sites" "hits" "[I", Cond.fieldLink ce_RE 182 "ShapeEngine$Sites" "gave" "[I", Cond.fieldLink ce_RE 185 "ShapeEngine$Sites" "sizes" "[I", Cond.fieldLink ce_RE 186 "ShapeEngine$Sites" "many" "[I", Cond.fieldLink ce_RE 189 "ShapeEngine$Program" "siteFns" "[I", Cond.fieldLink ce_RE 201 "ShapeEngine$Machine" "functions" "LShapeEngine$Functions;", Cond.fieldLink ce_RE 205 "ShapeEngine$Program" "fnTakes" "[I", Cond.fieldLink ce_RE 208 "ShapeEngine$Functions" "calls" "[I", Cond.fieldLink ce_RE 213 "ShapeEngine$Functions" "counts" "[I", Cond.fieldLink ce_RE 216 "ShapeEngine$Functions" "made" "[I", Cond.fieldLink ce_RE 219 "ShapeEngine$Functions" "mades" "[I", Cond.fieldLink ce_RE 222 "ShapeEngine$Functions" "lefts" "[I", Cond.fieldLink ce_RE 228 "ShapeEngine$Functions" "leftAt" "[I", Cond.fieldLink ce_RE 231 "ShapeEngine$Program" "bytes" "I", Cond.fieldLink ce_RE 234 "ShapeEngine$Program" "fns" "I", Cond.fieldLink ce_RE 237 "ShapeEngine$Program" "mainVariables" "I", Cond.methodLink ce_RC 87 ceY_P_begin, Cond.code ceY_P_begin prog_7_method_2_code 2 none, Cond.initialized ce_RP, Cond.instanceMethod ceY_P_begin, Cond.selects ce_RP ceY_P_begin ceY_P_begin, Cond.methodLink ce_RX 60 ceY_X_isLetter, Cond.code ceY_X_isLetter prog_5_method_9_code 1 (some .boolean), Cond.initialized ce_RX, Cond.static ceY_X_isLetter, Cond.methodLink ce_RX 68 ceY_X_isDigit, Cond.code ceY_X_isDigit prog_5_method_10_code 1 (some .boolean), Cond.static ceY_X_isDigit, Cond.methodLink ce_RX 77 ceY_X_add, Cond.code ceY_X_add prog_5_method_4_code 5 none, Cond.instanceMethod ceY_X_add, Cond.selects ce_RX ceY_X_add ceY_X_add, Cond.methodLink ce_RX 94 ceY_X_kindOf, Cond.code ceY_X_kindOf prog_5_method_6_code 4 (some .int), Cond.instanceMethod ceY_X_kindOf, Cond.selects ce_RX ceY_X_kindOf ceY_X_kindOf, Cond.methodLink ce_RX 74 ceY_X_takeSign, Cond.code ceY_X_takeSign prog_5_method_8_code 5 (some .int), Cond.instanceMethod ceY_X_takeSign]
def ce_gl6 : List Cond := [Cond.selects ce_RX ceY_X_takeSign ceY_X_takeSign, Cond.methodLink ce_RX 71 ceY_X_takeNumber, Cond.code ceY_X_takeNumber prog_5_method_7_code 8 (some .int), Cond.instanceMethod ceY_X_takeNumber, Cond.selects ce_RX ceY_X_takeNumber ceY_X_takeNumber, Cond.methodLink ce_RX 64 ceY_X_takeWord, Cond.code ceY_X_takeWord prog_5_method_5_code 7 (some .int), Cond.instanceMethod ceY_X_takeWord, Cond.selects ce_RX ceY_X_takeWord ceY_X_takeWord, Cond.methodLink ce_RX 84 ceY_X_advance, Cond.code ceY_X_advance prog_5_method_3_code 1 none, Cond.instanceMethod ceY_X_advance, Cond.selects ce_RX ceY_X_advance ceY_X_advance, Cond.methodLink ce_RC 105 ceY_X_advance, Cond.methodLink ce_RC 102 ceY_C_refuse, Cond.code ceY_C_refuse prog_2_method_35_code 1 none, Cond.initialized ce_RC, Cond.instanceMethod ceY_C_refuse, Cond.selects ce_RC ceY_C_refuse ceY_C_refuse, Cond.methodLink ce_RC 119 ceY_C_note, Cond.code ceY_C_note prog_2_method_36_code 4 none, Cond.instanceMethod ceY_C_note, Cond.selects ce_RC ceY_C_note ceY_C_note, Cond.methodLink ce_RP 68 ceY_P_isFn, Cond.code ceY_P_isFn prog_7_method_9_code 2 (some .boolean), Cond.instanceMethod ceY_P_isFn, Cond.selects ce_RP ceY_P_isFn ceY_P_isFn, Cond.methodLink ce_RC 129 ceY_C_opens, Cond.code ceY_C_opens prog_2_method_33_code 2 none, Cond.instanceMethod ceY_C_opens, Cond.selects ce_RC ceY_C_opens ceY_C_opens, Cond.methodLink ce_RC 146 ceY_C_closes, Cond.code ceY_C_closes prog_2_method_34_code 2 none, Cond.instanceMethod ceY_C_closes, Cond.selects ce_RC ceY_C_closes ceY_C_closes, Cond.methodLink ce_RC 132 ceY_C_variableNamed, Cond.code ceY_C_variableNamed prog_2_method_28_code 4 (some .int), Cond.instanceMethod ceY_C_variableNamed, Cond.selects ce_RC ceY_C_variableNamed ceY_C_variableNamed, Cond.methodLink ce_RC 135 ceY_C_addVariable]
def ce_gl7 : List Cond := [Cond.code ceY_C_addVariable prog_2_method_29_code 4 (some .int), Cond.instanceMethod ceY_C_addVariable, Cond.selects ce_RC ceY_C_addVariable ceY_C_addVariable, Cond.methodLink ce_RC 139 ceY_P_addName, Cond.code ceY_P_addName prog_7_method_10_code 2 none, Cond.instanceMethod ceY_P_addName, Cond.selects ce_RP ceY_P_addName ceY_P_addName, Cond.methodLink ce_RC 142 ceY_C_takes, Cond.code ceY_C_takes prog_2_method_31_code 2 (some .boolean), Cond.instanceMethod ceY_C_takes, Cond.selects ce_RC ceY_C_takes ceY_C_takes, Cond.methodLink ce_RC 112 ceY_P_fnNamed, Cond.code ceY_P_fnNamed prog_7_method_13_code 4 (some .int), Cond.instanceMethod ceY_P_fnNamed, Cond.selects ce_RP ceY_P_fnNamed ceY_P_fnNamed, Cond.methodLink ce_RC 123 ceY_P_addFn, Cond.code ceY_P_addFn prog_7_method_12_code 3 (some .int), Cond.instanceMethod ceY_P_addFn, Cond.selects ce_RP ceY_P_addFn ceY_P_addFn, Cond.methodLink ce_RC 126 ceY_C_compileNames, Cond.code ceY_C_compileNames prog_2_method_5_code 3 none, Cond.instanceMethod ceY_C_compileNames, Cond.selects ce_RC ceY_C_compileNames ceY_C_compileNames, Cond.methodLink ce_RC 244 ceY_P_addSite, Cond.code ceY_P_addSite prog_7_method_11_code 6 (some .int), Cond.instanceMethod ceY_P_addSite, Cond.selects ce_RP ceY_P_addSite ceY_P_addSite, Cond.methodLink ce_RC 196 ceY_C_addSite, Cond.code ceY_C_addSite prog_2_method_30_code 6 (some .int), Cond.instanceMethod ceY_C_addSite, Cond.selects ce_RC ceY_C_addSite ceY_C_addSite, Cond.methodLink ce_RC 56 ceY_P_emit, Cond.code ceY_P_emit prog_7_method_3_code 4 (some .int), Cond.instanceMethod ceY_P_emit, Cond.selects ce_RP ceY_P_emit ceY_P_emit, Cond.methodLink ce_RC 167 ceY_C_expect, Cond.code ceY_C_expect prog_2_method_32_code 2 none, Cond.instanceMethod ceY_C_expect, Cond.selects ce_RC ceY_C_expect ceY_C_expect, Cond.methodLink ce_RC 170 ceY_C_compileE]
def ce_gl8 : List Cond := [Cond.code ceY_C_compileE prog_2_method_14_code 4 (some .int), Cond.instanceMethod ceY_C_compileE, Cond.selects ce_RC ceY_C_compileE ceY_C_compileE, Cond.methodLink ce_RC 190 ceY_C_bindsAt, Cond.code ceY_C_bindsAt prog_2_method_15_code 3 (some .boolean), Cond.instanceMethod ceY_C_bindsAt, Cond.selects ce_RC ceY_C_bindsAt ceY_C_bindsAt, Cond.methodLink ce_RC 193 ceY_C_compileRest, Cond.code ceY_C_compileRest prog_2_method_16_code 5 none, Cond.instanceMethod ceY_C_compileRest, Cond.selects ce_RC ceY_C_compileRest ceY_C_compileRest, Cond.methodLink ce_RC 187 ceY_C_compilePost, Cond.code ceY_C_compilePost prog_2_method_18_code 3 (some .int), Cond.instanceMethod ceY_C_compilePost, Cond.selects ce_RC ceY_C_compilePost ceY_C_compilePost, Cond.methodLink ce_RC 200 ceY_C_opOf, Cond.code ceY_C_opOf prog_2_method_17_code 1 (some .int), Cond.static ceY_C_opOf, Cond.methodLink ce_RC 203 ceY_C_compileOne, Cond.code ceY_C_compileOne prog_2_method_21_code 1 (some .int), Cond.instanceMethod ceY_C_compileOne, Cond.selects ce_RC ceY_C_compileOne ceY_C_compileOne, Cond.methodLink ce_RC 206 ceY_C_compileMember, Cond.code ceY_C_compileMember prog_2_method_19_code 2 (some .int), Cond.instanceMethod ceY_C_compileMember, Cond.selects ce_RC ceY_C_compileMember ceY_C_compileMember, Cond.methodLink ce_RC 209 ceY_C_compileItem, Cond.code ceY_C_compileItem prog_2_method_20_code 2 (some .int), Cond.instanceMethod ceY_C_compileItem, Cond.selects ce_RC ceY_C_compileItem ceY_C_compileItem, Cond.methodLink ce_RC 218 ceY_C_compileNegated, Cond.code ceY_C_compileNegated prog_2_method_22_code 2 none, Cond.instanceMethod ceY_C_compileNegated, Cond.selects ce_RC ceY_C_compileNegated ceY_C_compileNegated, Cond.methodLink ce_RC 212 ceY_C_compileNamed, Cond.code ceY_C_compileNamed prog_2_method_24_code 5 (some .int), Cond.instanceMethod ceY_C_compileNamed, Cond.selects ce_RC ceY_C_compileNamed ceY_C_compileNamed, Cond.methodLink ce_RC 215 ceY_C_compileMade, Cond.code ceY_C_compileMade prog_2_method_23_code 3 none]
def ce_gl9 : List Cond := [Cond.instanceMethod ceY_C_compileMade, Cond.selects ce_RC ceY_C_compileMade ceY_C_compileMade, Cond.methodLink ce_RC 221 ceY_C_compileArguments, Cond.code ceY_C_compileArguments prog_2_method_25_code 3 (some .int), Cond.instanceMethod ceY_C_compileArguments, Cond.selects ce_RC ceY_C_compileArguments ceY_C_compileArguments, Cond.methodLink ce_RC 224 ceY_C_keepCall, Cond.code ceY_C_keepCall prog_2_method_26_code 5 none, Cond.instanceMethod ceY_C_keepCall, Cond.selects ce_RC ceY_C_keepCall ceY_C_keepCall, Cond.methodLink ce_RP 64 ceY_P_isSite, Cond.code ceY_P_isSite prog_7_method_7_code 2 (some .boolean), Cond.instanceMethod ceY_P_isSite, Cond.selects ce_RP ceY_P_isSite ceY_P_isSite, Cond.methodLink ce_RC 177 ceY_P_takeBack, Cond.code ceY_P_takeBack prog_7_method_4_code 1 (some .int), Cond.instanceMethod ceY_P_takeBack, Cond.selects ce_RP ceY_P_takeBack ceY_P_takeBack, Cond.methodLink ce_RC 181 ceY_P_turnSite, Cond.code ceY_P_turnSite prog_7_method_8_code 3 none, Cond.instanceMethod ceY_P_turnSite, Cond.selects ce_RP ceY_P_turnSite ceY_P_turnSite, Cond.methodLink ce_RC 184 ceY_P_placeTakenBack, Cond.code ceY_P_placeTakenBack prog_7_method_6_code 1 (some .int), Cond.instanceMethod ceY_P_placeTakenBack, Cond.selects ce_RP ceY_P_placeTakenBack ceY_P_placeTakenBack, Cond.methodLink ce_RC 74 ceY_C_compileStep, Cond.code ceY_C_compileStep prog_2_method_7_code 1 none, Cond.instanceMethod ceY_C_compileStep, Cond.selects ce_RC ceY_C_compileStep ceY_C_compileStep, Cond.methodLink ce_RC 149 ceY_C_compileLet, Cond.code ceY_C_compileLet prog_2_method_8_code 5 none, Cond.instanceMethod ceY_C_compileLet, Cond.selects ce_RC ceY_C_compileLet ceY_C_compileLet, Cond.methodLink ce_RC 152 ceY_C_compileIf, Cond.code ceY_C_compileIf prog_2_method_9_code 4 none, Cond.instanceMethod ceY_C_compileIf, Cond.selects ce_RC ceY_C_compileIf ceY_C_compileIf, Cond.methodLink ce_RC 155 ceY_C_compileWhile, Cond.code ceY_C_compileWhile prog_2_method_10_code 4 none]
def ce_gl10 : List Cond := [Cond.instanceMethod ceY_C_compileWhile, Cond.selects ce_RC ceY_C_compileWhile ceY_C_compileWhile, Cond.methodLink ce_RC 158 ceY_C_compilePlain, Cond.code ceY_C_compilePlain prog_2_method_11_code 2 none, Cond.instanceMethod ceY_C_compilePlain, Cond.selects ce_RC ceY_C_compilePlain ceY_C_compilePlain, Cond.methodLink ce_RC 161 ceY_C_compileDel, Cond.code ceY_C_compileDel prog_2_method_12_code 3 none, Cond.instanceMethod ceY_C_compileDel, Cond.selects ce_RC ceY_C_compileDel ceY_C_compileDel, Cond.methodLink ce_RC 164 ceY_C_compilePut, Cond.code ceY_C_compilePut prog_2_method_13_code 4 none, Cond.instanceMethod ceY_C_compilePut, Cond.selects ce_RC ceY_C_compilePut ceY_C_compilePut, Cond.methodLink ce_RC 49 ceY_C_compileBlock, Cond.code ceY_C_compileBlock prog_2_method_6_code 2 none, Cond.instanceMethod ceY_C_compileBlock, Cond.selects ce_RC ceY_C_compileBlock ceY_C_compileBlock, Cond.methodLink ce_RC 174 ceY_P_aim, Cond.code ceY_P_aim prog_7_method_5_code 2 none, Cond.instanceMethod ceY_P_aim, Cond.selects ce_RP ceY_P_aim ceY_P_aim, Cond.methodLink ce_RC 36 ceY_C_begin, Cond.code ceY_C_begin prog_2_method_3_code 3 none, Cond.instanceMethod ceY_C_begin, Cond.selects ce_RC ceY_C_begin ceY_C_begin, Cond.methodLink ce_RC 40 ceY_X_begin, Cond.code ceY_X_begin prog_5_method_2_code 5 none, Cond.instanceMethod ceY_X_begin, Cond.selects ce_RX ceY_X_begin ceY_X_begin, Cond.methodLink ce_RC 84 ceY_C_settleCalls, Cond.code ceY_C_settleCalls prog_2_method_27_code 4 none, Cond.instanceMethod ceY_C_settleCalls, Cond.selects ce_RC ceY_C_settleCalls ceY_C_settleCalls, Cond.methodLink ce_RC 46 ceY_C_compileHead, Cond.code ceY_C_compileHead prog_2_method_4_code 1 none, Cond.instanceMethod ceY_C_compileHead, Cond.selects ce_RC ceY_C_compileHead ceY_C_compileHead, Cond.methodLink ce_RF 30 ceY_fill, Cond.static ceY_fill]
def ce_gl11 : List Cond := [Cond.initialized ce_RA, Cond.code ceY_fill prog_21_method_103_code 4 none, Cond.methodLink ce_RF 43 ceY_F_isCold, Cond.code ceY_F_isCold prog_3_method_3_code 2 (some .boolean), Cond.initialized ce_RF, Cond.instanceMethod ceY_F_isCold, Cond.selects ce_RF ceY_F_isCold ceY_F_isCold, Cond.methodLink ce_RS 37 ceY_fill, Cond.methodLink ce_RH 53 ceY_S_clear, Cond.code ceY_S_clear prog_9_method_2_code 1 none, Cond.initialized ce_RS, Cond.instanceMethod ceY_S_clear, Cond.selects ce_RS ceY_S_clear ceY_S_clear, Cond.methodLink ce_RS 67 ceY_copyI, Cond.static ceY_copyI, Cond.code ceY_copyI prog_21_method_123_code 3 (some (.array .int)), Cond.methodLink ce_RS 71 ceY_copyL, Cond.static ceY_copyL, Cond.code ceY_copyL prog_21_method_124_code 3 (some (.array .long)), Cond.methodLink ce_RS 55 ceY_S_grow, Cond.code ceY_S_grow prog_9_method_9_code 2 none, Cond.instanceMethod ceY_S_grow, Cond.selects ce_RS ceY_S_grow ceY_S_grow, Cond.methodLink ce_RS 51 ceY_S_add, Cond.code ceY_S_add prog_9_method_8_code 5 (some .int), Cond.instanceMethod ceY_S_add, Cond.selects ce_RS ceY_S_add ceY_S_add, Cond.methodLink ce_RH 69 ceY_S_rootOf, Cond.code ceY_S_rootOf prog_9_method_6_code 2 (some .int), Cond.instanceMethod ceY_S_rootOf, Cond.selects ce_RS ceY_S_rootOf ceY_S_rootOf, Cond.methodLink ce_RH 73 ceY_H_isObject, Cond.code ceY_H_isObject prog_4_method_3_code 2 (some .boolean), Cond.initialized ce_RH, Cond.instanceMethod ceY_H_isObject, Cond.selects ce_RH ceY_H_isObject ceY_H_isObject, Cond.methodLink ce_RH 77 ceY_H_find, Cond.code ceY_H_find prog_4_method_6_code 6 (some .int), Cond.instanceMethod ceY_H_find, Cond.selects ce_RH ceY_H_find ceY_H_find]
def ce_gl12 : List Cond := [Cond.methodLink ce_RH 99 ceY_copyL, Cond.methodLink ce_RH 105 ceY_copyI, Cond.methodLink ce_RH 95 ceY_H_freshCell, Cond.code ceY_H_freshCell prog_4_method_11_code 2 (some .int), Cond.instanceMethod ceY_H_freshCell, Cond.selects ce_RH ceY_H_freshCell ceY_H_freshCell, Cond.methodLink ce_RS 47 ceY_S_isShape, Cond.code ceY_S_isShape prog_9_method_3_code 2 (some .boolean), Cond.instanceMethod ceY_S_isShape, Cond.selects ce_RS ceY_S_isShape ceY_S_isShape, Cond.methodLink ce_RV 36 ceY_copyB, Cond.static ceY_copyB, Cond.code ceY_copyB prog_21_method_121_code 3 (some (.array .byte)), Cond.methodLink ce_RV 42 ceY_copyL, Cond.methodLink ce_RV 29 ceY_V_grow, Cond.code ceY_V_grow prog_11_method_3_code 3 none, Cond.initialized ce_RV, Cond.instanceMethod ceY_V_grow, Cond.selects ce_RV ceY_V_grow ceY_V_grow, Cond.methodLink ce_RH 81 ceY_H_append, Cond.code ceY_H_append prog_4_method_10_code 5 (some .int), Cond.instanceMethod ceY_H_append, Cond.selects ce_RH ceY_H_append ceY_H_append, Cond.methodLink ce_RH 84 ceY_H_loseShape, Cond.code ceY_H_loseShape prog_4_method_12_code 2 none, Cond.instanceMethod ceY_H_loseShape, Cond.selects ce_RH ceY_H_loseShape ceY_H_loseShape, Cond.methodLink ce_RH 91 ceY_V_set, Cond.code ceY_V_set prog_11_method_2_code 5 none, Cond.instanceMethod ceY_V_set, Cond.selects ce_RV ceY_V_set ceY_V_set, Cond.methodLink ce_RH 88 ceY_S_with, Cond.code ceY_S_with prog_9_method_7_code 6 (some .int), Cond.instanceMethod ceY_S_with, Cond.selects ce_RS ceY_S_with ceY_S_with, Cond.methodLink ce_RT 39 ceY_fill, Cond.methodLink ce_RM 62 ceY_H_clear, Cond.code ceY_H_clear prog_4_method_2_code 1 none, Cond.instanceMethod ceY_H_clear, Cond.selects ce_RH ceY_H_clear ceY_H_clear]
def ce_gl13 : List Cond := [Cond.methodLink ce_RM 65 ceY_R_clear, Cond.code ceY_R_clear prog_8_method_2_code 1 none, Cond.initialized ce_RR, Cond.instanceMethod ceY_R_clear, Cond.selects ce_RR ceY_R_clear ceY_R_clear, Cond.methodLink ce_RM 66 ceY_T_clear, Cond.code ceY_T_clear prog_10_method_2_code 1 none, Cond.initialized ce_RT, Cond.instanceMethod ceY_T_clear, Cond.selects ce_RT ceY_T_clear ceY_T_clear, Cond.methodLink ce_RM 67 ceY_F_clear, Cond.code ceY_F_clear prog_3_method_2_code 1 none, Cond.instanceMethod ceY_F_clear, Cond.selects ce_RF ceY_F_clear ceY_F_clear, Cond.methodLink ce_RM 193 ceY_V_set, Cond.methodLink ce_RM 205 ceY_V_sortAt, Cond.code ceY_V_sortAt prog_11_method_4_code 2 (some .int), Cond.instanceMethod ceY_V_sortAt, Cond.selects ce_RV ceY_V_sortAt ceY_V_sortAt, Cond.methodLink ce_RM 209 ceY_V_numberAt, Cond.code ceY_V_numberAt prog_11_method_5_code 2 (some .long), Cond.instanceMethod ceY_V_numberAt, Cond.selects ce_RV ceY_V_numberAt ceY_V_numberAt, Cond.methodLink ce_RM 133 ceY_M_push, Cond.code ceY_M_push prog_6_method_7_code 4 none, Cond.initialized ce_RM, Cond.instanceMethod ceY_M_push, Cond.selects ce_RM ceY_M_push ceY_M_push, Cond.methodLink ce_RV 45 ceY_V_sortAt, Cond.methodLink ce_RM 197 ceY_M_sortOf, Cond.code ceY_M_sortOf prog_6_method_9_code 2 (some .int), Cond.static ceY_M_sortOf, Cond.methodLink ce_RM 213 ceY_V_isNumberAt, Cond.code ceY_V_isNumberAt prog_11_method_6_code 3 (some .boolean), Cond.instanceMethod ceY_V_isNumberAt, Cond.selects ce_RV ceY_V_isNumberAt ceY_V_isNumberAt, Cond.methodLink ce_RM 221 ceY_M_fail, Cond.code ceY_M_fail prog_6_method_5_code 3 none, Cond.instanceMethod ceY_M_fail, Cond.selects ce_RM ceY_M_fail ceY_M_fail]
def ce_gl14 : List Cond := [Cond.methodLink ce_RM 217 ceY_M_pushNumber, Cond.code ceY_M_pushNumber prog_6_method_8_code 3 none, Cond.instanceMethod ceY_M_pushNumber, Cond.selects ce_RM ceY_M_pushNumber ceY_M_pushNumber, Cond.methodLink ce_RM 301 ceY_P_isFn, Cond.methodLink ce_RM 304 ceY_F_leave, Cond.code ceY_F_leave prog_3_method_5_code 3 none, Cond.instanceMethod ceY_F_leave, Cond.selects ce_RF ceY_F_leave ceY_F_leave, Cond.methodLink ce_RM 306 ceY_T_dropGuesses, Cond.code ceY_T_dropGuesses prog_10_method_16_code 4 none, Cond.instanceMethod ceY_T_dropGuesses, Cond.selects ce_RT ceY_T_dropGuesses ceY_T_dropGuesses, Cond.methodLink ce_RM 224 ceY_P_isSite, Cond.methodLink ce_RM 227 ceY_M_resultOf, Cond.code ceY_M_resultOf prog_6_method_15_code 5 (some .long), Cond.static ceY_M_resultOf, Cond.methodLink ce_RM 231 ceY_T_meetSum, Cond.code ceY_T_meetSum prog_10_method_6_code 3 none, Cond.instanceMethod ceY_T_meetSum, Cond.selects ce_RT ceY_T_meetSum ceY_T_meetSum, Cond.methodLink ce_RM 234 ceY_T_hasGuess, Cond.code ceY_T_hasGuess prog_10_method_12_code 2 (some .boolean), Cond.instanceMethod ceY_T_hasGuess, Cond.selects ce_RT ceY_T_hasGuess ceY_T_hasGuess, Cond.methodLink ce_RM 237 ceY_M_leaveMade, Cond.code ceY_M_leaveMade prog_6_method_23_code 3 none, Cond.instanceMethod ceY_M_leaveMade, Cond.selects ce_RM ceY_M_leaveMade ceY_M_leaveMade, Cond.methodLink ce_RM 240 ceY_H_addObject, Cond.code ceY_H_addObject prog_4_method_4_code 4 (some .int), Cond.instanceMethod ceY_H_addObject, Cond.selects ce_RH ceY_H_addObject ceY_H_addObject, Cond.methodLink ce_RM 243 ceY_H_isObject, Cond.methodLink ce_RT 59 ceY_T_enter, Cond.code ceY_T_enter prog_10_method_8_code 5 none, Cond.instanceMethod ceY_T_enter, Cond.selects ce_RT ceY_T_enter ceY_T_enter, Cond.methodLink ce_RT 55 ceY_T_meets, Cond.code ceY_T_meets prog_10_method_7_code 5 (some .boolean)]
def ce_gl15 : List Cond := [Cond.instanceMethod ceY_T_meets, Cond.selects ce_RT ceY_T_meets ceY_T_meets, Cond.methodLink ce_RM 246 ceY_M_objectAt, Cond.code ceY_M_objectAt prog_6_method_19_code 4 (some .int), Cond.instanceMethod ceY_M_objectAt, Cond.selects ce_RM ceY_M_objectAt ceY_M_objectAt, Cond.methodLink ce_RM 254 ceY_H_holderOf, Cond.code ceY_H_holderOf prog_4_method_7_code 6 (some .int), Cond.instanceMethod ceY_H_holderOf, Cond.selects ce_RH ceY_H_holderOf ceY_H_holderOf, Cond.methodLink ce_RM 266 ceY_T_meetRead, Cond.code ceY_T_meetRead prog_10_method_3_code 4 none, Cond.instanceMethod ceY_T_meetRead, Cond.selects ce_RT ceY_T_meetRead ceY_T_meetRead, Cond.methodLink ce_RM 273 ceY_H_find, Cond.methodLink ce_RM 269 ceY_T_guessed, Cond.code ceY_T_guessed prog_10_method_13_code 4 (some .boolean), Cond.instanceMethod ceY_T_guessed, Cond.selects ce_RT ceY_T_guessed ceY_T_guessed, Cond.methodLink ce_RT 79 ceY_S_parentOf, Cond.code ceY_S_parentOf prog_9_method_5_code 2 (some .int), Cond.instanceMethod ceY_S_parentOf, Cond.selects ce_RS ceY_S_parentOf ceY_S_parentOf, Cond.methodLink ce_RT 83 ceY_H_isOnLine, Cond.code ceY_H_isOnLine prog_4_method_5_code 3 (some .boolean), Cond.instanceMethod ceY_H_isOnLine, Cond.selects ce_RH ceY_H_isOnLine ceY_H_isOnLine, Cond.methodLink ce_RT 69 ceY_S_isParent, Cond.code ceY_S_isParent prog_9_method_4_code 2 (some .boolean), Cond.instanceMethod ceY_S_isParent, Cond.selects ce_RS ceY_S_isParent ceY_S_isParent, Cond.methodLink ce_RT 75 ceY_T_isOnWay, Cond.code ceY_T_isOnWay prog_10_method_11_code 5 (some .boolean), Cond.instanceMethod ceY_T_isOnWay, Cond.selects ce_RT ceY_T_isOnWay ceY_T_isOnWay, Cond.methodLink ce_RM 279 ceY_T_meetPut, Cond.code ceY_T_meetPut prog_10_method_4_code 3 none, Cond.instanceMethod ceY_T_meetPut, Cond.selects ce_RT ceY_T_meetPut ceY_T_meetPut, Cond.methodLink ce_RM 284 ceY_T_breakWays]
def ce_gl16 : List Cond := [Cond.code ceY_T_breakWays prog_10_method_10_code 8 none, Cond.instanceMethod ceY_T_breakWays, Cond.selects ce_RT ceY_T_breakWays ceY_T_breakWays, Cond.methodLink ce_RM 288 ceY_H_give, Cond.code ceY_H_give prog_4_method_9_code 8 none, Cond.instanceMethod ceY_H_give, Cond.selects ce_RH ceY_H_give ceY_H_give, Cond.methodLink ce_RM 292 ceY_T_meetStrike, Cond.code ceY_T_meetStrike prog_10_method_5_code 2 none, Cond.instanceMethod ceY_T_meetStrike, Cond.selects ce_RT ceY_T_meetStrike ceY_T_meetStrike, Cond.methodLink ce_RM 295 ceY_H_strike, Cond.code ceY_H_strike prog_4_method_13_code 7 none, Cond.instanceMethod ceY_H_strike, Cond.selects ce_RH ceY_H_strike ceY_H_strike, Cond.methodLink ce_RR 40 ceY_V_set, Cond.methodLink ce_RM 312 ceY_R_addRow, Cond.code ceY_R_addRow prog_8_method_4_code 3 (some .int), Cond.instanceMethod ceY_R_addRow, Cond.selects ce_RR ceY_R_addRow ceY_R_addRow, Cond.methodLink ce_RR 44 ceY_R_isRow, Cond.code ceY_R_isRow prog_8_method_3_code 2 (some .boolean), Cond.instanceMethod ceY_R_isRow, Cond.selects ce_RR ceY_R_isRow ceY_R_isRow, Cond.methodLink ce_RM 325 ceY_R_placeOf, Cond.code ceY_R_placeOf prog_8_method_5_code 4 (some .int), Cond.instanceMethod ceY_R_placeOf, Cond.selects ce_RR ceY_R_placeOf ceY_R_placeOf, Cond.methodLink ce_RM 315 ceY_M_itemAt, Cond.code ceY_M_itemAt prog_6_method_27_code 3 (some .int), Cond.instanceMethod ceY_M_itemAt, Cond.selects ce_RM ceY_M_itemAt ceY_M_itemAt, Cond.methodLink ce_RR 48 ceY_R_neededFor, Cond.code ceY_R_neededFor prog_8_method_7_code 3 (some .int), Cond.static ceY_R_neededFor, Cond.methodLink ce_RM 321 ceY_R_putAt, Cond.code ceY_R_putAt prog_8_method_6_code 7 none, Cond.instanceMethod ceY_R_putAt, Cond.selects ce_RR ceY_R_putAt ceY_R_putAt, Cond.methodLink ce_RM 328 ceY_R_isRow]
def ce_gl17 : List Cond := [Cond.methodLink ce_RT 98 ceY_T_guessShapes, Cond.code ceY_T_guessShapes prog_10_method_15_code 3 none, Cond.instanceMethod ceY_T_guessShapes, Cond.selects ce_RT ceY_T_guessShapes ceY_T_guessShapes, Cond.methodLink ce_RM 129 ceY_M_takeStep, Cond.code ceY_M_takeStep prog_6_method_6_code 1 (some .boolean), Cond.instanceMethod ceY_M_takeStep, Cond.selects ce_RM ceY_M_takeStep ceY_M_takeStep, Cond.methodLink ce_RM 335 ceY_F_makes, Cond.code ceY_F_makes prog_3_method_4_code 2 (some .boolean), Cond.instanceMethod ceY_F_makes, Cond.selects ce_RF ceY_F_makes ceY_F_makes, Cond.methodLink ce_RM 107 ceY_M_clearVariables, Cond.code ceY_M_clearVariables prog_6_method_12_code 2 none, Cond.instanceMethod ceY_M_clearVariables, Cond.selects ce_RM ceY_M_clearVariables ceY_M_clearVariables, Cond.methodLink ce_RM 338 ceY_T_takeGuesses, Cond.code ceY_T_takeGuesses prog_10_method_14_code 4 none, Cond.instanceMethod ceY_T_takeGuesses, Cond.selects ce_RT ceY_T_takeGuesses ceY_T_takeGuesses, Cond.methodLink ce_RM 137 ceY_M_fetch, Cond.code ceY_M_fetch prog_6_method_10_code 2 none, Cond.instanceMethod ceY_M_fetch, Cond.selects ce_RM ceY_M_fetch ceY_M_fetch, Cond.methodLink ce_RM 141 ceY_M_store, Cond.code ceY_M_store prog_6_method_11_code 2 none, Cond.instanceMethod ceY_M_store, Cond.selects ce_RM ceY_M_store ceY_M_store, Cond.methodLink ce_RM 144 ceY_M_negate, Cond.code ceY_M_negate prog_6_method_13_code 2 none, Cond.instanceMethod ceY_M_negate, Cond.selects ce_RM ceY_M_negate ceY_M_negate, Cond.methodLink ce_RM 147 ceY_M_calculate, Cond.code ceY_M_calculate prog_6_method_14_code 7 none, Cond.instanceMethod ceY_M_calculate, Cond.selects ce_RM ceY_M_calculate ceY_M_calculate, Cond.methodLink ce_RM 151 ceY_M_compare, Cond.code ceY_M_compare prog_6_method_16_code 2 none, Cond.instanceMethod ceY_M_compare, Cond.selects ce_RM ceY_M_compare ceY_M_compare]
def ce_gl18 : List Cond := [Cond.methodLink ce_RM 154 ceY_M_equate, Cond.code ceY_M_equate prog_6_method_17_code 2 none, Cond.instanceMethod ceY_M_equate, Cond.selects ce_RM ceY_M_equate ceY_M_equate, Cond.methodLink ce_RM 157 ceY_M_makeObject, Cond.code ceY_M_makeObject prog_6_method_18_code 4 none, Cond.instanceMethod ceY_M_makeObject, Cond.selects ce_RM ceY_M_makeObject ceY_M_makeObject, Cond.methodLink ce_RM 160 ceY_M_getMember, Cond.code ceY_M_getMember prog_6_method_20_code 9 none, Cond.instanceMethod ceY_M_getMember, Cond.selects ce_RM ceY_M_getMember ceY_M_getMember, Cond.methodLink ce_RM 163 ceY_M_putMember, Cond.code ceY_M_putMember prog_6_method_21_code 4 none, Cond.instanceMethod ceY_M_putMember, Cond.selects ce_RM ceY_M_putMember ceY_M_putMember, Cond.methodLink ce_RM 166 ceY_M_strikeMember, Cond.code ceY_M_strikeMember prog_6_method_22_code 4 none, Cond.instanceMethod ceY_M_strikeMember, Cond.selects ce_RM ceY_M_strikeMember ceY_M_strikeMember, Cond.methodLink ce_RM 169 ceY_M_makeRow, Cond.code ceY_M_makeRow prog_6_method_24_code 5 none, Cond.instanceMethod ceY_M_makeRow, Cond.selects ce_RM ceY_M_makeRow ceY_M_makeRow, Cond.methodLink ce_RM 172 ceY_M_getItem, Cond.code ceY_M_getItem prog_6_method_25_code 3 none, Cond.instanceMethod ceY_M_getItem, Cond.selects ce_RM ceY_M_getItem ceY_M_getItem, Cond.methodLink ce_RM 175 ceY_M_putItem, Cond.code ceY_M_putItem prog_6_method_26_code 3 none, Cond.instanceMethod ceY_M_putItem, Cond.selects ce_RM ceY_M_putItem ceY_M_putItem, Cond.methodLink ce_RM 178 ceY_M_measure, Cond.code ceY_M_measure prog_6_method_28_code 4 none, Cond.instanceMethod ceY_M_measure, Cond.selects ce_RM ceY_M_measure ceY_M_measure, Cond.methodLink ce_RM 181 ceY_M_enter, Cond.code ceY_M_enter prog_6_method_29_code 4 none, Cond.instanceMethod ceY_M_enter, Cond.selects ce_RM ceY_M_enter ceY_M_enter]
def ce_gl19 : List Cond := [Cond.methodLink ce_RM 184 ceY_M_leave, Cond.code ceY_M_leave prog_6_method_30_code 1 none, Cond.instanceMethod ceY_M_leave, Cond.selects ce_RM ceY_M_leave ceY_M_leave, Cond.methodLink ce_RM 187 ceY_M_print, Cond.code ceY_M_print prog_6_method_31_code 1 none, Cond.instanceMethod ceY_M_print, Cond.selects ce_RM ceY_M_print ceY_M_print, Cond.methodLink ce_RM 190 ceY_M_branch, Cond.code ceY_M_branch prog_6_method_32_code 3 none, Cond.instanceMethod ceY_M_branch, Cond.selects ce_RM ceY_M_branch ceY_M_branch, Cond.methodLink ce_RM 112 ceY_M_perform, Cond.code ceY_M_perform prog_6_method_4_code 4 none, Cond.instanceMethod ceY_M_perform, Cond.selects ce_RM ceY_M_perform ceY_M_perform, Cond.methodLink ce_RV 49 ceY_V_isNumberAt, Cond.methodLink ce_RV 53 ceY_V_numberAt, Cond.methodLink ce_RE 45 ceY_C_compile, Cond.code ceY_C_compile prog_2_method_2_code 5 none, Cond.instanceMethod ceY_C_compile, Cond.selects ce_RC ceY_C_compile ceY_C_compile, Cond.methodLink ce_RE 37 ceY_M_load, Cond.code ceY_M_load prog_6_method_2_code 2 none, Cond.instanceMethod ceY_M_load, Cond.selects ce_RM ceY_M_load ceY_M_load, Cond.methodLink ce_RE 62 ceY_M_execute, Cond.code ceY_M_execute prog_6_method_3_code 6 (some .int), Cond.instanceMethod ceY_M_execute, Cond.selects ce_RM ceY_M_execute ceY_M_execute, Cond.methodLink ce_RE 66 ceY_M_tellOfRun, Cond.code ceY_M_tellOfRun prog_6_method_34_code 2 (some .int), Cond.instanceMethod ceY_M_tellOfRun, Cond.selects ce_RM ceY_M_tellOfRun ceY_M_tellOfRun, Cond.methodLink ce_RE 69 ceY_M_tellOfCaches, Cond.code ceY_M_tellOfCaches prog_6_method_35_code 2 (some .int), Cond.instanceMethod ceY_M_tellOfCaches, Cond.selects ce_RM ceY_M_tellOfCaches ceY_M_tellOfCaches, Cond.methodLink ce_RE 72 ceY_M_keptOnPaper, Cond.code ceY_M_keptOnPaper prog_6_method_33_code 1 (some .int)]
def ce_gl20 : List Cond := [Cond.instanceMethod ceY_M_keptOnPaper, Cond.selects ce_RM ceY_M_keptOnPaper ceY_M_keptOnPaper, Cond.methodLink ce_RE 80 ceY_V_sortAt, Cond.methodLink ce_RE 85 ceY_V_referenceAt, Cond.code ceY_V_referenceAt prog_11_method_8_code 2 (some .int), Cond.instanceMethod ceY_V_referenceAt, Cond.selects ce_RV ceY_V_referenceAt ceY_V_referenceAt, Cond.methodLink ce_RE 88 ceY_V_worthAt, Cond.code ceY_V_worthAt prog_11_method_7_code 2 (some .long), Cond.instanceMethod ceY_V_worthAt, Cond.selects ce_RV ceY_V_worthAt ceY_V_worthAt, Cond.methodLink ce_RE 96 ceY_H_isObject, Cond.methodLink ce_RE 112 ceY_H_cellAt, Cond.code ceY_H_cellAt prog_4_method_8_code 5 (some .int), Cond.instanceMethod ceY_H_cellAt, Cond.selects ce_RH ceY_H_cellAt ceY_H_cellAt, Cond.methodLink ce_RE 127 ceY_R_isRow, Cond.methodLink ce_RE 136 ceY_R_placeOf, Cond.methodLink ce_RE 147 ceY_S_isShape, Cond.methodLink ce_RE 162 ceY_P_isSite, Cond.methodLink ce_RE 192 ceY_T_hasGuess, Cond.methodLink ce_RE 195 ceY_T_entryAt, Cond.code ceY_T_entryAt prog_10_method_9_code 3 (some .int), Cond.instanceMethod ceY_T_entryAt, Cond.selects ce_RT ceY_T_entryAt ceY_T_entryAt, Cond.methodLink ce_RE 198 ceY_P_isFn, Cond.methodLink ce_RE 225 ceY_F_isCold, Cond.methodLink "java/lang/StringLatin1" 92 Lib.Math.max.name, Cond.methodLink "java/lang/StringLatin1" 38 Lib.Math.min.name, Cond.fieldLink "java/lang/String" 38 "java/lang/String" "COMPACT_STRINGS" "Z", Cond.fieldLink "java/lang/String" 15 "java/lang/String" "coder" "B", Cond.fieldLink "java/lang/String" 9 "java/lang/String" "value" "[B", Cond.methodLink "java/lang/StringLatin1" 88 jsY_canEncode, Cond.code jsY_canEncode prog_18_method_4_code 1 (some .boolean), Cond.initialized "java/lang/StringLatin1", Cond.static jsY_canEncode, Cond.methodLink "java/lang/StringLatin1" 95 jsY_indexOfChar, Cond.code jsY_indexOfChar prog_18_method_23_code 6 (some .int), Cond.static jsY_indexOfChar, Cond.methodLink "java/lang/String" 335 jsY_coder]
def ce_gl21 : List Cond := [Cond.code jsY_coder prog_17_method_152_code 1 (some .byte), Cond.initialized "java/lang/String", Cond.instanceMethod jsY_coder, Cond.selects "java/lang/String" jsY_coder jsY_coder, Cond.methodLink "java/lang/String" 492 jsY_isLatin1, Cond.code jsY_isLatin1 prog_17_method_154_code 1 (some .boolean), Cond.instanceMethod jsY_isLatin1, Cond.selects "java/lang/String" jsY_isLatin1 jsY_isLatin1, Cond.methodLink "java/lang/String" 505 jsY_length, Cond.code jsY_length prog_17_method_54_code 1 (some .int), Cond.instanceMethod jsY_length, Cond.selects "java/lang/String" jsY_length jsY_length, Cond.methodLink "java/lang/String" 637 jsY_indexOfB, Cond.code jsY_indexOfB prog_18_method_22_code 4 (some .int), Cond.static jsY_indexOfB, Cond.methodLink "java/lang/String" 633 jsY_indexOf2, Cond.code jsY_indexOf2 prog_17_method_80_code 3 (some .int), Cond.instanceMethod jsY_indexOf2, Cond.selects "java/lang/String" jsY_indexOf2 jsY_indexOf2, Cond.methodLink "ShapeEngine$Lexer" 104 jsY_indexOf1, Cond.code jsY_indexOf1 prog_17_method_79_code 2 (some .int), Cond.instanceMethod jsY_indexOf1, Cond.selects "java/lang/String" jsY_indexOf1 jsY_indexOf1, Cond.arrayClass .byte, Cond.arrayClass .int, Cond.arrayClass .long, Cond.methodLink ce_RA 304 Lib.Math.min.name, Cond.methodLink ce_RA 150 arraycopyName, Cond.native arraycopyName, Cond.static arraycopyName, Cond.initialized "java/lang/System"]
def ce_gw : List Cond := ce_gl0 ++ (ce_gl1 ++ (ce_gl2 ++ (ce_gl3 ++ (ce_gl4 ++ (ce_gl5 ++ (ce_gl6 ++ (ce_gl7 ++ (ce_gl8 ++ (ce_gl9 ++ (ce_gl10 ++ (ce_gl11 ++ (ce_gl12 ++ (ce_gl13 ++ (ce_gl14 ++ (ce_gl15 ++ (ce_gl16 ++ (ce_gl17 ++ (ce_gl18 ++ (ce_gl19 ++ (ce_gl20 ++ (ce_gl21)))))))))))))))))))))
def ce_gl : List Cond := u_ws ce_RE ce_TE 7 ++ (u_ws ce_RC ce_TC 13 ++ (u_ws ce_RX ce_TX 9 ++ (u_ws ce_RP ce_TP 16 ++ (u_ws ce_RM ce_TM 20 ++ (u_ws ce_RH ce_TH 14 ++ (u_ws ce_RS ce_TS 9 ++ (u_ws ce_RR ce_TR 7 ++ (u_ws ce_RT ce_TT 12 ++ (u_ws ce_RF ce_TF 8 ++ (u_ws ce_RV ce_TV 3 ++ (ce_gw)))))))))))
abbrev zCe (ca : Nat → ClassId) (D : va_G) : zSd := (ce_tb, ca, D, ce_cl, ce_gl, zStr D)
theorem ce_w0 (i : Nat) {c : Cond} (h : ce_gl0[i]? = some c) : c ∈ ce_gl := List.mem_append_right _ (List.mem_append_right _ (List.mem_append_right _ (List.mem_append_right _ (List.mem_append_right _ (List.mem_append_right _ (List.mem_append_right _ (List.mem_append_right _ (List.mem_append_right _ (List.mem_append_right _ (List.mem_append_right _ (List.mem_append_left _ (List.mem_of_getElem? h))))))))))))
theorem ce_w1 (i : Nat) {c : Cond} (h : ce_gl1[i]? = some c) : c ∈ ce_gl := List.mem_append_right _ (List.mem_append_right _ (List.mem_append_right _ (List.mem_append_right _ (List.mem_append_right _ (List.mem_append_right _ (List.mem_append_right _ (List.mem_append_right _ (List.mem_append_right _ (List.mem_append_right _ (List.mem_append_right _ (List.mem_append_right _ (List.mem_append_left _ (List.mem_of_getElem? h)))))))))))))
theorem ce_w2 (i : Nat) {c : Cond} (h : ce_gl2[i]? = some c) : c ∈ ce_gl := List.mem_append_right _ (List.mem_append_right _ (List.mem_append_right _ (List.mem_append_right _ (List.mem_append_right _ (List.mem_append_right _ (List.mem_append_right _ (List.mem_append_right _ (List.mem_append_right _ (List.mem_append_right _ (List.mem_append_right _ (List.mem_append_right _ (List.mem_append_right _ (List.mem_append_left _ (List.mem_of_getElem? h))))))))))))))
theorem ce_w3 (i : Nat) {c : Cond} (h : ce_gl3[i]? = some c) : c ∈ ce_gl := List.mem_append_right _ (List.mem_append_right _ (List.mem_append_right _ (List.mem_append_right _ (List.mem_append_right _ (List.mem_append_right _ (List.mem_append_right _ (List.mem_append_right _ (List.mem_append_right _ (List.mem_append_right _ (List.mem_append_right _ (List.mem_append_right _ (List.mem_append_right _ (List.mem_append_right _ (List.mem_append_left _ (List.mem_of_getElem? h)))))))))))))))
theorem ce_w4 (i : Nat) {c : Cond} (h : ce_gl4[i]? = some c) : c ∈ ce_gl := List.mem_append_right _ (List.mem_append_right _ (List.mem_append_right _ (List.mem_append_right _ (List.mem_append_right _ (List.mem_append_right _ (List.mem_append_right _ (List.mem_append_right _ (List.mem_append_right _ (List.mem_append_right _ (List.mem_append_right _ (List.mem_append_right _ (List.mem_append_right _ (List.mem_append_right _ (List.mem_append_right _ (List.mem_append_left _ (List.mem_of_getElem? h))))))))))))))))
theorem ce_w5 (i : Nat) {c : Cond} (h : ce_gl5[i]? = some c) : c ∈ ce_gl := List.mem_append_right _ (List.mem_append_right _ (List.mem_append_right _ (List.mem_append_right _ (List.mem_append_right _ (List.mem_append_right _ (List.mem_append_right _ (List.mem_append_right _ (List.mem_append_right _ (List.mem_append_right _ (List.mem_append_right _ (List.mem_append_right _ (List.mem_append_right _ (List.mem_append_right _ (List.mem_append_right _ (List.mem_append_right _ (List.mem_append_left _ (List.mem_of_getElem? h)))))))))))))))))
theorem ce_w6 (i : Nat) {c : Cond} (h : ce_gl6[i]? = some c) : c ∈ ce_gl := List.mem_append_right _ (List.mem_append_right _ (List.mem_append_right _ (List.mem_append_right _ (List.mem_append_right _ (List.mem_append_right _ (List.mem_append_right _ (List.mem_append_right _ (List.mem_append_right _ (List.mem_append_right _ (List.mem_append_right _ (List.mem_append_right _ (List.mem_append_right _ (List.mem_append_right _ (List.mem_append_right _ (List.mem_append_right _ (List.mem_append_right _ (List.mem_append_left _ (List.mem_of_getElem? h))))))))))))))))))
theorem ce_w7 (i : Nat) {c : Cond} (h : ce_gl7[i]? = some c) : c ∈ ce_gl := List.mem_append_right _ (List.mem_append_right _ (List.mem_append_right _ (List.mem_append_right _ (List.mem_append_right _ (List.mem_append_right _ (List.mem_append_right _ (List.mem_append_right _ (List.mem_append_right _ (List.mem_append_right _ (List.mem_append_right _ (List.mem_append_right _ (List.mem_append_right _ (List.mem_append_right _ (List.mem_append_right _ (List.mem_append_right _ (List.mem_append_right _ (List.mem_append_right _ (List.mem_append_left _ (List.mem_of_getElem? h)))))))))))))))))))
theorem ce_w8 (i : Nat) {c : Cond} (h : ce_gl8[i]? = some c) : c ∈ ce_gl := List.mem_append_right _ (List.mem_append_right _ (List.mem_append_right _ (List.mem_append_right _ (List.mem_append_right _ (List.mem_append_right _ (List.mem_append_right _ (List.mem_append_right _ (List.mem_append_right _ (List.mem_append_right _ (List.mem_append_right _ (List.mem_append_right _ (List.mem_append_right _ (List.mem_append_right _ (List.mem_append_right _ (List.mem_append_right _ (List.mem_append_right _ (List.mem_append_right _ (List.mem_append_right _ (List.mem_append_left _ (List.mem_of_getElem? h))))))))))))))))))))
theorem ce_w9 (i : Nat) {c : Cond} (h : ce_gl9[i]? = some c) : c ∈ ce_gl := List.mem_append_right _ (List.mem_append_right _ (List.mem_append_right _ (List.mem_append_right _ (List.mem_append_right _ (List.mem_append_right _ (List.mem_append_right _ (List.mem_append_right _ (List.mem_append_right _ (List.mem_append_right _ (List.mem_append_right _ (List.mem_append_right _ (List.mem_append_right _ (List.mem_append_right _ (List.mem_append_right _ (List.mem_append_right _ (List.mem_append_right _ (List.mem_append_right _ (List.mem_append_right _ (List.mem_append_right _ (List.mem_append_left _ (List.mem_of_getElem? h)))))))))))))))))))))
theorem ce_w10 (i : Nat) {c : Cond} (h : ce_gl10[i]? = some c) : c ∈ ce_gl := List.mem_append_right _ (List.mem_append_right _ (List.mem_append_right _ (List.mem_append_right _ (List.mem_append_right _ (List.mem_append_right _ (List.mem_append_right _ (List.mem_append_right _ (List.mem_append_right _ (List.mem_append_right _ (List.mem_append_right _ (List.mem_append_right _ (List.mem_append_right _ (List.mem_append_right _ (List.mem_append_right _ (List.mem_append_right _ (List.mem_append_right _ (List.mem_append_right _ (List.mem_append_right _ (List.mem_append_right _ (List.mem_append_right _ (List.mem_append_left _ (List.mem_of_getElem? h))))))))))))))))))))))
theorem ce_w11 (i : Nat) {c : Cond} (h : ce_gl11[i]? = some c) : c ∈ ce_gl := List.mem_append_right _ (List.mem_append_right _ (List.mem_append_right _ (List.mem_append_right _ (List.mem_append_right _ (List.mem_append_right _ (List.mem_append_right _ (List.mem_append_right _ (List.mem_append_right _ (List.mem_append_right _ (List.mem_append_right _ (List.mem_append_right _ (List.mem_append_right _ (List.mem_append_right _ (List.mem_append_right _ (List.mem_append_right _ (List.mem_append_right _ (List.mem_append_right _ (List.mem_append_right _ (List.mem_append_right _ (List.mem_append_right _ (List.mem_append_right _ (List.mem_append_left _ (List.mem_of_getElem? h)))))))))))))))))))))))
theorem ce_w12 (i : Nat) {c : Cond} (h : ce_gl12[i]? = some c) : c ∈ ce_gl := List.mem_append_right _ (List.mem_append_right _ (List.mem_append_right _ (List.mem_append_right _ (List.mem_append_right _ (List.mem_append_right _ (List.mem_append_right _ (List.mem_append_right _ (List.mem_append_right _ (List.mem_append_right _ (List.mem_append_right _ (List.mem_append_right _ (List.mem_append_right _ (List.mem_append_right _ (List.mem_append_right _ (List.mem_append_right _ (List.mem_append_right _ (List.mem_append_right _ (List.mem_append_right _ (List.mem_append_right _ (List.mem_append_right _ (List.mem_append_right _ (List.mem_append_right _ (List.mem_append_left _ (List.mem_of_getElem? h))))))))))))))))))))))))
theorem ce_w13 (i : Nat) {c : Cond} (h : ce_gl13[i]? = some c) : c ∈ ce_gl := List.mem_append_right _ (List.mem_append_right _ (List.mem_append_right _ (List.mem_append_right _ (List.mem_append_right _ (List.mem_append_right _ (List.mem_append_right _ (List.mem_append_right _ (List.mem_append_right _ (List.mem_append_right _ (List.mem_append_right _ (List.mem_append_right _ (List.mem_append_right _ (List.mem_append_right _ (List.mem_append_right _ (List.mem_append_right _ (List.mem_append_right _ (List.mem_append_right _ (List.mem_append_right _ (List.mem_append_right _ (List.mem_append_right _ (List.mem_append_right _ (List.mem_append_right _ (List.mem_append_right _ (List.mem_append_left _ (List.mem_of_getElem? h)))))))))))))))))))))))))
theorem ce_w14 (i : Nat) {c : Cond} (h : ce_gl14[i]? = some c) : c ∈ ce_gl := List.mem_append_right _ (List.mem_append_right _ (List.mem_append_right _ (List.mem_append_right _ (List.mem_append_right _ (List.mem_append_right _ (List.mem_append_right _ (List.mem_append_right _ (List.mem_append_right _ (List.mem_append_right _ (List.mem_append_right _ (List.mem_append_right _ (List.mem_append_right _ (List.mem_append_right _ (List.mem_append_right _ (List.mem_append_right _ (List.mem_append_right _ (List.mem_append_right _ (List.mem_append_right _ (List.mem_append_right _ (List.mem_append_right _ (List.mem_append_right _ (List.mem_append_right _ (List.mem_append_right _ (List.mem_append_right _ (List.mem_append_left _ (List.mem_of_getElem? h))))))))))))))))))))))))))
theorem ce_w15 (i : Nat) {c : Cond} (h : ce_gl15[i]? = some c) : c ∈ ce_gl := List.mem_append_right _ (List.mem_append_right _ (List.mem_append_right _ (List.mem_append_right _ (List.mem_append_right _ (List.mem_append_right _ (List.mem_append_right _ (List.mem_append_right _ (List.mem_append_right _ (List.mem_append_right _ (List.mem_append_right _ (List.mem_append_right _ (List.mem_append_right _ (List.mem_append_right _ (List.mem_append_right _ (List.mem_append_right _ (List.mem_append_right _ (List.mem_append_right _ (List.mem_append_right _ (List.mem_append_right _ (List.mem_append_right _ (List.mem_append_right _ (List.mem_append_right _ (List.mem_append_right _ (List.mem_append_right _ (List.mem_append_right _ (List.mem_append_left _ (List.mem_of_getElem? h)))))))))))))))))))))))))))
theorem ce_w16 (i : Nat) {c : Cond} (h : ce_gl16[i]? = some c) : c ∈ ce_gl := List.mem_append_right _ (List.mem_append_right _ (List.mem_append_right _ (List.mem_append_right _ (List.mem_append_right _ (List.mem_append_right _ (List.mem_append_right _ (List.mem_append_right _ (List.mem_append_right _ (List.mem_append_right _ (List.mem_append_right _ (List.mem_append_right _ (List.mem_append_right _ (List.mem_append_right _ (List.mem_append_right _ (List.mem_append_right _ (List.mem_append_right _ (List.mem_append_right _ (List.mem_append_right _ (List.mem_append_right _ (List.mem_append_right _ (List.mem_append_right _ (List.mem_append_right _ (List.mem_append_right _ (List.mem_append_right _ (List.mem_append_right _ (List.mem_append_right _ (List.mem_append_left _ (List.mem_of_getElem? h))))))))))))))))))))))))))))
theorem ce_w17 (i : Nat) {c : Cond} (h : ce_gl17[i]? = some c) : c ∈ ce_gl := List.mem_append_right _ (List.mem_append_right _ (List.mem_append_right _ (List.mem_append_right _ (List.mem_append_right _ (List.mem_append_right _ (List.mem_append_right _ (List.mem_append_right _ (List.mem_append_right _ (List.mem_append_right _ (List.mem_append_right _ (List.mem_append_right _ (List.mem_append_right _ (List.mem_append_right _ (List.mem_append_right _ (List.mem_append_right _ (List.mem_append_right _ (List.mem_append_right _ (List.mem_append_right _ (List.mem_append_right _ (List.mem_append_right _ (List.mem_append_right _ (List.mem_append_right _ (List.mem_append_right _ (List.mem_append_right _ (List.mem_append_right _ (List.mem_append_right _ (List.mem_append_right _ (List.mem_append_left _ (List.mem_of_getElem? h)))))))))))))))))))))))))))))
theorem ce_w18 (i : Nat) {c : Cond} (h : ce_gl18[i]? = some c) : c ∈ ce_gl := List.mem_append_right _ (List.mem_append_right _ (List.mem_append_right _ (List.mem_append_right _ (List.mem_append_right _ (List.mem_append_right _ (List.mem_append_right _ (List.mem_append_right _ (List.mem_append_right _ (List.mem_append_right _ (List.mem_append_right _ (List.mem_append_right _ (List.mem_append_right _ (List.mem_append_right _ (List.mem_append_right _ (List.mem_append_right _ (List.mem_append_right _ (List.mem_append_right _ (List.mem_append_right _ (List.mem_append_right _ (List.mem_append_right _ (List.mem_append_right _ (List.mem_append_right _ (List.mem_append_right _ (List.mem_append_right _ (List.mem_append_right _ (List.mem_append_right _ (List.mem_append_right _ (List.mem_append_right _ (List.mem_append_left _ (List.mem_of_getElem? h))))))))))))))))))))))))))))))
theorem ce_w19 (i : Nat) {c : Cond} (h : ce_gl19[i]? = some c) : c ∈ ce_gl := List.mem_append_right _ (List.mem_append_right _ (List.mem_append_right _ (List.mem_append_right _ (List.mem_append_right _ (List.mem_append_right _ (List.mem_append_right _ (List.mem_append_right _ (List.mem_append_right _ (List.mem_append_right _ (List.mem_append_right _ (List.mem_append_right _ (List.mem_append_right _ (List.mem_append_right _ (List.mem_append_right _ (List.mem_append_right _ (List.mem_append_right _ (List.mem_append_right _ (List.mem_append_right _ (List.mem_append_right _ (List.mem_append_right _ (List.mem_append_right _ (List.mem_append_right _ (List.mem_append_right _ (List.mem_append_right _ (List.mem_append_right _ (List.mem_append_right _ (List.mem_append_right _ (List.mem_append_right _ (List.mem_append_right _ (List.mem_append_left _ (List.mem_of_getElem? h)))))))))))))))))))))))))))))))
theorem ce_w20 (i : Nat) {c : Cond} (h : ce_gl20[i]? = some c) : c ∈ ce_gl := List.mem_append_right _ (List.mem_append_right _ (List.mem_append_right _ (List.mem_append_right _ (List.mem_append_right _ (List.mem_append_right _ (List.mem_append_right _ (List.mem_append_right _ (List.mem_append_right _ (List.mem_append_right _ (List.mem_append_right _ (List.mem_append_right _ (List.mem_append_right _ (List.mem_append_right _ (List.mem_append_right _ (List.mem_append_right _ (List.mem_append_right _ (List.mem_append_right _ (List.mem_append_right _ (List.mem_append_right _ (List.mem_append_right _ (List.mem_append_right _ (List.mem_append_right _ (List.mem_append_right _ (List.mem_append_right _ (List.mem_append_right _ (List.mem_append_right _ (List.mem_append_right _ (List.mem_append_right _ (List.mem_append_right _ (List.mem_append_right _ (List.mem_append_left _ (List.mem_of_getElem? h))))))))))))))))))))))))))))))))
theorem ce_w21 (i : Nat) {c : Cond} (h : ce_gl21[i]? = some c) : c ∈ ce_gl := List.mem_append_right _ (List.mem_append_right _ (List.mem_append_right _ (List.mem_append_right _ (List.mem_append_right _ (List.mem_append_right _ (List.mem_append_right _ (List.mem_append_right _ (List.mem_append_right _ (List.mem_append_right _ (List.mem_append_right _ (List.mem_append_right _ (List.mem_append_right _ (List.mem_append_right _ (List.mem_append_right _ (List.mem_append_right _ (List.mem_append_right _ (List.mem_append_right _ (List.mem_append_right _ (List.mem_append_right _ (List.mem_append_right _ (List.mem_append_right _ (List.mem_append_right _ (List.mem_append_right _ (List.mem_append_right _ (List.mem_append_right _ (List.mem_append_right _ (List.mem_append_right _ (List.mem_append_right _ (List.mem_append_right _ (List.mem_append_right _ (List.mem_append_right _ (List.mem_of_getElem? h))))))))))))))))))))))))))))))))
/-- the two programs; the five rows of values -/
def zpr (p : Nat) : Bool := p == 12 || p == 23
theorem zpr_or {p : Nat} (h : zpr p = true) : p = 12 ∨ p = 23 := by simpa [zpr] using h
theorem zpr_n0 {p : Nat} (h : zpr p = true) : ¬ p = 0 := by rcases zpr_or h with rfl | rfl <;> decide
def zvl (v : Nat) : Bool := v == 66 || v == 69 || v == 72 || v == 75 || v == 78
theorem zvl_or {v : Nat} (h : zvl v = true) : v = 66 ∨ v = 69 ∨ v = 72 ∨ v = 75 ∨ v = 78 := by simpa [zvl, or_assoc] using h
theorem ce_ckP1 {p : Nat} (h : zpr p = true) : (ce_ct (p + 1)).1 = 2 := by rcases zpr_or h with rfl | rfl <;> rfl
theorem ce_clP1 {p : Nat} (h : zpr p = true) : p + 1 < 90 := by rcases zpr_or h with rfl | rfl <;> decide
theorem ce_cnP1 {p : Nat} {u : zMu} (h : zpr p = true) : zlen ce_tb u (p + 1) = 2400 := by rcases zpr_or h with rfl | rfl <;> rfl
theorem ce_frP1 {p : Nat} {a g : Nat → Nat} (h : zpr p = true) : zad ce_tb a g (ce_ft p 0).2 = a (p + 1) := by rcases zpr_or h with rfl | rfl <;> rfl
theorem ce_ckP2 {p : Nat} (h : zpr p = true) : (ce_ct (p + 2)).1 = 1 := by rcases zpr_or h with rfl | rfl <;> rfl
theorem ce_clP2 {p : Nat} (h : zpr p = true) : p + 2 < 90 := by rcases zpr_or h with rfl | rfl <;> decide
theorem ce_cnP2 {p : Nat} {u : zMu} (h : zpr p = true) : zlen ce_tb u (p + 2) = 2400 := by rcases zpr_or h with rfl | rfl <;> rfl
theorem ce_frP2 {p : Nat} {a g : Nat → Nat} (h : zpr p = true) : zad ce_tb a g (ce_ft p 1).2 = a (p + 2) := by rcases zpr_or h with rfl | rfl <;> rfl
theorem ce_ckP3 {p : Nat} (h : zpr p = true) : (ce_ct (p + 3)).1 = 3 := by rcases zpr_or h with rfl | rfl <;> rfl
theorem ce_clP3 {p : Nat} (h : zpr p = true) : p + 3 < 90 := by rcases zpr_or h with rfl | rfl <;> decide
theorem ce_cnP3 {p : Nat} {u : zMu} (h : zpr p = true) : zlen ce_tb u (p + 3) = 2400 := by rcases zpr_or h with rfl | rfl <;> rfl
theorem ce_frP3 {p : Nat} {a g : Nat → Nat} (h : zpr p = true) : zad ce_tb a g (ce_ft p 2).2 = a (p + 3) := by rcases zpr_or h with rfl | rfl <;> rfl
theorem ce_ckP4 {p : Nat} (h : zpr p = true) : (ce_ct (p + 4)).1 = 1 := by rcases zpr_or h with rfl | rfl <;> rfl
theorem ce_clP4 {p : Nat} (h : zpr p = true) : p + 4 < 90 := by rcases zpr_or h with rfl | rfl <;> decide
theorem ce_cnP4 {p : Nat} {u : zMu} (h : zpr p = true) : zlen ce_tb u (p + 4) = 80 := by rcases zpr_or h with rfl | rfl <;> rfl
theorem ce_frP4 {p : Nat} {a g : Nat → Nat} (h : zpr p = true) : zad ce_tb a g (ce_ft p 4).2 = a (p + 4) := by rcases zpr_or h with rfl | rfl <;> rfl
theorem ce_ckP5 {p : Nat} (h : zpr p = true) : (ce_ct (p + 5)).1 = 1 := by rcases zpr_or h with rfl | rfl <;> rfl
theorem ce_clP5 {p : Nat} (h : zpr p = true) : p + 5 < 90 := by rcases zpr_or h with rfl | rfl <;> decide
theorem ce_cnP5 {p : Nat} {u : zMu} (h : zpr p = true) : zlen ce_tb u (p + 5) = 80 := by rcases zpr_or h with rfl | rfl <;> rfl
theorem ce_frP5 {p : Nat} {a g : Nat → Nat} (h : zpr p = true) : zad ce_tb a g (ce_ft p 5).2 = a (p + 5) := by rcases zpr_or h with rfl | rfl <;> rfl
theorem ce_ckP6 {p : Nat} (h : zpr p = true) : (ce_ct (p + 6)).1 = 1 := by rcases zpr_or h with rfl | rfl <;> rfl
theorem ce_clP6 {p : Nat} (h : zpr p = true) : p + 6 < 90 := by rcases zpr_or h with rfl | rfl <;> decide
theorem ce_cnP6 {p : Nat} {u : zMu} (h : zpr p = true) : zlen ce_tb u (p + 6) = 80 := by rcases zpr_or h with rfl | rfl <;> rfl
theorem ce_frP6 {p : Nat} {a g : Nat → Nat} (h : zpr p = true) : zad ce_tb a g (ce_ft p 6).2 = a (p + 6) := by rcases zpr_or h with rfl | rfl <;> rfl
theorem ce_ckP7 {p : Nat} (h : zpr p = true) : (ce_ct (p + 7)).1 = 5 := by rcases zpr_or h with rfl | rfl <;> rfl
theorem ce_clP7 {p : Nat} (h : zpr p = true) : p + 7 < 90 := by rcases zpr_or h with rfl | rfl <;> decide
theorem ce_cnP7 {p : Nat} {u : zMu} (h : zpr p = true) : zlen ce_tb u (p + 7) = 80 := by rcases zpr_or h with rfl | rfl <;> rfl
theorem ce_frP7 {p : Nat} {a g : Nat → Nat} (h : zpr p = true) : zad ce_tb a g (ce_ft p 7).2 = a (p + 7) := by rcases zpr_or h with rfl | rfl <;> rfl
theorem ce_ckP8 {p : Nat} (h : zpr p = true) : (ce_ct (p + 8)).1 = 5 := by rcases zpr_or h with rfl | rfl <;> rfl
theorem ce_clP8 {p : Nat} (h : zpr p = true) : p + 8 < 90 := by rcases zpr_or h with rfl | rfl <;> decide
theorem ce_cnP8 {p : Nat} {u : zMu} (h : zpr p = true) : zlen ce_tb u (p + 8) = 8 := by rcases zpr_or h with rfl | rfl <;> rfl
theorem ce_frP8 {p : Nat} {a g : Nat → Nat} (h : zpr p = true) : zad ce_tb a g (ce_ft p 9).2 = a (p + 8) := by rcases zpr_or h with rfl | rfl <;> rfl
theorem ce_ckP9 {p : Nat} (h : zpr p = true) : (ce_ct (p + 9)).1 = 1 := by rcases zpr_or h with rfl | rfl <;> rfl
theorem ce_clP9 {p : Nat} (h : zpr p = true) : p + 9 < 90 := by rcases zpr_or h with rfl | rfl <;> decide
theorem ce_cnP9 {p : Nat} {u : zMu} (h : zpr p = true) : zlen ce_tb u (p + 9) = 8 := by rcases zpr_or h with rfl | rfl <;> rfl
theorem ce_frP9 {p : Nat} {a g : Nat → Nat} (h : zpr p = true) : zad ce_tb a g (ce_ft p 10).2 = a (p + 9) := by rcases zpr_or h with rfl | rfl <;> rfl
theorem ce_ckP10 {p : Nat} (h : zpr p = true) : (ce_ct (p + 10)).1 = 1 := by rcases zpr_or h with rfl | rfl <;> rfl
theorem ce_clP10 {p : Nat} (h : zpr p = true) : p + 10 < 90 := by rcases zpr_or h with rfl | rfl <;> decide
theorem ce_cnP10 {p : Nat} {u : zMu} (h : zpr p = true) : zlen ce_tb u (p + 10) = 8 := by rcases zpr_or h with rfl | rfl <;> rfl
theorem ce_frP10 {p : Nat} {a g : Nat → Nat} (h : zpr p = true) : zad ce_tb a g (ce_ft p 11).2 = a (p + 10) := by rcases zpr_or h with rfl | rfl <;> rfl
theorem ce_adP0 {p : Nat} {a g : Nat → Nat} (h : zpr p = true) : zad ce_tb a g p = a p := by rcases zpr_or h with rfl | rfl <;> rfl
theorem ce_adP1 {p : Nat} {a g : Nat → Nat} (h : zpr p = true) : zad ce_tb a g (p + 1) = a (p + 1) := by rcases zpr_or h with rfl | rfl <;> rfl
theorem ce_adP2 {p : Nat} {a g : Nat → Nat} (h : zpr p = true) : zad ce_tb a g (p + 2) = a (p + 2) := by rcases zpr_or h with rfl | rfl <;> rfl
theorem ce_adP3 {p : Nat} {a g : Nat → Nat} (h : zpr p = true) : zad ce_tb a g (p + 3) = a (p + 3) := by rcases zpr_or h with rfl | rfl <;> rfl
theorem ce_adP4 {p : Nat} {a g : Nat → Nat} (h : zpr p = true) : zad ce_tb a g (p + 4) = a (p + 4) := by rcases zpr_or h with rfl | rfl <;> rfl
theorem ce_adP5 {p : Nat} {a g : Nat → Nat} (h : zpr p = true) : zad ce_tb a g (p + 5) = a (p + 5) := by rcases zpr_or h with rfl | rfl <;> rfl
theorem ce_adP6 {p : Nat} {a g : Nat → Nat} (h : zpr p = true) : zad ce_tb a g (p + 6) = a (p + 6) := by rcases zpr_or h with rfl | rfl <;> rfl
theorem ce_adP7 {p : Nat} {a g : Nat → Nat} (h : zpr p = true) : zad ce_tb a g (p + 7) = a (p + 7) := by rcases zpr_or h with rfl | rfl <;> rfl
theorem ce_adP8 {p : Nat} {a g : Nat → Nat} (h : zpr p = true) : zad ce_tb a g (p + 8) = a (p + 8) := by rcases zpr_or h with rfl | rfl <;> rfl
theorem ce_adP9 {p : Nat} {a g : Nat → Nat} (h : zpr p = true) : zad ce_tb a g (p + 9) = a (p + 9) := by rcases zpr_or h with rfl | rfl <;> rfl
theorem ce_adP10 {p : Nat} {a g : Nat → Nat} (h : zpr p = true) : zad ce_tb a g (p + 10) = a (p + 10) := by rcases zpr_or h with rfl | rfl <;> rfl
theorem ce_adV0 {v : Nat} {a g : Nat → Nat} (h : zvl v = true) : zad ce_tb a g v = a v := by rcases zvl_or h with rfl | rfl | rfl | rfl | rfl <;> rfl
theorem ce_adV1 {v : Nat} {a g : Nat → Nat} (h : zvl v = true) : zad ce_tb a g (v + 1) = g (v + 1) := by rcases zvl_or h with rfl | rfl | rfl | rfl | rfl <;> rfl
theorem ce_adV2 {v : Nat} {a g : Nat → Nat} (h : zvl v = true) : zad ce_tb a g (v + 2) = g (v + 2) := by rcases zvl_or h with rfl | rfl | rfl | rfl | rfl <;> rfl
theorem ce_ckV1 {v : Nat} (h : zvl v = true) : (ce_ct (v + 1)).1 = 2 := by rcases zvl_or h with rfl | rfl | rfl | rfl | rfl <;> rfl
theorem ce_clV1 {v : Nat} (h : zvl v = true) : v + 1 < 90 := by rcases zvl_or h with rfl | rfl | rfl | rfl | rfl <;> decide
theorem ce_cnV1 {v : Nat} {u : zMu} (h : zvl v = true) : zlen ce_tb u (v + 1) = zN u (v + 1) := by rcases zvl_or h with rfl | rfl | rfl | rfl | rfl <;> rfl
theorem ce_frV1 {v : Nat} {a g : Nat → Nat} (h : zvl v = true) : zad ce_tb a g (ce_ft v 1).2 = g (v + 1) := by rcases zvl_or h with rfl | rfl | rfl | rfl | rfl <;> rfl
theorem ce_frcV1 {v : Nat} (h : zvl v = true) : (ce_ft v 1).2 = v + 1 := by rcases zvl_or h with rfl | rfl | rfl | rfl | rfl <;> rfl
theorem ce_grV1 {v : Nat} (h : zvl v = true) : (ce_ct (v + 1)).1 = 2 ∧ (ce_ct (v + 1)).2.2 = 0 ∧ v + 1 < 90 ∧ 66 ≤ v + 1 := by rcases zvl_or h with rfl | rfl | rfl | rfl | rfl <;> decide
theorem ce_ckV2 {v : Nat} (h : zvl v = true) : (ce_ct (v + 2)).1 = 5 := by rcases zvl_or h with rfl | rfl | rfl | rfl | rfl <;> rfl
theorem ce_clV2 {v : Nat} (h : zvl v = true) : v + 2 < 90 := by rcases zvl_or h with rfl | rfl | rfl | rfl | rfl <;> decide
theorem ce_cnV2 {v : Nat} {u : zMu} (h : zvl v = true) : zlen ce_tb u (v + 2) = zN u (v + 2) := by rcases zvl_or h with rfl | rfl | rfl | rfl | rfl <;> rfl
theorem ce_frV2 {v : Nat} {a g : Nat → Nat} (h : zvl v = true) : zad ce_tb a g (ce_ft v 2).2 = g (v + 2) := by rcases zvl_or h with rfl | rfl | rfl | rfl | rfl <;> rfl
theorem ce_frcV2 {v : Nat} (h : zvl v = true) : (ce_ft v 2).2 = v + 2 := by rcases zvl_or h with rfl | rfl | rfl | rfl | rfl <;> rfl
theorem ce_grV2 {v : Nat} (h : zvl v = true) : (ce_ct (v + 2)).1 = 5 ∧ (ce_ct (v + 2)).2.2 = 0 ∧ v + 2 < 90 ∧ 66 ≤ v + 2 := by rcases zvl_or h with rfl | rfl | rfl | rfl | rfl <;> decide
theorem ce_nmE : ∀ a, a < 7 → ∀ b, b < 7 → a ≠ b → (ce_TE a).2.1 ≠ (ce_TE b).2.1 := by decide +kernel
theorem ce_tyokE : ∀ k, k < 7 → parseFieldDescriptor (ce_TE k).2.2.1 = some (ce_tyE k) := by decide +kernel
theorem ce_nmC : ∀ a, a < 13 → ∀ b, b < 13 → a ≠ b → (ce_TC a).2.1 ≠ (ce_TC b).2.1 := by decide +kernel
theorem ce_tyokC : ∀ k, k < 13 → parseFieldDescriptor (ce_TC k).2.2.1 = some (ce_tyC k) := by decide +kernel
theorem ce_nmX : ∀ a, a < 9 → ∀ b, b < 9 → a ≠ b → (ce_TX a).2.1 ≠ (ce_TX b).2.1 := by decide +kernel
theorem ce_tyokX : ∀ k, k < 9 → parseFieldDescriptor (ce_TX k).2.2.1 = some (ce_tyX k) := by decide +kernel
theorem ce_nmP : ∀ a, a < 16 → ∀ b, b < 16 → a ≠ b → (ce_TP a).2.1 ≠ (ce_TP b).2.1 := by decide +kernel
theorem ce_tyokP : ∀ k, k < 16 → parseFieldDescriptor (ce_TP k).2.2.1 = some (ce_tyP k) := by decide +kernel
theorem ce_nmM : ∀ a, a < 20 → ∀ b, b < 20 → a ≠ b → (ce_TM a).2.1 ≠ (ce_TM b).2.1 := by decide +kernel
theorem ce_tyokM : ∀ k, k < 20 → parseFieldDescriptor (ce_TM k).2.2.1 = some (ce_tyM k) := by decide +kernel
theorem ce_nmH : ∀ a, a < 14 → ∀ b, b < 14 → a ≠ b → (ce_TH a).2.1 ≠ (ce_TH b).2.1 := by decide +kernel
theorem ce_tyokH : ∀ k, k < 14 → parseFieldDescriptor (ce_TH k).2.2.1 = some (ce_tyH k) := by decide +kernel
theorem ce_nmS : ∀ a, a < 9 → ∀ b, b < 9 → a ≠ b → (ce_TS a).2.1 ≠ (ce_TS b).2.1 := by decide +kernel
theorem ce_tyokS : ∀ k, k < 9 → parseFieldDescriptor (ce_TS k).2.2.1 = some (ce_tyS k) := by decide +kernel
theorem ce_nmR : ∀ a, a < 7 → ∀ b, b < 7 → a ≠ b → (ce_TR a).2.1 ≠ (ce_TR b).2.1 := by decide +kernel
theorem ce_tyokR : ∀ k, k < 7 → parseFieldDescriptor (ce_TR k).2.2.1 = some (ce_tyR k) := by decide +kernel
theorem ce_nmT : ∀ a, a < 12 → ∀ b, b < 12 → a ≠ b → (ce_TT a).2.1 ≠ (ce_TT b).2.1 := by decide +kernel
theorem ce_tyokT : ∀ k, k < 12 → parseFieldDescriptor (ce_TT k).2.2.1 = some (ce_tyT k) := by decide +kernel
theorem ce_nmF : ∀ a, a < 8 → ∀ b, b < 8 → a ≠ b → (ce_TF a).2.1 ≠ (ce_TF b).2.1 := by decide +kernel
theorem ce_tyokF : ∀ k, k < 8 → parseFieldDescriptor (ce_TF k).2.2.1 = some (ce_tyF k) := by decide +kernel
theorem ce_nmV : ∀ a, a < 3 → ∀ b, b < 3 → a ≠ b → (ce_TV a).2.1 ≠ (ce_TV b).2.1 := by decide +kernel
theorem ce_tyokV : ∀ k, k < 3 → parseFieldDescriptor (ce_TV k).2.2.1 = some (ce_tyV k) := by decide +kernel
theorem ce_zclE : zCl ce_gl ce_RE ce_TE 7 ce_tyE := ⟨fun _ h => List.mem_append_left _ h, ce_tyokE, ce_nmE⟩
theorem ce_zclC : zCl ce_gl ce_RC ce_TC 13 ce_tyC := ⟨fun _ h => List.mem_append_right _ (List.mem_append_left _ h), ce_tyokC, ce_nmC⟩
theorem ce_zclX : zCl ce_gl ce_RX ce_TX 9 ce_tyX := ⟨fun _ h => List.mem_append_right _ (List.mem_append_right _ (List.mem_append_left _ h)), ce_tyokX, ce_nmX⟩
theorem ce_zclP : zCl ce_gl ce_RP ce_TP 16 ce_tyP := ⟨fun _ h => List.mem_append_right _ (List.mem_append_right _ (List.mem_append_right _ (List.mem_append_left _ h))), ce_tyokP, ce_nmP⟩
theorem ce_zclM : zCl ce_gl ce_RM ce_TM 20 ce_tyM := ⟨fun _ h => List.mem_append_right _ (List.mem_append_right _ (List.mem_append_right _ (List.mem_append_right _ (List.mem_append_left _ h)))), ce_tyokM, ce_nmM⟩
theorem ce_zclH : zCl ce_gl ce_RH ce_TH 14 ce_tyH := ⟨fun _ h => List.mem_append_right _ (List.mem_append_right _ (List.mem_append_right _ (List.mem_append_right _ (List.mem_append_right _ (List.mem_append_left _ h))))), ce_tyokH, ce_nmH⟩
theorem ce_zclS : zCl ce_gl ce_RS ce_TS 9 ce_tyS := ⟨fun _ h => List.mem_append_right _ (List.mem_append_right _ (List.mem_append_right _ (List.mem_append_right _ (List.mem_append_right _ (List.mem_append_right _ (List.mem_append_left _ h)))))), ce_tyokS, ce_nmS⟩
theorem ce_zclR : zCl ce_gl ce_RR ce_TR 7 ce_tyR := ⟨fun _ h => List.mem_append_right _ (List.mem_append_right _ (List.mem_append_right _ (List.mem_append_right _ (List.mem_append_right _ (List.mem_append_right _ (List.mem_append_right _ (List.mem_append_left _ h))))))), ce_tyokR, ce_nmR⟩
theorem ce_zclT : zCl ce_gl ce_RT ce_TT 12 ce_tyT := ⟨fun _ h => List.mem_append_right _ (List.mem_append_right _ (List.mem_append_right _ (List.mem_append_right _ (List.mem_append_right _ (List.mem_append_right _ (List.mem_append_right _ (List.mem_append_right _ (List.mem_append_left _ h)))))))), ce_tyokT, ce_nmT⟩
theorem ce_zclF : zCl ce_gl ce_RF ce_TF 8 ce_tyF := ⟨fun _ h => List.mem_append_right _ (List.mem_append_right _ (List.mem_append_right _ (List.mem_append_right _ (List.mem_append_right _ (List.mem_append_right _ (List.mem_append_right _ (List.mem_append_right _ (List.mem_append_right _ (List.mem_append_left _ h))))))))), ce_tyokF, ce_nmF⟩
theorem ce_zclV : zCl ce_gl ce_RV ce_TV 3 ce_tyV := ⟨fun _ h => List.mem_append_right _ (List.mem_append_right _ (List.mem_append_right _ (List.mem_append_right _ (List.mem_append_right _ (List.mem_append_right _ (List.mem_append_right _ (List.mem_append_right _ (List.mem_append_right _ (List.mem_append_right _ (List.mem_append_left _ h)))))))))), ce_tyokV, ce_nmV⟩
theorem ce_good : ce_gl.all goodWord = true := by decide +kernel
theorem ce_goodIn : GoodIn ce_gl ce_gl := fun c hc => ⟨hc, good_of_word (List.all_eq_true.mp ce_good c hc)⟩
theorem cef_P45_P (ca : Nat → ClassId) (D : va_G) {p : Nat} (h : zpr p = true) : zFld (zCe ca D) ce_RP 45 p 3 0 false (.int) := ⟨ce_RP, ce_TP, 16, 3, ce_tyP, by rcases zpr_or h with rfl | rfl <;> rfl, by show p < 90; rcases zpr_or h with rfl | rfl <;> decide, rfl, ce_zclP, by decide, (ce_w0 20 rfl), by rcases zpr_or h with rfl | rfl <;> rfl, rfl, rfl⟩
theorem cef_P49_P (ca : Nat → ClassId) (D : va_G) {p : Nat} (h : zpr p = true) : zFld (zCe ca D) ce_RP 49 p 8 0 false (.int) := ⟨ce_RP, ce_TP, 16, 3, ce_tyP, by rcases zpr_or h with rfl | rfl <;> rfl, by show p < 90; rcases zpr_or h with rfl | rfl <;> decide, rfl, ce_zclP, by decide, (ce_w0 21 rfl), by rcases zpr_or h with rfl | rfl <;> rfl, rfl, rfl⟩
theorem cef_P52_P (ca : Nat → ClassId) (D : va_G) {p : Nat} (h : zpr p = true) : zFld (zCe ca D) ce_RP 52 p 12 0 false (.int) := ⟨ce_RP, ce_TP, 16, 3, ce_tyP, by rcases zpr_or h with rfl | rfl <;> rfl, by show p < 90; rcases zpr_or h with rfl | rfl <;> decide, rfl, ce_zclP, by decide, (ce_w0 22 rfl), by rcases zpr_or h with rfl | rfl <;> rfl, rfl, rfl⟩
theorem cef_P55_P (ca : Nat → ClassId) (D : va_G) {p : Nat} (h : zpr p = true) : zFld (zCe ca D) ce_RP 55 p 13 0 false (.int) := ⟨ce_RP, ce_TP, 16, 3, ce_tyP, by rcases zpr_or h with rfl | rfl <;> rfl, by show p < 90; rcases zpr_or h with rfl | rfl <;> decide, rfl, ce_zclP, by decide, (ce_w0 23 rfl), by rcases zpr_or h with rfl | rfl <;> rfl, rfl, rfl⟩
theorem cef_P58_P (ca : Nat → ClassId) (D : va_G) {p : Nat} (h : zpr p = true) : zFld (zCe ca D) ce_RP 58 p 14 0 false (.int) := ⟨ce_RP, ce_TP, 16, 3, ce_tyP, by rcases zpr_or h with rfl | rfl <;> rfl, by show p < 90; rcases zpr_or h with rfl | rfl <;> decide, rfl, ce_zclP, by decide, (ce_w0 24 rfl), by rcases zpr_or h with rfl | rfl <;> rfl, rfl, rfl⟩
theorem cef_P61_P (ca : Nat → ClassId) (D : va_G) {p : Nat} (h : zpr p = true) : zFld (zCe ca D) ce_RP 61 p 15 0 false (.int) := ⟨ce_RP, ce_TP, 16, 3, ce_tyP, by rcases zpr_or h with rfl | rfl <;> rfl, by show p < 90; rcases zpr_or h with rfl | rfl <;> decide, rfl, ce_zclP, by decide, (ce_w0 25 rfl), by rcases zpr_or h with rfl | rfl <;> rfl, rfl, rfl⟩
theorem cef_C52_2 (ca : Nat → ClassId) (D : va_G) : zFld (zCe ca D) ce_RC 52 2 1 3 false (.object "ShapeEngine$Program") := ⟨ce_RC, ce_TC, 13, 1, ce_tyC, rfl, zlt rfl, rfl, ce_zclC, by decide, (ce_w0 26 rfl), rfl, rfl, rfl⟩
theorem cef_C80_2 (ca : Nat → ClassId) (D : va_G) : zFld (zCe ca D) ce_RC 80 2 2 0 false (.boolean) := ⟨ce_RC, ce_TC, 13, 1, ce_tyC, rfl, zlt rfl, rfl, ce_zclC, by decide, (ce_w0 27 rfl), rfl, rfl, rfl⟩
theorem cef_C90_2 (ca : Nat → ClassId) (D : va_G) : zFld (zCe ca D) ce_RC 90 2 3 0 false (.int) := ⟨ce_RC, ce_TC, 13, 1, ce_tyC, rfl, zlt rfl, rfl, ce_zclC, by decide, (ce_w0 28 rfl), rfl, rfl, rfl⟩
theorem cef_C18_2 (ca : Nat → ClassId) (D : va_G) : zFld (zCe ca D) ce_RC 18 2 4 0 false (.int) := ⟨ce_RC, ce_TC, 13, 1, ce_tyC, rfl, zlt rfl, rfl, ce_zclC, by decide, (ce_w0 29 rfl), rfl, rfl, rfl⟩
theorem cef_C93_2 (ca : Nat → ClassId) (D : va_G) : zFld (zCe ca D) ce_RC 93 2 5 0 false (.int) := ⟨ce_RC, ce_TC, 13, 1, ce_tyC, rfl, zlt rfl, rfl, ce_zclC, by decide, (ce_w0 30 rfl), rfl, rfl, rfl⟩
theorem cef_C96_2 (ca : Nat → ClassId) (D : va_G) : zFld (zCe ca D) ce_RC 96 2 12 0 false (.int) := ⟨ce_RC, ce_TC, 13, 1, ce_tyC, rfl, zlt rfl, rfl, ce_zclC, by decide, (ce_w0 31 rfl), rfl, rfl, rfl⟩
theorem cef_X39_7 (ca : Nat → ClassId) (D : va_G) : zFld (zCe ca D) ce_RX 39 7 0 2 true (.array .long) := ⟨ce_RX, ce_TX, 9, 2, ce_tyX, rfl, zlt rfl, rfl, ce_zclX, by decide, (ce_w0 32 rfl), rfl, rfl, rfl⟩
theorem cef_X57_7 (ca : Nat → ClassId) (D : va_G) : zFld (zCe ca D) ce_RX 57 7 4 0 false (.int) := ⟨ce_RX, ce_TX, 9, 2, ce_tyX, rfl, zlt rfl, rfl, ce_zclX, by decide, (ce_w0 33 rfl), rfl, rfl, rfl⟩
theorem cef_X43_7 (ca : Nat → ClassId) (D : va_G) : zFld (zCe ca D) ce_RX 43 7 1 2 true (.array .short) := ⟨ce_RX, ce_TX, 9, 2, ce_tyX, rfl, zlt rfl, rfl, ce_zclX, by decide, (ce_w0 34 rfl), rfl, rfl, rfl⟩
theorem cef_X47_7 (ca : Nat → ClassId) (D : va_G) : zFld (zCe ca D) ce_RX 47 7 2 2 true (.array .short) := ⟨ce_RX, ce_TX, 9, 2, ce_tyX, rfl, zlt rfl, rfl, ce_zclX, by decide, (ce_w0 35 rfl), rfl, rfl, rfl⟩
theorem cef_X50_7 (ca : Nat → ClassId) (D : va_G) : zFld (zCe ca D) ce_RX 50 7 3 2 true (.array .long) := ⟨ce_RX, ce_TX, 9, 2, ce_tyX, rfl, zlt rfl, rfl, ce_zclX, by decide, (ce_w0 36 rfl), rfl, rfl, rfl⟩
theorem cef_X81_7 (ca : Nat → ClassId) (D : va_G) : zFld (zCe ca D) ce_RX 81 7 5 0 false (.int) := ⟨ce_RX, ce_TX, 9, 2, ce_tyX, rfl, zlt rfl, rfl, ce_zclX, by decide, (ce_w0 37 rfl), rfl, rfl, rfl⟩
theorem cef_X53_7 (ca : Nat → ClassId) (D : va_G) : zFld (zCe ca D) ce_RX 53 7 6 0 false (.int) := ⟨ce_RX, ce_TX, 9, 2, ce_tyX, rfl, zlt rfl, rfl, ce_zclX, by decide, (ce_w0 38 rfl), rfl, rfl, rfl⟩
theorem cef_X87_7 (ca : Nat → ClassId) (D : va_G) : zFld (zCe ca D) ce_RX 87 7 7 0 false (.int) := ⟨ce_RX, ce_TX, 9, 2, ce_tyX, rfl, zlt rfl, rfl, ce_zclX, by decide, (ce_w0 39 rfl), rfl, rfl, rfl⟩
theorem cef_X90_7 (ca : Nat → ClassId) (D : va_G) : zFld (zCe ca D) ce_RX 90 7 8 1 false (.long) := ⟨ce_RX, ce_TX, 9, 2, ce_tyX, rfl, zlt rfl, rfl, ce_zclX, by decide, (ce_w1 0 rfl), rfl, rfl, rfl⟩
theorem cef_C12_2 (ca : Nat → ClassId) (D : va_G) : zFld (zCe ca D) ce_RC 12 2 0 2 true (.object "ShapeEngine$Lexer") := ⟨ce_RC, ce_TC, 13, 1, ce_tyC, rfl, zlt rfl, rfl, ce_zclC, by decide, (ce_w1 1 rfl), rfl, rfl, rfl⟩
theorem cef_C116_7 (ca : Nat → ClassId) (D : va_G) : zFld (zCe ca D) ce_RC 116 7 7 0 false (.int) := ⟨ce_RX, ce_TX, 9, 2, ce_tyX, rfl, zlt rfl, rfl, ce_zclX, by decide, (ce_w1 2 rfl), rfl, rfl, rfl⟩
theorem cef_C43_7 (ca : Nat → ClassId) (D : va_G) : zFld (zCe ca D) ce_RC 43 7 6 0 false (.int) := ⟨ce_RX, ce_TX, 9, 2, ce_tyX, rfl, zlt rfl, rfl, ce_zclX, by decide, (ce_w1 3 rfl), rfl, rfl, rfl⟩
theorem cef_P36_P (ca : Nat → ClassId) (D : va_G) {p : Nat} (h : zpr p = true) : zFld (zCe ca D) ce_RP 36 p 9 2 true (.array .long) := ⟨ce_RP, ce_TP, 16, 3, ce_tyP, by rcases zpr_or h with rfl | rfl <;> rfl, by show p < 90; rcases zpr_or h with rfl | rfl <;> decide, rfl, ce_zclP, by decide, (ce_w1 4 rfl), by rcases zpr_or h with rfl | rfl <;> rfl, rfl, rfl⟩
theorem cef_P39_P (ca : Nat → ClassId) (D : va_G) {p : Nat} (h : zpr p = true) : zFld (zCe ca D) ce_RP 39 p 10 2 true (.array .int) := ⟨ce_RP, ce_TP, 16, 3, ce_tyP, by rcases zpr_or h with rfl | rfl <;> rfl, by show p < 90; rcases zpr_or h with rfl | rfl <;> decide, rfl, ce_zclP, by decide, (ce_w1 5 rfl), by rcases zpr_or h with rfl | rfl <;> rfl, rfl, rfl⟩
theorem cef_P42_P (ca : Nat → ClassId) (D : va_G) {p : Nat} (h : zpr p = true) : zFld (zCe ca D) ce_RP 42 p 11 2 true (.array .int) := ⟨ce_RP, ce_TP, 16, 3, ce_tyP, by rcases zpr_or h with rfl | rfl <;> rfl, by show p < 90; rcases zpr_or h with rfl | rfl <;> decide, rfl, ce_zclP, by decide, (ce_w1 6 rfl), by rcases zpr_or h with rfl | rfl <;> rfl, rfl, rfl⟩
theorem cef_C65_2 (ca : Nat → ClassId) (D : va_G) : zFld (zCe ca D) ce_RC 65 2 8 0 false (.int) := ⟨ce_RC, ce_TC, 13, 1, ce_tyC, rfl, zlt rfl, rfl, ce_zclC, by decide, (ce_w1 7 rfl), rfl, rfl, rfl⟩
theorem cef_C22_2 (ca : Nat → ClassId) (D : va_G) : zFld (zCe ca D) ce_RC 22 2 7 2 true (.array .long) := ⟨ce_RC, ce_TC, 13, 1, ce_tyC, rfl, zlt rfl, rfl, ce_zclC, by decide, (ce_w1 8 rfl), rfl, rfl, rfl⟩
theorem cef_C108_7 (ca : Nat → ClassId) (D : va_G) : zFld (zCe ca D) ce_RC 108 7 8 1 false (.long) := ⟨ce_RX, ce_TX, 9, 2, ce_tyX, rfl, zlt rfl, rfl, ce_zclX, by decide, (ce_w1 9 rfl), rfl, rfl, rfl⟩
theorem cef_C62_2 (ca : Nat → ClassId) (D : va_G) : zFld (zCe ca D) ce_RC 62 2 6 0 false (.int) := ⟨ce_RC, ce_TC, 13, 1, ce_tyC, rfl, zlt rfl, rfl, ce_zclC, by decide, (ce_w1 10 rfl), rfl, rfl, rfl⟩
theorem cef_C99_P (ca : Nat → ClassId) (D : va_G) {p : Nat} (h : zpr p = true) : zFld (zCe ca D) ce_RC 99 p 12 0 false (.int) := ⟨ce_RP, ce_TP, 16, 3, ce_tyP, by rcases zpr_or h with rfl | rfl <;> rfl, by show p < 90; rcases zpr_or h with rfl | rfl <;> decide, rfl, ce_zclP, by decide, (ce_w1 11 rfl), by rcases zpr_or h with rfl | rfl <;> rfl, rfl, rfl⟩
theorem cef_P11_P (ca : Nat → ClassId) (D : va_G) {p : Nat} (h : zpr p = true) : zFld (zCe ca D) ce_RP 11 p 0 2 true (.array .byte) := ⟨ce_RP, ce_TP, 16, 3, ce_tyP, by rcases zpr_or h with rfl | rfl <;> rfl, by show p < 90; rcases zpr_or h with rfl | rfl <;> decide, rfl, ce_zclP, by decide, (ce_w1 12 rfl), by rcases zpr_or h with rfl | rfl <;> rfl, rfl, rfl⟩
theorem cef_P15_P (ca : Nat → ClassId) (D : va_G) {p : Nat} (h : zpr p = true) : zFld (zCe ca D) ce_RP 15 p 1 2 true (.array .int) := ⟨ce_RP, ce_TP, 16, 3, ce_tyP, by rcases zpr_or h with rfl | rfl <;> rfl, by show p < 90; rcases zpr_or h with rfl | rfl <;> decide, rfl, ce_zclP, by decide, (ce_w1 13 rfl), by rcases zpr_or h with rfl | rfl <;> rfl, rfl, rfl⟩
theorem cef_P19_P (ca : Nat → ClassId) (D : va_G) {p : Nat} (h : zpr p = true) : zFld (zCe ca D) ce_RP 19 p 2 2 true (.array .short) := ⟨ce_RP, ce_TP, 16, 3, ce_tyP, by rcases zpr_or h with rfl | rfl <;> rfl, by show p < 90; rcases zpr_or h with rfl | rfl <;> decide, rfl, ce_zclP, by decide, (ce_w1 14 rfl), by rcases zpr_or h with rfl | rfl <;> rfl, rfl, rfl⟩
theorem cef_C26_2 (ca : Nat → ClassId) (D : va_G) : zFld (zCe ca D) ce_RC 26 2 9 2 true (.array .long) := ⟨ce_RC, ce_TC, 13, 1, ce_tyC, rfl, zlt rfl, rfl, ce_zclC, by decide, (ce_w1 15 rfl), rfl, rfl, rfl⟩
theorem cef_C29_2 (ca : Nat → ClassId) (D : va_G) : zFld (zCe ca D) ce_RC 29 2 10 2 true (.array .int) := ⟨ce_RC, ce_TC, 13, 1, ce_tyC, rfl, zlt rfl, rfl, ce_zclC, by decide, (ce_w1 16 rfl), rfl, rfl, rfl⟩
theorem cef_C33_2 (ca : Nat → ClassId) (D : va_G) : zFld (zCe ca D) ce_RC 33 2 11 2 true (.array .int) := ⟨ce_RC, ce_TC, 13, 1, ce_tyC, rfl, zlt rfl, rfl, ce_zclC, by decide, (ce_w1 17 rfl), rfl, rfl, rfl⟩
theorem cef_P23_P (ca : Nat → ClassId) (D : va_G) {p : Nat} (h : zpr p = true) : zFld (zCe ca D) ce_RP 23 p 4 2 true (.array .int) := ⟨ce_RP, ce_TP, 16, 3, ce_tyP, by rcases zpr_or h with rfl | rfl <;> rfl, by show p < 90; rcases zpr_or h with rfl | rfl <;> decide, rfl, ce_zclP, by decide, (ce_w1 18 rfl), by rcases zpr_or h with rfl | rfl <;> rfl, rfl, rfl⟩
theorem cef_P26_P (ca : Nat → ClassId) (D : va_G) {p : Nat} (h : zpr p = true) : zFld (zCe ca D) ce_RP 26 p 5 2 true (.array .int) := ⟨ce_RP, ce_TP, 16, 3, ce_tyP, by rcases zpr_or h with rfl | rfl <;> rfl, by show p < 90; rcases zpr_or h with rfl | rfl <;> decide, rfl, ce_zclP, by decide, (ce_w1 19 rfl), by rcases zpr_or h with rfl | rfl <;> rfl, rfl, rfl⟩
theorem cef_P29_P (ca : Nat → ClassId) (D : va_G) {p : Nat} (h : zpr p = true) : zFld (zCe ca D) ce_RP 29 p 6 2 true (.array .int) := ⟨ce_RP, ce_TP, 16, 3, ce_tyP, by rcases zpr_or h with rfl | rfl <;> rfl, by show p < 90; rcases zpr_or h with rfl | rfl <;> decide, rfl, ce_zclP, by decide, (ce_w1 20 rfl), by rcases zpr_or h with rfl | rfl <;> rfl, rfl, rfl⟩
theorem cef_P32_P (ca : Nat → ClassId) (D : va_G) {p : Nat} (h : zpr p = true) : zFld (zCe ca D) ce_RP 32 p 7 2 true (.array .long) := ⟨ce_RP, ce_TP, 16, 3, ce_tyP, by rcases zpr_or h with rfl | rfl <;> rfl, by show p < 90; rcases zpr_or h with rfl | rfl <;> decide, rfl, ce_zclP, by decide, (ce_w1 21 rfl), by rcases zpr_or h with rfl | rfl <;> rfl, rfl, rfl⟩
theorem cef_C68_P (ca : Nat → ClassId) (D : va_G) {p : Nat} (h : zpr p = true) : zFld (zCe ca D) ce_RC 68 p 3 0 false (.int) := ⟨ce_RP, ce_TP, 16, 3, ce_tyP, by rcases zpr_or h with rfl | rfl <;> rfl, by show p < 90; rcases zpr_or h with rfl | rfl <;> decide, rfl, ce_zclP, by decide, (ce_w1 22 rfl), by rcases zpr_or h with rfl | rfl <;> rfl, rfl, rfl⟩
theorem cef_C234_P (ca : Nat → ClassId) (D : va_G) {p : Nat} (h : zpr p = true) : zFld (zCe ca D) ce_RC 234 p 2 2 true (.array .short) := ⟨ce_RP, ce_TP, 16, 3, ce_tyP, by rcases zpr_or h with rfl | rfl <;> rfl, by show p < 90; rcases zpr_or h with rfl | rfl <;> decide, rfl, ce_zclP, by decide, (ce_w1 23 rfl), by rcases zpr_or h with rfl | rfl <;> rfl, rfl, rfl⟩
theorem cef_C238_P (ca : Nat → ClassId) (D : va_G) {p : Nat} (h : zpr p = true) : zFld (zCe ca D) ce_RC 238 p 11 2 true (.array .int) := ⟨ce_RP, ce_TP, 16, 3, ce_tyP, by rcases zpr_or h with rfl | rfl <;> rfl, by show p < 90; rcases zpr_or h with rfl | rfl <;> decide, rfl, ce_zclP, by decide, (ce_w1 24 rfl), by rcases zpr_or h with rfl | rfl <;> rfl, rfl, rfl⟩
theorem cef_C241_P (ca : Nat → ClassId) (D : va_G) {p : Nat} (h : zpr p = true) : zFld (zCe ca D) ce_RC 241 p 1 2 true (.array .int) := ⟨ce_RP, ce_TP, 16, 3, ce_tyP, by rcases zpr_or h with rfl | rfl <;> rfl, by show p < 90; rcases zpr_or h with rfl | rfl <;> decide, rfl, ce_zclP, by decide, (ce_w1 25 rfl), by rcases zpr_or h with rfl | rfl <;> rfl, rfl, rfl⟩
theorem cef_C71_P (ca : Nat → ClassId) (D : va_G) {p : Nat} (h : zpr p = true) : zFld (zCe ca D) ce_RC 71 p 13 0 false (.int) := ⟨ce_RP, ce_TP, 16, 3, ce_tyP, by rcases zpr_or h with rfl | rfl <;> rfl, by show p < 90; rcases zpr_or h with rfl | rfl <;> decide, rfl, ce_zclP, by decide, (ce_w1 26 rfl), by rcases zpr_or h with rfl | rfl <;> rfl, rfl, rfl⟩
theorem cef_C77_P (ca : Nat → ClassId) (D : va_G) {p : Nat} (h : zpr p = true) : zFld (zCe ca D) ce_RC 77 p 14 0 false (.int) := ⟨ce_RP, ce_TP, 16, 3, ce_tyP, by rcases zpr_or h with rfl | rfl <;> rfl, by show p < 90; rcases zpr_or h with rfl | rfl <;> decide, rfl, ce_zclP, by decide, (ce_w1 27 rfl), by rcases zpr_or h with rfl | rfl <;> rfl, rfl, rfl⟩
theorem cef_F9_59 (ca : Nat → ClassId) (D : va_G) : zFld (zCe ca D) ce_RF 9 59 0 2 true (.array .int) := ⟨ce_RF, ce_TF, 8, 9, ce_tyF, rfl, zlt rfl, rfl, ce_zclF, by decide, (ce_w1 28 rfl), rfl, rfl, rfl⟩
theorem cef_F15_59 (ca : Nat → ClassId) (D : va_G) : zFld (zCe ca D) ce_RF 15 59 1 2 true (.array .int) := ⟨ce_RF, ce_TF, 8, 9, ce_tyF, rfl, zlt rfl, rfl, ce_zclF, by decide, (ce_w1 29 rfl), rfl, rfl, rfl⟩
theorem cef_F18_59 (ca : Nat → ClassId) (D : va_G) : zFld (zCe ca D) ce_RF 18 59 2 2 true (.array .int) := ⟨ce_RF, ce_TF, 8, 9, ce_tyF, rfl, zlt rfl, rfl, ce_zclF, by decide, (ce_w1 30 rfl), rfl, rfl, rfl⟩
theorem cef_F21_59 (ca : Nat → ClassId) (D : va_G) : zFld (zCe ca D) ce_RF 21 59 3 2 true (.array .int) := ⟨ce_RF, ce_TF, 8, 9, ce_tyF, rfl, zlt rfl, rfl, ce_zclF, by decide, (ce_w1 31 rfl), rfl, rfl, rfl⟩
theorem cef_F24_59 (ca : Nat → ClassId) (D : va_G) : zFld (zCe ca D) ce_RF 24 59 4 2 true (.array .int) := ⟨ce_RF, ce_TF, 8, 9, ce_tyF, rfl, zlt rfl, rfl, ce_zclF, by decide, (ce_w1 32 rfl), rfl, rfl, rfl⟩
theorem cef_F27_59 (ca : Nat → ClassId) (D : va_G) : zFld (zCe ca D) ce_RF 27 59 5 2 true (.array .int) := ⟨ce_RF, ce_TF, 8, 9, ce_tyF, rfl, zlt rfl, rfl, ce_zclF, by decide, (ce_w1 33 rfl), rfl, rfl, rfl⟩
theorem cef_F36_59 (ca : Nat → ClassId) (D : va_G) : zFld (zCe ca D) ce_RF 36 59 6 0 false (.int) := ⟨ce_RF, ce_TF, 8, 9, ce_tyF, rfl, zlt rfl, rfl, ce_zclF, by decide, (ce_w1 34 rfl), rfl, rfl, rfl⟩
theorem cef_F40_59 (ca : Nat → ClassId) (D : va_G) : zFld (zCe ca D) ce_RF 40 59 7 0 false (.int) := ⟨ce_RF, ce_TF, 8, 9, ce_tyF, rfl, zlt rfl, rfl, ce_zclF, by decide, (ce_w1 35 rfl), rfl, rfl, rfl⟩
theorem cef_S9_43 (ca : Nat → ClassId) (D : va_G) : zFld (zCe ca D) ce_RS 9 43 0 2 true (.array .int) := ⟨ce_RS, ce_TS, 9, 6, ce_tyS, rfl, zlt rfl, rfl, ce_zclS, by decide, (ce_w1 36 rfl), rfl, rfl, rfl⟩
theorem cef_S43_43 (ca : Nat → ClassId) (D : va_G) : zFld (zCe ca D) ce_RS 43 43 8 0 false (.int) := ⟨ce_RS, ce_TS, 9, 6, ce_tyS, rfl, zlt rfl, rfl, ce_zclS, by decide, (ce_w1 37 rfl), rfl, rfl, rfl⟩
theorem cef_H12_36 (ca : Nat → ClassId) (D : va_G) : zFld (zCe ca D) ce_RH 12 36 0 2 true (.object "ShapeEngine$Shapes") := ⟨ce_RH, ce_TH, 14, 5, ce_tyH, rfl, zlt rfl, rfl, ce_zclH, by decide, (ce_w1 38 rfl), rfl, rfl, rfl⟩
theorem cef_H56_36 (ca : Nat → ClassId) (D : va_G) : zFld (zCe ca D) ce_RH 56 36 7 0 false (.int) := ⟨ce_RH, ce_TH, 14, 5, ce_tyH, rfl, zlt rfl, rfl, ce_zclH, by decide, (ce_w1 39 rfl), rfl, rfl, rfl⟩
theorem cef_H60_36 (ca : Nat → ClassId) (D : va_G) : zFld (zCe ca D) ce_RH 60 36 8 0 false (.int) := ⟨ce_RH, ce_TH, 14, 5, ce_tyH, rfl, zlt rfl, rfl, ce_zclH, by decide, (ce_w2 0 rfl), rfl, rfl, rfl⟩
theorem cef_H63_36 (ca : Nat → ClassId) (D : va_G) : zFld (zCe ca D) ce_RH 63 36 12 0 false (.int) := ⟨ce_RH, ce_TH, 14, 5, ce_tyH, rfl, zlt rfl, rfl, ce_zclH, by decide, (ce_w2 1 rfl), rfl, rfl, rfl⟩
theorem cef_H66_36 (ca : Nat → ClassId) (D : va_G) : zFld (zCe ca D) ce_RH 66 36 13 0 false (.int) := ⟨ce_RH, ce_TH, 14, 5, ce_tyH, rfl, zlt rfl, rfl, ce_zclH, by decide, (ce_w2 2 rfl), rfl, rfl, rfl⟩
theorem cef_S15_43 (ca : Nat → ClassId) (D : va_G) : zFld (zCe ca D) ce_RS 15 43 1 2 false (.array .int) := ⟨ce_RS, ce_TS, 9, 6, ce_tyS, rfl, zlt rfl, rfl, ce_zclS, by decide, (ce_w2 3 rfl), rfl, rfl, rfl⟩
theorem cef_S18_43 (ca : Nat → ClassId) (D : va_G) : zFld (zCe ca D) ce_RS 18 43 2 2 false (.array .int) := ⟨ce_RS, ce_TS, 9, 6, ce_tyS, rfl, zlt rfl, rfl, ce_zclS, by decide, (ce_w2 4 rfl), rfl, rfl, rfl⟩
theorem cef_S21_43 (ca : Nat → ClassId) (D : va_G) : zFld (zCe ca D) ce_RS 21 43 3 2 false (.array .int) := ⟨ce_RS, ce_TS, 9, 6, ce_tyS, rfl, zlt rfl, rfl, ce_zclS, by decide, (ce_w2 5 rfl), rfl, rfl, rfl⟩
theorem cef_S24_43 (ca : Nat → ClassId) (D : va_G) : zFld (zCe ca D) ce_RS 24 43 4 2 false (.array .int) := ⟨ce_RS, ce_TS, 9, 6, ce_tyS, rfl, zlt rfl, rfl, ce_zclS, by decide, (ce_w2 6 rfl), rfl, rfl, rfl⟩
theorem cef_S27_43 (ca : Nat → ClassId) (D : va_G) : zFld (zCe ca D) ce_RS 27 43 5 2 false (.array .long) := ⟨ce_RS, ce_TS, 9, 6, ce_tyS, rfl, zlt rfl, rfl, ce_zclS, by decide, (ce_w2 7 rfl), rfl, rfl, rfl⟩
theorem cef_S31_43 (ca : Nat → ClassId) (D : va_G) : zFld (zCe ca D) ce_RS 31 43 6 2 false (.array .int) := ⟨ce_RS, ce_TS, 9, 6, ce_tyS, rfl, zlt rfl, rfl, ce_zclS, by decide, (ce_w2 8 rfl), rfl, rfl, rfl⟩
theorem cef_S34_43 (ca : Nat → ClassId) (D : va_G) : zFld (zCe ca D) ce_RS 34 43 7 2 false (.array .int) := ⟨ce_RS, ce_TS, 9, 6, ce_tyS, rfl, zlt rfl, rfl, ce_zclS, by decide, (ce_w2 9 rfl), rfl, rfl, rfl⟩
theorem cef_H22_36 (ca : Nat → ClassId) (D : va_G) : zFld (zCe ca D) ce_RH 22 36 2 2 true (.array .int) := ⟨ce_RH, ce_TH, 14, 5, ce_tyH, rfl, zlt rfl, rfl, ce_zclH, by decide, (ce_w2 10 rfl), rfl, rfl, rfl⟩
theorem cef_H18_36 (ca : Nat → ClassId) (D : va_G) : zFld (zCe ca D) ce_RH 18 36 1 2 true (.array .int) := ⟨ce_RH, ce_TH, 14, 5, ce_tyH, rfl, zlt rfl, rfl, ce_zclH, by decide, (ce_w2 11 rfl), rfl, rfl, rfl⟩
theorem cef_H25_36 (ca : Nat → ClassId) (D : va_G) : zFld (zCe ca D) ce_RH 25 36 3 2 true (.array .int) := ⟨ce_RH, ce_TH, 14, 5, ce_tyH, rfl, zlt rfl, rfl, ce_zclH, by decide, (ce_w2 12 rfl), rfl, rfl, rfl⟩
theorem cef_H28_36 (ca : Nat → ClassId) (D : va_G) : zFld (zCe ca D) ce_RH 28 36 4 2 true (.array .int) := ⟨ce_RH, ce_TH, 14, 5, ce_tyH, rfl, zlt rfl, rfl, ce_zclH, by decide, (ce_w2 13 rfl), rfl, rfl, rfl⟩
theorem cef_H31_36 (ca : Nat → ClassId) (D : va_G) : zFld (zCe ca D) ce_RH 31 36 5 2 true (.array .int) := ⟨ce_RH, ce_TH, 14, 5, ce_tyH, rfl, zlt rfl, rfl, ce_zclH, by decide, (ce_w2 14 rfl), rfl, rfl, rfl⟩
theorem cef_H34_36 (ca : Nat → ClassId) (D : va_G) : zFld (zCe ca D) ce_RH 34 36 6 2 true (.array .long) := ⟨ce_RH, ce_TH, 14, 5, ce_tyH, rfl, zlt rfl, rfl, ce_zclH, by decide, (ce_w2 15 rfl), rfl, rfl, rfl⟩
theorem cef_H38_36 (ca : Nat → ClassId) (D : va_G) : zFld (zCe ca D) ce_RH 38 36 9 2 false (.array .long) := ⟨ce_RH, ce_TH, 14, 5, ce_tyH, rfl, zlt rfl, rfl, ce_zclH, by decide, (ce_w2 16 rfl), rfl, rfl, rfl⟩
theorem cef_H41_36 (ca : Nat → ClassId) (D : va_G) : zFld (zCe ca D) ce_RH 41 36 10 2 false (.array .int) := ⟨ce_RH, ce_TH, 14, 5, ce_tyH, rfl, zlt rfl, rfl, ce_zclH, by decide, (ce_w2 17 rfl), rfl, rfl, rfl⟩
theorem cef_V15_V (ca : Nat → ClassId) (D : va_G) {v : Nat} (h : zvl v = true) : zFld (zCe ca D) ce_RV 15 v 0 0 true (.int) := ⟨ce_RV, ce_TV, 3, 10, ce_tyV, by rcases zvl_or h with rfl | rfl | rfl | rfl | rfl <;> rfl, by show v < 90; rcases zvl_or h with rfl | rfl | rfl | rfl | rfl <;> decide, rfl, ce_zclV, by decide, (ce_w2 18 rfl), by rcases zvl_or h with rfl | rfl | rfl | rfl | rfl <;> rfl, rfl, rfl⟩
theorem cef_V21_V (ca : Nat → ClassId) (D : va_G) {v : Nat} (h : zvl v = true) : zFld (zCe ca D) ce_RV 21 v 1 2 false (.array .byte) := ⟨ce_RV, ce_TV, 3, 10, ce_tyV, by rcases zvl_or h with rfl | rfl | rfl | rfl | rfl <;> rfl, by show v < 90; rcases zvl_or h with rfl | rfl | rfl | rfl | rfl <;> decide, rfl, ce_zclV, by decide, (ce_w2 19 rfl), by rcases zvl_or h with rfl | rfl | rfl | rfl | rfl <;> rfl, rfl, rfl⟩
theorem cef_V25_V (ca : Nat → ClassId) (D : va_G) {v : Nat} (h : zvl v = true) : zFld (zCe ca D) ce_RV 25 v 2 2 false (.array .long) := ⟨ce_RV, ce_TV, 3, 10, ce_tyV, by rcases zvl_or h with rfl | rfl | rfl | rfl | rfl <;> rfl, by show v < 90; rcases zvl_or h with rfl | rfl | rfl | rfl | rfl <;> decide, rfl, ce_zclV, by decide, (ce_w2 20 rfl), by rcases zvl_or h with rfl | rfl | rfl | rfl | rfl <;> rfl, rfl, rfl⟩
theorem cef_H49_36 (ca : Nat → ClassId) (D : va_G) : zFld (zCe ca D) ce_RH 49 36 11 2 true (.object "ShapeEngine$Values") := ⟨ce_RH, ce_TH, 14, 5, ce_tyH, rfl, zlt rfl, rfl, ce_zclH, by decide, (ce_w2 21 rfl), rfl, rfl, rfl⟩
theorem cef_R30_45 (ca : Nat → ClassId) (D : va_G) : zFld (zCe ca D) ce_RR 30 45 4 0 false (.int) := ⟨ce_RR, ce_TR, 7, 7, ce_tyR, rfl, zlt rfl, rfl, ce_zclR, by decide, (ce_w2 22 rfl), rfl, rfl, rfl⟩
theorem cef_R34_45 (ca : Nat → ClassId) (D : va_G) : zFld (zCe ca D) ce_RR 34 45 5 0 false (.int) := ⟨ce_RR, ce_TR, 7, 7, ce_tyR, rfl, zlt rfl, rfl, ce_zclR, by decide, (ce_w2 23 rfl), rfl, rfl, rfl⟩
theorem cef_R37_45 (ca : Nat → ClassId) (D : va_G) : zFld (zCe ca D) ce_RR 37 45 6 0 false (.int) := ⟨ce_RR, ce_TR, 7, 7, ce_tyR, rfl, zlt rfl, rfl, ce_zclR, by decide, (ce_w2 24 rfl), rfl, rfl, rfl⟩
theorem cef_T9_49 (ca : Nat → ClassId) (D : va_G) : zFld (zCe ca D) ce_RT 9 49 0 2 true (.array .int) := ⟨ce_RT, ce_TT, 12, 8, ce_tyT, rfl, zlt rfl, rfl, ce_zclT, by decide, (ce_w2 25 rfl), rfl, rfl, rfl⟩
theorem cef_T15_49 (ca : Nat → ClassId) (D : va_G) : zFld (zCe ca D) ce_RT 15 49 1 2 true (.array .int) := ⟨ce_RT, ce_TT, 12, 8, ce_tyT, rfl, zlt rfl, rfl, ce_zclT, by decide, (ce_w2 26 rfl), rfl, rfl, rfl⟩
theorem cef_T18_49 (ca : Nat → ClassId) (D : va_G) : zFld (zCe ca D) ce_RT 18 49 2 2 true (.array .int) := ⟨ce_RT, ce_TT, 12, 8, ce_tyT, rfl, zlt rfl, rfl, ce_zclT, by decide, (ce_w2 27 rfl), rfl, rfl, rfl⟩
theorem cef_T21_49 (ca : Nat → ClassId) (D : va_G) : zFld (zCe ca D) ce_RT 21 49 3 2 true (.array .int) := ⟨ce_RT, ce_TT, 12, 8, ce_tyT, rfl, zlt rfl, rfl, ce_zclT, by decide, (ce_w2 28 rfl), rfl, rfl, rfl⟩
theorem cef_T24_49 (ca : Nat → ClassId) (D : va_G) : zFld (zCe ca D) ce_RT 24 49 4 2 true (.array .int) := ⟨ce_RT, ce_TT, 12, 8, ce_tyT, rfl, zlt rfl, rfl, ce_zclT, by decide, (ce_w2 29 rfl), rfl, rfl, rfl⟩
theorem cef_T36_49 (ca : Nat → ClassId) (D : va_G) : zFld (zCe ca D) ce_RT 36 49 8 2 true (.array .int) := ⟨ce_RT, ce_TT, 12, 8, ce_tyT, rfl, zlt rfl, rfl, ce_zclT, by decide, (ce_w2 30 rfl), rfl, rfl, rfl⟩
theorem cef_T45_49 (ca : Nat → ClassId) (D : va_G) : zFld (zCe ca D) ce_RT 45 49 9 0 false (.int) := ⟨ce_RT, ce_TT, 12, 8, ce_tyT, rfl, zlt rfl, rfl, ce_zclT, by decide, (ce_w2 31 rfl), rfl, rfl, rfl⟩
theorem cef_T49_49 (ca : Nat → ClassId) (D : va_G) : zFld (zCe ca D) ce_RT 49 49 10 0 false (.int) := ⟨ce_RT, ce_TT, 12, 8, ce_tyT, rfl, zlt rfl, rfl, ce_zclT, by decide, (ce_w2 32 rfl), rfl, rfl, rfl⟩
theorem cef_T52_49 (ca : Nat → ClassId) (D : va_G) : zFld (zCe ca D) ce_RT 52 49 11 0 false (.int) := ⟨ce_RT, ce_TT, 12, 8, ce_tyT, rfl, zlt rfl, rfl, ce_zclT, by decide, (ce_w2 33 rfl), rfl, rfl, rfl⟩
theorem cef_M58_34 (ca : Nat → ClassId) (D : va_G) : zFld (zCe ca D) ce_RM 58 34 6 3 false (.object "ShapeEngine$Program") := ⟨ce_RM, ce_TM, 20, 4, ce_tyM, rfl, zlt rfl, rfl, ce_zclM, by decide, (ce_w2 34 rfl), rfl, rfl, rfl⟩
theorem cef_M12_34 (ca : Nat → ClassId) (D : va_G) : zFld (zCe ca D) ce_RM 12 34 0 2 true (.object "ShapeEngine$Heap") := ⟨ce_RM, ce_TM, 20, 4, ce_tyM, rfl, zlt rfl, rfl, ce_zclM, by decide, (ce_w2 35 rfl), rfl, rfl, rfl⟩
theorem cef_M21_34 (ca : Nat → ClassId) (D : va_G) : zFld (zCe ca D) ce_RM 21 34 1 2 true (.object "ShapeEngine$Rows") := ⟨ce_RM, ce_TM, 20, 4, ce_tyM, rfl, zlt rfl, rfl, ce_zclM, by decide, (ce_w2 36 rfl), rfl, rfl, rfl⟩
theorem cef_M28_34 (ca : Nat → ClassId) (D : va_G) : zFld (zCe ca D) ce_RM 28 34 2 2 true (.object "ShapeEngine$Sites") := ⟨ce_RM, ce_TM, 20, 4, ce_tyM, rfl, zlt rfl, rfl, ce_zclM, by decide, (ce_w2 37 rfl), rfl, rfl, rfl⟩
theorem cef_M35_34 (ca : Nat → ClassId) (D : va_G) : zFld (zCe ca D) ce_RM 35 34 3 2 true (.object "ShapeEngine$Functions") := ⟨ce_RM, ce_TM, 20, 4, ce_tyM, rfl, zlt rfl, rfl, ce_zclM, by decide, (ce_w2 38 rfl), rfl, rfl, rfl⟩
theorem cef_M68_34 (ca : Nat → ClassId) (D : va_G) : zFld (zCe ca D) ce_RM 68 34 5 0 false (.int) := ⟨ce_RM, ce_TM, 20, 4, ce_tyM, rfl, zlt rfl, rfl, ce_zclM, by decide, (ce_w2 39 rfl), rfl, rfl, rfl⟩
theorem cef_M72_34 (ca : Nat → ClassId) (D : va_G) : zFld (zCe ca D) ce_RM 72 34 8 0 false (.int) := ⟨ce_RM, ce_TM, 20, 4, ce_tyM, rfl, zlt rfl, rfl, ce_zclM, by decide, (ce_w3 0 rfl), rfl, rfl, rfl⟩
theorem cef_M75_34 (ca : Nat → ClassId) (D : va_G) : zFld (zCe ca D) ce_RM 75 34 11 0 false (.int) := ⟨ce_RM, ce_TM, 20, 4, ce_tyM, rfl, zlt rfl, rfl, ce_zclM, by decide, (ce_w3 1 rfl), rfl, rfl, rfl⟩
theorem cef_M78_34 (ca : Nat → ClassId) (D : va_G) : zFld (zCe ca D) ce_RM 78 34 12 0 false (.int) := ⟨ce_RM, ce_TM, 20, 4, ce_tyM, rfl, zlt rfl, rfl, ce_zclM, by decide, (ce_w3 2 rfl), rfl, rfl, rfl⟩
theorem cef_M81_34 (ca : Nat → ClassId) (D : va_G) : zFld (zCe ca D) ce_RM 81 34 15 0 false (.int) := ⟨ce_RM, ce_TM, 20, 4, ce_tyM, rfl, zlt rfl, rfl, ce_zclM, by decide, (ce_w3 3 rfl), rfl, rfl, rfl⟩
theorem cef_M84_34 (ca : Nat → ClassId) (D : va_G) : zFld (zCe ca D) ce_RM 84 34 16 0 false (.int) := ⟨ce_RM, ce_TM, 20, 4, ce_tyM, rfl, zlt rfl, rfl, ce_zclM, by decide, (ce_w3 4 rfl), rfl, rfl, rfl⟩
theorem cef_M87_34 (ca : Nat → ClassId) (D : va_G) : zFld (zCe ca D) ce_RM 87 34 18 0 false (.int) := ⟨ce_RM, ce_TM, 20, 4, ce_tyM, rfl, zlt rfl, rfl, ce_zclM, by decide, (ce_w3 5 rfl), rfl, rfl, rfl⟩
theorem cef_M90_34 (ca : Nat → ClassId) (D : va_G) : zFld (zCe ca D) ce_RM 90 34 19 0 false (.int) := ⟨ce_RM, ce_TM, 20, 4, ce_tyM, rfl, zlt rfl, rfl, ce_zclM, by decide, (ce_w3 6 rfl), rfl, rfl, rfl⟩
theorem cef_M51_34 (ca : Nat → ClassId) (D : va_G) : zFld (zCe ca D) ce_RM 51 34 9 2 true (.object "ShapeEngine$Values") := ⟨ce_RM, ce_TM, 20, 4, ce_tyM, rfl, zlt rfl, rfl, ce_zclM, by decide, (ce_w3 7 rfl), rfl, rfl, rfl⟩
theorem cef_M93_34 (ca : Nat → ClassId) (D : va_G) : zFld (zCe ca D) ce_RM 93 34 14 0 false (.int) := ⟨ce_RM, ce_TM, 20, 4, ce_tyM, rfl, zlt rfl, rfl, ce_zclM, by decide, (ce_w3 8 rfl), rfl, rfl, rfl⟩
theorem cef_M104_34 (ca : Nat → ClassId) (D : va_G) : zFld (zCe ca D) ce_RM 104 34 17 0 false (.int) := ⟨ce_RM, ce_TM, 20, 4, ce_tyM, rfl, zlt rfl, rfl, ce_zclM, by decide, (ce_w3 9 rfl), rfl, rfl, rfl⟩
theorem cef_M48_34 (ca : Nat → ClassId) (D : va_G) : zFld (zCe ca D) ce_RM 48 34 7 2 true (.object "ShapeEngine$Values") := ⟨ce_RM, ce_TM, 20, 4, ce_tyM, rfl, zlt rfl, rfl, ce_zclM, by decide, (ce_w3 10 rfl), rfl, rfl, rfl⟩
theorem cef_T87_P (ca : Nat → ClassId) (D : va_G) {p : Nat} (h : zpr p = true) : zFld (zCe ca D) ce_RT 87 p 8 0 false (.int) := ⟨ce_RP, ce_TP, 16, 3, ce_tyP, by rcases zpr_or h with rfl | rfl <;> rfl, by show p < 90; rcases zpr_or h with rfl | rfl <;> decide, rfl, ce_zclP, by decide, (ce_w3 11 rfl), by rcases zpr_or h with rfl | rfl <;> rfl, rfl, rfl⟩
theorem cef_T92_P (ca : Nat → ClassId) (D : va_G) {p : Nat} (h : zpr p = true) : zFld (zCe ca D) ce_RT 92 p 6 2 true (.array .int) := ⟨ce_RP, ce_TP, 16, 3, ce_tyP, by rcases zpr_or h with rfl | rfl <;> rfl, by show p < 90; rcases zpr_or h with rfl | rfl <;> decide, rfl, ce_zclP, by decide, (ce_w3 12 rfl), by rcases zpr_or h with rfl | rfl <;> rfl, rfl, rfl⟩
theorem cef_M298_P (ca : Nat → ClassId) (D : va_G) {p : Nat} (h : zpr p = true) : zFld (zCe ca D) ce_RM 298 p 6 2 true (.array .int) := ⟨ce_RP, ce_TP, 16, 3, ce_tyP, by rcases zpr_or h with rfl | rfl <;> rfl, by show p < 90; rcases zpr_or h with rfl | rfl <;> decide, rfl, ce_zclP, by decide, (ce_w3 13 rfl), by rcases zpr_or h with rfl | rfl <;> rfl, rfl, rfl⟩
theorem cef_T27_49 (ca : Nat → ClassId) (D : va_G) : zFld (zCe ca D) ce_RT 27 49 5 2 true (.array .int) := ⟨ce_RT, ce_TT, 12, 8, ce_tyT, rfl, zlt rfl, rfl, ce_zclT, by decide, (ce_w3 14 rfl), rfl, rfl, rfl⟩
theorem cef_T30_49 (ca : Nat → ClassId) (D : va_G) : zFld (zCe ca D) ce_RT 30 49 6 2 true (.array .int) := ⟨ce_RT, ce_TT, 12, 8, ce_tyT, rfl, zlt rfl, rfl, ce_zclT, by decide, (ce_w3 15 rfl), rfl, rfl, rfl⟩
theorem cef_T33_49 (ca : Nat → ClassId) (D : va_G) : zFld (zCe ca D) ce_RT 33 49 7 2 true (.array .int) := ⟨ce_RT, ce_TT, 12, 8, ce_tyT, rfl, zlt rfl, rfl, ce_zclT, by decide, (ce_w3 16 rfl), rfl, rfl, rfl⟩
theorem cef_M250_P (ca : Nat → ClassId) (D : va_G) {p : Nat} (h : zpr p = true) : zFld (zCe ca D) ce_RM 250 p 7 2 true (.array .long) := ⟨ce_RP, ce_TP, 16, 3, ce_tyP, by rcases zpr_or h with rfl | rfl <;> rfl, by show p < 90; rcases zpr_or h with rfl | rfl <;> decide, rfl, ce_zclP, by decide, (ce_w3 17 rfl), by rcases zpr_or h with rfl | rfl <;> rfl, rfl, rfl⟩
theorem cef_M258_36 (ca : Nat → ClassId) (D : va_G) : zFld (zCe ca D) ce_RM 258 36 1 2 true (.array .int) := ⟨ce_RH, ce_TH, 14, 5, ce_tyH, rfl, zlt rfl, rfl, ce_zclH, by decide, (ce_w3 18 rfl), rfl, rfl, rfl⟩
theorem cef_M276_36 (ca : Nat → ClassId) (D : va_G) : zFld (zCe ca D) ce_RM 276 36 11 2 true (.object "ShapeEngine$Values") := ⟨ce_RH, ce_TH, 14, 5, ce_tyH, rfl, zlt rfl, rfl, ce_zclH, by decide, (ce_w3 19 rfl), rfl, rfl, rfl⟩
theorem cef_T63_36 (ca : Nat → ClassId) (D : va_G) : zFld (zCe ca D) ce_RT 63 36 0 2 true (.object "ShapeEngine$Shapes") := ⟨ce_RH, ce_TH, 14, 5, ce_tyH, rfl, zlt rfl, rfl, ce_zclH, by decide, (ce_w3 20 rfl), rfl, rfl, rfl⟩
theorem cef_M282_P (ca : Nat → ClassId) (D : va_G) {p : Nat} (h : zpr p = true) : zFld (zCe ca D) ce_RM 282 p 8 0 false (.int) := ⟨ce_RP, ce_TP, 16, 3, ce_tyP, by rcases zpr_or h with rfl | rfl <;> rfl, by show p < 90; rcases zpr_or h with rfl | rfl <;> decide, rfl, ce_zclP, by decide, (ce_w3 21 rfl), by rcases zpr_or h with rfl | rfl <;> rfl, rfl, rfl⟩
theorem cef_R9_45 (ca : Nat → ClassId) (D : va_G) : zFld (zCe ca D) ce_RR 9 45 0 2 true (.array .int) := ⟨ce_RR, ce_TR, 7, 7, ce_tyR, rfl, zlt rfl, rfl, ce_zclR, by decide, (ce_w3 22 rfl), rfl, rfl, rfl⟩
theorem cef_R15_45 (ca : Nat → ClassId) (D : va_G) : zFld (zCe ca D) ce_RR 15 45 1 2 true (.array .int) := ⟨ce_RR, ce_TR, 7, 7, ce_tyR, rfl, zlt rfl, rfl, ce_zclR, by decide, (ce_w3 23 rfl), rfl, rfl, rfl⟩
theorem cef_R18_45 (ca : Nat → ClassId) (D : va_G) : zFld (zCe ca D) ce_RR 18 45 2 2 true (.array .int) := ⟨ce_RR, ce_TR, 7, 7, ce_tyR, rfl, zlt rfl, rfl, ce_zclR, by decide, (ce_w3 24 rfl), rfl, rfl, rfl⟩
theorem cef_R26_45 (ca : Nat → ClassId) (D : va_G) : zFld (zCe ca D) ce_RR 26 45 3 2 true (.object "ShapeEngine$Values") := ⟨ce_RR, ce_TR, 7, 7, ce_tyR, rfl, zlt rfl, rfl, ce_zclR, by decide, (ce_w3 25 rfl), rfl, rfl, rfl⟩
theorem cef_M318_45 (ca : Nat → ClassId) (D : va_G) : zFld (zCe ca D) ce_RM 318 45 3 2 true (.object "ShapeEngine$Values") := ⟨ce_RR, ce_TR, 7, 7, ce_tyR, rfl, zlt rfl, rfl, ce_zclR, by decide, (ce_w3 26 rfl), rfl, rfl, rfl⟩
theorem cef_M334_36 (ca : Nat → ClassId) (D : va_G) : zFld (zCe ca D) ce_RM 334 36 3 2 true (.array .int) := ⟨ce_RH, ce_TH, 14, 5, ce_tyH, rfl, zlt rfl, rfl, ce_zclH, by decide, (ce_w3 27 rfl), rfl, rfl, rfl⟩
theorem cef_M331_45 (ca : Nat → ClassId) (D : va_G) : zFld (zCe ca D) ce_RM 331 45 1 2 true (.array .int) := ⟨ce_RR, ce_TR, 7, 7, ce_tyR, rfl, zlt rfl, rfl, ce_zclR, by decide, (ce_w3 28 rfl), rfl, rfl, rfl⟩
theorem cef_T95_P (ca : Nat → ClassId) (D : va_G) {p : Nat} (h : zpr p = true) : zFld (zCe ca D) ce_RT 95 p 4 2 true (.array .int) := ⟨ce_RP, ce_TP, 16, 3, ce_tyP, by rcases zpr_or h with rfl | rfl <;> rfl, by show p < 90; rcases zpr_or h with rfl | rfl <;> decide, rfl, ce_zclP, by decide, (ce_w3 29 rfl), by rcases zpr_or h with rfl | rfl <;> rfl, rfl, rfl⟩
theorem cef_M54_34 (ca : Nat → ClassId) (D : va_G) : zFld (zCe ca D) ce_RM 54 34 10 2 true (.array .int) := ⟨ce_RM, ce_TM, 20, 4, ce_tyM, rfl, zlt rfl, rfl, ce_zclM, by decide, (ce_w3 30 rfl), rfl, rfl, rfl⟩
theorem cef_M101_34 (ca : Nat → ClassId) (D : va_G) : zFld (zCe ca D) ce_RM 101 34 13 0 false (.int) := ⟨ce_RM, ce_TM, 20, 4, ce_tyM, rfl, zlt rfl, rfl, ce_zclM, by decide, (ce_w3 31 rfl), rfl, rfl, rfl⟩
theorem cef_M341_P (ca : Nat → ClassId) (D : va_G) {p : Nat} (h : zpr p = true) : zFld (zCe ca D) ce_RM 341 p 11 2 true (.array .int) := ⟨ce_RP, ce_TP, 16, 3, ce_tyP, by rcases zpr_or h with rfl | rfl <;> rfl, by show p < 90; rcases zpr_or h with rfl | rfl <;> decide, rfl, ce_zclP, by decide, (ce_w3 32 rfl), by rcases zpr_or h with rfl | rfl <;> rfl, rfl, rfl⟩
theorem cef_M344_P (ca : Nat → ClassId) (D : va_G) {p : Nat} (h : zpr p = true) : zFld (zCe ca D) ce_RM 344 p 10 2 true (.array .int) := ⟨ce_RP, ce_TP, 16, 3, ce_tyP, by rcases zpr_or h with rfl | rfl <;> rfl, by show p < 90; rcases zpr_or h with rfl | rfl <;> decide, rfl, ce_zclP, by decide, (ce_w3 33 rfl), by rcases zpr_or h with rfl | rfl <;> rfl, rfl, rfl⟩
theorem cef_M44_34 (ca : Nat → ClassId) (D : va_G) : zFld (zCe ca D) ce_RM 44 34 4 2 true (.object "ShapeEngine$Values") := ⟨ce_RM, ce_TM, 20, 4, ce_tyM, rfl, zlt rfl, rfl, ce_zclM, by decide, (ce_w3 34 rfl), rfl, rfl, rfl⟩
theorem cef_M115_P (ca : Nat → ClassId) (D : va_G) {p : Nat} (h : zpr p = true) : zFld (zCe ca D) ce_RM 115 p 3 0 false (.int) := ⟨ce_RP, ce_TP, 16, 3, ce_tyP, by rcases zpr_or h with rfl | rfl <;> rfl, by show p < 90; rcases zpr_or h with rfl | rfl <;> decide, rfl, ce_zclP, by decide, (ce_w3 35 rfl), by rcases zpr_or h with rfl | rfl <;> rfl, rfl, rfl⟩
theorem cef_M118_P (ca : Nat → ClassId) (D : va_G) {p : Nat} (h : zpr p = true) : zFld (zCe ca D) ce_RM 118 p 0 2 true (.array .byte) := ⟨ce_RP, ce_TP, 16, 3, ce_tyP, by rcases zpr_or h with rfl | rfl <;> rfl, by show p < 90; rcases zpr_or h with rfl | rfl <;> decide, rfl, ce_zclP, by decide, (ce_w3 36 rfl), by rcases zpr_or h with rfl | rfl <;> rfl, rfl, rfl⟩
theorem cef_M122_P (ca : Nat → ClassId) (D : va_G) {p : Nat} (h : zpr p = true) : zFld (zCe ca D) ce_RM 122 p 1 2 true (.array .int) := ⟨ce_RP, ce_TP, 16, 3, ce_tyP, by rcases zpr_or h with rfl | rfl <;> rfl, by show p < 90; rcases zpr_or h with rfl | rfl <;> decide, rfl, ce_zclP, by decide, (ce_w3 37 rfl), by rcases zpr_or h with rfl | rfl <;> rfl, rfl, rfl⟩
theorem cef_M125_P (ca : Nat → ClassId) (D : va_G) {p : Nat} (h : zpr p = true) : zFld (zCe ca D) ce_RM 125 p 2 2 true (.array .short) := ⟨ce_RP, ce_TP, 16, 3, ce_tyP, by rcases zpr_or h with rfl | rfl <;> rfl, by show p < 90; rcases zpr_or h with rfl | rfl <;> decide, rfl, ce_zclP, by decide, (ce_w3 38 rfl), by rcases zpr_or h with rfl | rfl <;> rfl, rfl, rfl⟩
theorem cef_M96_P (ca : Nat → ClassId) (D : va_G) {p : Nat} (h : zpr p = true) : zFld (zCe ca D) ce_RM 96 p 13 0 false (.int) := ⟨ce_RP, ce_TP, 16, 3, ce_tyP, by rcases zpr_or h with rfl | rfl <;> rfl, by show p < 90; rcases zpr_or h with rfl | rfl <;> decide, rfl, ce_zclP, by decide, (ce_w3 39 rfl), by rcases zpr_or h with rfl | rfl <;> rfl, rfl, rfl⟩
theorem cef_M350_36 (ca : Nat → ClassId) (D : va_G) : zFld (zCe ca D) ce_RM 350 36 7 0 false (.int) := ⟨ce_RH, ce_TH, 14, 5, ce_tyH, rfl, zlt rfl, rfl, ce_zclH, by decide, (ce_w4 0 rfl), rfl, rfl, rfl⟩
theorem cef_M353_36 (ca : Nat → ClassId) (D : va_G) : zFld (zCe ca D) ce_RM 353 36 0 2 true (.object "ShapeEngine$Shapes") := ⟨ce_RH, ce_TH, 14, 5, ce_tyH, rfl, zlt rfl, rfl, ce_zclH, by decide, (ce_w4 1 rfl), rfl, rfl, rfl⟩
theorem cef_M357_43 (ca : Nat → ClassId) (D : va_G) : zFld (zCe ca D) ce_RM 357 43 8 0 false (.int) := ⟨ce_RS, ce_TS, 9, 6, ce_tyS, rfl, zlt rfl, rfl, ce_zclS, by decide, (ce_w4 2 rfl), rfl, rfl, rfl⟩
theorem cef_M360_45 (ca : Nat → ClassId) (D : va_G) : zFld (zCe ca D) ce_RM 360 45 5 0 false (.int) := ⟨ce_RR, ce_TR, 7, 7, ce_tyR, rfl, zlt rfl, rfl, ce_zclR, by decide, (ce_w4 3 rfl), rfl, rfl, rfl⟩
theorem cef_M361_36 (ca : Nat → ClassId) (D : va_G) : zFld (zCe ca D) ce_RM 361 36 8 0 false (.int) := ⟨ce_RH, ce_TH, 14, 5, ce_tyH, rfl, zlt rfl, rfl, ce_zclH, by decide, (ce_w4 4 rfl), rfl, rfl, rfl⟩
theorem cef_M364_49 (ca : Nat → ClassId) (D : va_G) : zFld (zCe ca D) ce_RM 364 49 9 0 false (.int) := ⟨ce_RT, ce_TT, 12, 8, ce_tyT, rfl, zlt rfl, rfl, ce_zclT, by decide, (ce_w4 5 rfl), rfl, rfl, rfl⟩
theorem cef_M367_49 (ca : Nat → ClassId) (D : va_G) : zFld (zCe ca D) ce_RM 367 49 10 0 false (.int) := ⟨ce_RT, ce_TT, 12, 8, ce_tyT, rfl, zlt rfl, rfl, ce_zclT, by decide, (ce_w4 6 rfl), rfl, rfl, rfl⟩
theorem cef_M370_49 (ca : Nat → ClassId) (D : va_G) : zFld (zCe ca D) ce_RM 370 49 11 0 false (.int) := ⟨ce_RT, ce_TT, 12, 8, ce_tyT, rfl, zlt rfl, rfl, ce_zclT, by decide, (ce_w4 7 rfl), rfl, rfl, rfl⟩
theorem cef_M373_59 (ca : Nat → ClassId) (D : va_G) : zFld (zCe ca D) ce_RM 373 59 6 0 false (.int) := ⟨ce_RF, ce_TF, 8, 9, ce_tyF, rfl, zlt rfl, rfl, ce_zclF, by decide, (ce_w4 8 rfl), rfl, rfl, rfl⟩
theorem cef_M376_59 (ca : Nat → ClassId) (D : va_G) : zFld (zCe ca D) ce_RM 376 59 7 0 false (.int) := ⟨ce_RF, ce_TF, 8, 9, ce_tyF, rfl, zlt rfl, rfl, ce_zclF, by decide, (ce_w4 9 rfl), rfl, rfl, rfl⟩
theorem cef_M379_45 (ca : Nat → ClassId) (D : va_G) : zFld (zCe ca D) ce_RM 379 45 6 0 false (.int) := ⟨ce_RR, ce_TR, 7, 7, ce_tyR, rfl, zlt rfl, rfl, ce_zclR, by decide, (ce_w4 10 rfl), rfl, rfl, rfl⟩
theorem cef_E41_0 (ca : Nat → ClassId) (D : va_G) : zFld (zCe ca D) ce_RE 41 0 1 0 false (.int) := ⟨ce_RE, ce_TE, 7, 0, ce_tyE, rfl, zlt rfl, rfl, ce_zclE, by decide, (ce_w4 11 rfl), rfl, rfl, rfl⟩
theorem cef_E9_0 (ca : Nat → ClassId) (D : va_G) : zFld (zCe ca D) ce_RE 9 0 0 2 true (.array .byte) := ⟨ce_RE, ce_TE, 7, 0, ce_tyE, rfl, zlt rfl, rfl, ce_zclE, by decide, (ce_w4 12 rfl), rfl, rfl, rfl⟩
theorem cef_E16_0 (ca : Nat → ClassId) (D : va_G) : zFld (zCe ca D) ce_RE 16 0 2 2 true (.object "ShapeEngine$Compiler") := ⟨ce_RE, ce_TE, 7, 0, ce_tyE, rfl, zlt rfl, rfl, ce_zclE, by decide, (ce_w4 13 rfl), rfl, rfl, rfl⟩
theorem cef_E34_0 (ca : Nat → ClassId) (D : va_G) : zFld (zCe ca D) ce_RE 34 0 5 3 false (.object "ShapeEngine$Program") := ⟨ce_RE, ce_TE, 7, 0, ce_tyE, rfl, zlt rfl, rfl, ce_zclE, by decide, (ce_w4 14 rfl), rfl, rfl, rfl⟩
theorem cef_E49_2 (ca : Nat → ClassId) (D : va_G) : zFld (zCe ca D) ce_RE 49 2 3 0 false (.int) := ⟨ce_RC, ce_TC, 13, 1, ce_tyC, rfl, zlt rfl, rfl, ce_zclC, by decide, (ce_w4 15 rfl), rfl, rfl, rfl⟩
theorem cef_E30_0 (ca : Nat → ClassId) (D : va_G) : zFld (zCe ca D) ce_RE 30 0 4 3 false (.object "ShapeEngine$Program") := ⟨ce_RE, ce_TE, 7, 0, ce_tyE, rfl, zlt rfl, rfl, ce_zclE, by decide, (ce_w4 16 rfl), rfl, rfl, rfl⟩
theorem cef_E52_0 (ca : Nat → ClassId) (D : va_G) : zFld (zCe ca D) ce_RE 52 0 6 0 false (.boolean) := ⟨ce_RE, ce_TE, 7, 0, ce_tyE, rfl, zlt rfl, rfl, ce_zclE, by decide, (ce_w4 17 rfl), rfl, rfl, rfl⟩
theorem cef_E23_0 (ca : Nat → ClassId) (D : va_G) : zFld (zCe ca D) ce_RE 23 0 3 2 true (.object "ShapeEngine$Machine") := ⟨ce_RE, ce_TE, 7, 0, ce_tyE, rfl, zlt rfl, rfl, ce_zclE, by decide, (ce_w4 18 rfl), rfl, rfl, rfl⟩
theorem cef_E56_P (ca : Nat → ClassId) (D : va_G) {p : Nat} (h : zpr p = true) : zFld (zCe ca D) ce_RE 56 p 8 0 false (.int) := ⟨ce_RP, ce_TP, 16, 3, ce_tyP, by rcases zpr_or h with rfl | rfl <;> rfl, by show p < 90; rcases zpr_or h with rfl | rfl <;> decide, rfl, ce_zclP, by decide, (ce_w4 19 rfl), by rcases zpr_or h with rfl | rfl <;> rfl, rfl, rfl⟩
theorem cef_E59_2 (ca : Nat → ClassId) (D : va_G) : zFld (zCe ca D) ce_RE 59 2 4 0 false (.int) := ⟨ce_RC, ce_TC, 13, 1, ce_tyC, rfl, zlt rfl, rfl, ce_zclC, by decide, (ce_w4 20 rfl), rfl, rfl, rfl⟩
theorem cef_E76_34 (ca : Nat → ClassId) (D : va_G) : zFld (zCe ca D) ce_RE 76 34 4 2 true (.object "ShapeEngine$Values") := ⟨ce_RM, ce_TM, 20, 4, ce_tyM, rfl, zlt rfl, rfl, ce_zclM, by decide, (ce_w4 21 rfl), rfl, rfl, rfl⟩
theorem cef_E92_34 (ca : Nat → ClassId) (D : va_G) : zFld (zCe ca D) ce_RE 92 34 0 2 true (.object "ShapeEngine$Heap") := ⟨ce_RM, ce_TM, 20, 4, ce_tyM, rfl, zlt rfl, rfl, ce_zclM, by decide, (ce_w4 22 rfl), rfl, rfl, rfl⟩
theorem cef_E102_36 (ca : Nat → ClassId) (D : va_G) : zFld (zCe ca D) ce_RE 102 36 1 2 true (.array .int) := ⟨ce_RH, ce_TH, 14, 5, ce_tyH, rfl, zlt rfl, rfl, ce_zclH, by decide, (ce_w4 23 rfl), rfl, rfl, rfl⟩
theorem cef_E106_36 (ca : Nat → ClassId) (D : va_G) : zFld (zCe ca D) ce_RE 106 36 2 2 true (.array .int) := ⟨ce_RH, ce_TH, 14, 5, ce_tyH, rfl, zlt rfl, rfl, ce_zclH, by decide, (ce_w4 24 rfl), rfl, rfl, rfl⟩
theorem cef_E109_36 (ca : Nat → ClassId) (D : va_G) : zFld (zCe ca D) ce_RE 109 36 3 2 true (.array .int) := ⟨ce_RH, ce_TH, 14, 5, ce_tyH, rfl, zlt rfl, rfl, ce_zclH, by decide, (ce_w4 25 rfl), rfl, rfl, rfl⟩
theorem cef_E116_36 (ca : Nat → ClassId) (D : va_G) : zFld (zCe ca D) ce_RE 116 36 11 2 true (.object "ShapeEngine$Values") := ⟨ce_RH, ce_TH, 14, 5, ce_tyH, rfl, zlt rfl, rfl, ce_zclH, by decide, (ce_w4 26 rfl), rfl, rfl, rfl⟩
theorem cef_E119_36 (ca : Nat → ClassId) (D : va_G) : zFld (zCe ca D) ce_RE 119 36 9 2 false (.array .long) := ⟨ce_RH, ce_TH, 14, 5, ce_tyH, rfl, zlt rfl, rfl, ce_zclH, by decide, (ce_w4 27 rfl), rfl, rfl, rfl⟩
theorem cef_E123_34 (ca : Nat → ClassId) (D : va_G) : zFld (zCe ca D) ce_RE 123 34 1 2 true (.object "ShapeEngine$Rows") := ⟨ce_RM, ce_TM, 20, 4, ce_tyM, rfl, zlt rfl, rfl, ce_zclM, by decide, (ce_w4 28 rfl), rfl, rfl, rfl⟩
theorem cef_E132_45 (ca : Nat → ClassId) (D : va_G) : zFld (zCe ca D) ce_RE 132 45 0 2 true (.array .int) := ⟨ce_RR, ce_TR, 7, 7, ce_tyR, rfl, zlt rfl, rfl, ce_zclR, by decide, (ce_w4 29 rfl), rfl, rfl, rfl⟩
theorem cef_E135_45 (ca : Nat → ClassId) (D : va_G) : zFld (zCe ca D) ce_RE 135 45 1 2 true (.array .int) := ⟨ce_RR, ce_TR, 7, 7, ce_tyR, rfl, zlt rfl, rfl, ce_zclR, by decide, (ce_w4 30 rfl), rfl, rfl, rfl⟩
theorem cef_E140_45 (ca : Nat → ClassId) (D : va_G) : zFld (zCe ca D) ce_RE 140 45 3 2 true (.object "ShapeEngine$Values") := ⟨ce_RR, ce_TR, 7, 7, ce_tyR, rfl, zlt rfl, rfl, ce_zclR, by decide, (ce_w4 31 rfl), rfl, rfl, rfl⟩
theorem cef_E143_36 (ca : Nat → ClassId) (D : va_G) : zFld (zCe ca D) ce_RE 143 36 0 2 true (.object "ShapeEngine$Shapes") := ⟨ce_RH, ce_TH, 14, 5, ce_tyH, rfl, zlt rfl, rfl, ce_zclH, by decide, (ce_w4 32 rfl), rfl, rfl, rfl⟩
theorem cef_E152_43 (ca : Nat → ClassId) (D : va_G) : zFld (zCe ca D) ce_RE 152 43 1 2 false (.array .int) := ⟨ce_RS, ce_TS, 9, 6, ce_tyS, rfl, zlt rfl, rfl, ce_zclS, by decide, (ce_w4 33 rfl), rfl, rfl, rfl⟩
theorem cef_E153_43 (ca : Nat → ClassId) (D : va_G) : zFld (zCe ca D) ce_RE 153 43 2 2 false (.array .int) := ⟨ce_RS, ce_TS, 9, 6, ce_tyS, rfl, zlt rfl, rfl, ce_zclS, by decide, (ce_w4 34 rfl), rfl, rfl, rfl⟩
theorem cef_E156_43 (ca : Nat → ClassId) (D : va_G) : zFld (zCe ca D) ce_RE 156 43 3 2 false (.array .int) := ⟨ce_RS, ce_TS, 9, 6, ce_tyS, rfl, zlt rfl, rfl, ce_zclS, by decide, (ce_w4 35 rfl), rfl, rfl, rfl⟩
theorem cef_E159_43 (ca : Nat → ClassId) (D : va_G) : zFld (zCe ca D) ce_RE 159 43 4 2 false (.array .int) := ⟨ce_RS, ce_TS, 9, 6, ce_tyS, rfl, zlt rfl, rfl, ce_zclS, by decide, (ce_w4 36 rfl), rfl, rfl, rfl⟩
theorem cef_E165_34 (ca : Nat → ClassId) (D : va_G) : zFld (zCe ca D) ce_RE 165 34 2 2 true (.object "ShapeEngine$Sites") := ⟨ce_RM, ce_TM, 20, 4, ce_tyM, rfl, zlt rfl, rfl, ce_zclM, by decide, (ce_w4 37 rfl), rfl, rfl, rfl⟩
theorem cef_E168_P (ca : Nat → ClassId) (D : va_G) {p : Nat} (h : zpr p = true) : zFld (zCe ca D) ce_RE 168 p 4 2 true (.array .int) := ⟨ce_RP, ce_TP, 16, 3, ce_tyP, by rcases zpr_or h with rfl | rfl <;> rfl, by show p < 90; rcases zpr_or h with rfl | rfl <;> decide, rfl, ce_zclP, by decide, (ce_w4 38 rfl), by rcases zpr_or h with rfl | rfl <;> rfl, rfl, rfl⟩
theorem cef_E171_P (ca : Nat → ClassId) (D : va_G) {p : Nat} (h : zpr p = true) : zFld (zCe ca D) ce_RE 171 p 5 2 true (.array .int) := ⟨ce_RP, ce_TP, 16, 3, ce_tyP, by rcases zpr_or h with rfl | rfl <;> rfl, by show p < 90; rcases zpr_or h with rfl | rfl <;> decide, rfl, ce_zclP, by decide, (ce_w4 39 rfl), by rcases zpr_or h with rfl | rfl <;> rfl, rfl, rfl⟩
theorem cef_E174_49 (ca : Nat → ClassId) (D : va_G) : zFld (zCe ca D) ce_RE 174 49 0 2 true (.array .int) := ⟨ce_RT, ce_TT, 12, 8, ce_tyT, rfl, zlt rfl, rfl, ce_zclT, by decide, (ce_w5 0 rfl), rfl, rfl, rfl⟩
theorem cef_E179_49 (ca : Nat → ClassId) (D : va_G) : zFld (zCe ca D) ce_RE 179 49 1 2 true (.array .int) := ⟨ce_RT, ce_TT, 12, 8, ce_tyT, rfl, zlt rfl, rfl, ce_zclT, by decide, (ce_w5 1 rfl), rfl, rfl, rfl⟩
theorem cef_E182_49 (ca : Nat → ClassId) (D : va_G) : zFld (zCe ca D) ce_RE 182 49 4 2 true (.array .int) := ⟨ce_RT, ce_TT, 12, 8, ce_tyT, rfl, zlt rfl, rfl, ce_zclT, by decide, (ce_w5 2 rfl), rfl, rfl, rfl⟩
theorem cef_E185_49 (ca : Nat → ClassId) (D : va_G) : zFld (zCe ca D) ce_RE 185 49 2 2 true (.array .int) := ⟨ce_RT, ce_TT, 12, 8, ce_tyT, rfl, zlt rfl, rfl, ce_zclT, by decide, (ce_w5 3 rfl), rfl, rfl, rfl⟩
theorem cef_E186_49 (ca : Nat → ClassId) (D : va_G) : zFld (zCe ca D) ce_RE 186 49 3 2 true (.array .int) := ⟨ce_RT, ce_TT, 12, 8, ce_tyT, rfl, zlt rfl, rfl, ce_zclT, by decide, (ce_w5 4 rfl), rfl, rfl, rfl⟩
theorem cef_E189_P (ca : Nat → ClassId) (D : va_G) {p : Nat} (h : zpr p = true) : zFld (zCe ca D) ce_RE 189 p 6 2 true (.array .int) := ⟨ce_RP, ce_TP, 16, 3, ce_tyP, by rcases zpr_or h with rfl | rfl <;> rfl, by show p < 90; rcases zpr_or h with rfl | rfl <;> decide, rfl, ce_zclP, by decide, (ce_w5 5 rfl), by rcases zpr_or h with rfl | rfl <;> rfl, rfl, rfl⟩
theorem cef_E201_34 (ca : Nat → ClassId) (D : va_G) : zFld (zCe ca D) ce_RE 201 34 3 2 true (.object "ShapeEngine$Functions") := ⟨ce_RM, ce_TM, 20, 4, ce_tyM, rfl, zlt rfl, rfl, ce_zclM, by decide, (ce_w5 6 rfl), rfl, rfl, rfl⟩
theorem cef_E205_P (ca : Nat → ClassId) (D : va_G) {p : Nat} (h : zpr p = true) : zFld (zCe ca D) ce_RE 205 p 11 2 true (.array .int) := ⟨ce_RP, ce_TP, 16, 3, ce_tyP, by rcases zpr_or h with rfl | rfl <;> rfl, by show p < 90; rcases zpr_or h with rfl | rfl <;> decide, rfl, ce_zclP, by decide, (ce_w5 7 rfl), by rcases zpr_or h with rfl | rfl <;> rfl, rfl, rfl⟩
theorem cef_E208_59 (ca : Nat → ClassId) (D : va_G) : zFld (zCe ca D) ce_RE 208 59 0 2 true (.array .int) := ⟨ce_RF, ce_TF, 8, 9, ce_tyF, rfl, zlt rfl, rfl, ce_zclF, by decide, (ce_w5 8 rfl), rfl, rfl, rfl⟩
theorem cef_E213_59 (ca : Nat → ClassId) (D : va_G) : zFld (zCe ca D) ce_RE 213 59 1 2 true (.array .int) := ⟨ce_RF, ce_TF, 8, 9, ce_tyF, rfl, zlt rfl, rfl, ce_zclF, by decide, (ce_w5 9 rfl), rfl, rfl, rfl⟩
theorem cef_E216_59 (ca : Nat → ClassId) (D : va_G) : zFld (zCe ca D) ce_RE 216 59 2 2 true (.array .int) := ⟨ce_RF, ce_TF, 8, 9, ce_tyF, rfl, zlt rfl, rfl, ce_zclF, by decide, (ce_w5 10 rfl), rfl, rfl, rfl⟩
theorem cef_E219_59 (ca : Nat → ClassId) (D : va_G) : zFld (zCe ca D) ce_RE 219 59 3 2 true (.array .int) := ⟨ce_RF, ce_TF, 8, 9, ce_tyF, rfl, zlt rfl, rfl, ce_zclF, by decide, (ce_w5 11 rfl), rfl, rfl, rfl⟩
theorem cef_E222_59 (ca : Nat → ClassId) (D : va_G) : zFld (zCe ca D) ce_RE 222 59 4 2 true (.array .int) := ⟨ce_RF, ce_TF, 8, 9, ce_tyF, rfl, zlt rfl, rfl, ce_zclF, by decide, (ce_w5 12 rfl), rfl, rfl, rfl⟩
theorem cef_E228_59 (ca : Nat → ClassId) (D : va_G) : zFld (zCe ca D) ce_RE 228 59 5 2 true (.array .int) := ⟨ce_RF, ce_TF, 8, 9, ce_tyF, rfl, zlt rfl, rfl, ce_zclF, by decide, (ce_w5 13 rfl), rfl, rfl, rfl⟩
theorem cef_E231_P (ca : Nat → ClassId) (D : va_G) {p : Nat} (h : zpr p = true) : zFld (zCe ca D) ce_RE 231 p 15 0 false (.int) := ⟨ce_RP, ce_TP, 16, 3, ce_tyP, by rcases zpr_or h with rfl | rfl <;> rfl, by show p < 90; rcases zpr_or h with rfl | rfl <;> decide, rfl, ce_zclP, by decide, (ce_w5 14 rfl), by rcases zpr_or h with rfl | rfl <;> rfl, rfl, rfl⟩
theorem cef_E234_P (ca : Nat → ClassId) (D : va_G) {p : Nat} (h : zpr p = true) : zFld (zCe ca D) ce_RE 234 p 12 0 false (.int) := ⟨ce_RP, ce_TP, 16, 3, ce_tyP, by rcases zpr_or h with rfl | rfl <;> rfl, by show p < 90; rcases zpr_or h with rfl | rfl <;> decide, rfl, ce_zclP, by decide, (ce_w5 15 rfl), by rcases zpr_or h with rfl | rfl <;> rfl, rfl, rfl⟩
theorem cef_E237_P (ca : Nat → ClassId) (D : va_G) {p : Nat} (h : zpr p = true) : zFld (zCe ca D) ce_RE 237 p 14 0 false (.int) := ⟨ce_RP, ce_TP, 16, 3, ce_tyP, by rcases zpr_or h with rfl | rfl <;> rfl, by show p < 90; rcases zpr_or h with rfl | rfl <;> decide, rfl, ce_zclP, by decide, (ce_w5 16 rfl), by rcases zpr_or h with rfl | rfl <;> rfl, rfl, rfl⟩
theorem ceO_0 (ca : Nat → ClassId) (D : va_G) : zOb (zCe ca D) 0 ce_RE := ⟨ce_TE, 7, 0, rfl, zlt rfl, rfl⟩
theorem ceO_2 (ca : Nat → ClassId) (D : va_G) : zOb (zCe ca D) 2 ce_RC := ⟨ce_TC, 13, 1, rfl, zlt rfl, rfl⟩
theorem ceO_7 (ca : Nat → ClassId) (D : va_G) : zOb (zCe ca D) 7 ce_RX := ⟨ce_TX, 9, 2, rfl, zlt rfl, rfl⟩
theorem ceO_12 (ca : Nat → ClassId) (D : va_G) : zOb (zCe ca D) 12 ce_RP := ⟨ce_TP, 16, 3, rfl, zlt rfl, rfl⟩
theorem ceO_23 (ca : Nat → ClassId) (D : va_G) : zOb (zCe ca D) 23 ce_RP := ⟨ce_TP, 16, 3, rfl, zlt rfl, rfl⟩
theorem ceO_34 (ca : Nat → ClassId) (D : va_G) : zOb (zCe ca D) 34 ce_RM := ⟨ce_TM, 20, 4, rfl, zlt rfl, rfl⟩
theorem ceO_36 (ca : Nat → ClassId) (D : va_G) : zOb (zCe ca D) 36 ce_RH := ⟨ce_TH, 14, 5, rfl, zlt rfl, rfl⟩
theorem ceO_43 (ca : Nat → ClassId) (D : va_G) : zOb (zCe ca D) 43 ce_RS := ⟨ce_TS, 9, 6, rfl, zlt rfl, rfl⟩
theorem ceO_45 (ca : Nat → ClassId) (D : va_G) : zOb (zCe ca D) 45 ce_RR := ⟨ce_TR, 7, 7, rfl, zlt rfl, rfl⟩
theorem ceO_49 (ca : Nat → ClassId) (D : va_G) : zOb (zCe ca D) 49 ce_RT := ⟨ce_TT, 12, 8, rfl, zlt rfl, rfl⟩
theorem ceO_59 (ca : Nat → ClassId) (D : va_G) : zOb (zCe ca D) 59 ce_RF := ⟨ce_TF, 8, 9, rfl, zlt rfl, rfl⟩
theorem ceO_66 (ca : Nat → ClassId) (D : va_G) : zOb (zCe ca D) 66 ce_RV := ⟨ce_TV, 3, 10, rfl, zlt rfl, rfl⟩
theorem ceO_69 (ca : Nat → ClassId) (D : va_G) : zOb (zCe ca D) 69 ce_RV := ⟨ce_TV, 3, 10, rfl, zlt rfl, rfl⟩
theorem ceO_72 (ca : Nat → ClassId) (D : va_G) : zOb (zCe ca D) 72 ce_RV := ⟨ce_TV, 3, 10, rfl, zlt rfl, rfl⟩
theorem ceO_75 (ca : Nat → ClassId) (D : va_G) : zOb (zCe ca D) 75 ce_RV := ⟨ce_TV, 3, 10, rfl, zlt rfl, rfl⟩
theorem ceO_78 (ca : Nat → ClassId) (D : va_G) : zOb (zCe ca D) 78 ce_RV := ⟨ce_TV, 3, 10, rfl, zlt rfl, rfl⟩
theorem ceO_P (ca : Nat → ClassId) (D : va_G) {p : Nat} (h : zpr p = true) : zOb (zCe ca D) p ce_RP := ⟨ce_TP, 16, 3, by rcases zpr_or h with rfl | rfl <;> rfl, by show p < 90; rcases zpr_or h with rfl | rfl <;> decide, rfl⟩
theorem ceO_V (ca : Nat → ClassId) (D : va_G) {v : Nat} (h : zvl v = true) : zOb (zCe ca D) v ce_RV := ⟨ce_TV, 3, 10, by rcases zvl_or h with rfl | rfl | rfl | rfl | rfl <;> rfl, by show v < 90; rcases zvl_or h with rfl | rfl | rfl | rfl | rfl <;> decide, rfl⟩
def zfa (Λ : zSd) (c : Nat) : Prop := (Λ.1.2.2.1 c).1 = 1 ∧ c < Λ.1.1
theorem ce_fa_44 (ca : Nat → ClassId) (D : va_G) : zfa (zCe ca D) 44 := ⟨rfl, zlt rfl⟩
theorem ce_fa_50 (ca : Nat → ClassId) (D : va_G) : zfa (zCe ca D) 50 := ⟨rfl, zlt rfl⟩
theorem ce_fa_51 (ca : Nat → ClassId) (D : va_G) : zfa (zCe ca D) 51 := ⟨rfl, zlt rfl⟩
theorem ce_fa_52 (ca : Nat → ClassId) (D : va_G) : zfa (zCe ca D) 52 := ⟨rfl, zlt rfl⟩
theorem ce_fa_53 (ca : Nat → ClassId) (D : va_G) : zfa (zCe ca D) 53 := ⟨rfl, zlt rfl⟩
theorem ce_fa_54 (ca : Nat → ClassId) (D : va_G) : zfa (zCe ca D) 54 := ⟨rfl, zlt rfl⟩
theorem ce_fa_58 (ca : Nat → ClassId) (D : va_G) : zfa (zCe ca D) 58 := ⟨rfl, zlt rfl⟩
theorem ce_fa_60 (ca : Nat → ClassId) (D : va_G) : zfa (zCe ca D) 60 := ⟨rfl, zlt rfl⟩
theorem ce_fa_61 (ca : Nat → ClassId) (D : va_G) : zfa (zCe ca D) 61 := ⟨rfl, zlt rfl⟩
theorem ce_fa_62 (ca : Nat → ClassId) (D : va_G) : zfa (zCe ca D) 62 := ⟨rfl, zlt rfl⟩
theorem ce_fa_63 (ca : Nat → ClassId) (D : va_G) : zfa (zCe ca D) 63 := ⟨rfl, zlt rfl⟩
theorem ce_fa_64 (ca : Nat → ClassId) (D : va_G) : zfa (zCe ca D) 64 := ⟨rfl, zlt rfl⟩
theorem ce_fa_65 (ca : Nat → ClassId) (D : va_G) : zfa (zCe ca D) 65 := ⟨rfl, zlt rfl⟩
theorem ce_GV {own C : String} {idx : Nat} {y : MethodName} {cd : Cond} (h1 : Cond.methodLink own idx y ∈ ce_gl) (h2 : Cond.instanceMethod y ∈ ce_gl) (h3 : Cond.selects C y y ∈ ce_gl) (h4 : Cond.initialized C ∈ ce_gl) (h5 : cd ∈ ce_gl) : GoodIn ce_gl (wsV own idx C y (cd :: ce_gl)) := by
  intro c hc
  have h : c ∈ ce_gl := by
    rcases List.mem_append.mp hc with hc | hc
    · simp only [List.mem_cons, List.not_mem_nil, or_false] at hc
      rcases hc with rfl | rfl | rfl | rfl <;> assumption
    · rcases List.mem_cons.mp hc with rfl | hc <;> assumption
  exact ce_goodIn c h
theorem ce_GS {own : String} {idx : Nat} {y : MethodName} {cd : Cond} (h1 : Cond.methodLink own idx y ∈ ce_gl) (h2 : Cond.static y ∈ ce_gl) (h4 : Cond.initialized own ∈ ce_gl) (h5 : cd ∈ ce_gl) : GoodIn ce_gl (wsS own idx y (cd :: ce_gl)) := by
  intro c hc
  have h : c ∈ ce_gl := by
    rcases List.mem_append.mp hc with hc | hc
    · simp only [List.mem_cons, List.not_mem_nil, or_false] at hc
      rcases hc with rfl | rfl | rfl <;> assumption
    · rcases List.mem_cons.mp hc with rfl | hc <;> assumption
  exact ce_goodIn c h
theorem ce_GX {own : String} {idx : Nat} {y : MethodName} {cd : Cond} (h1 : Cond.methodLink own idx y ∈ ce_gl) (h2 : Cond.static y ∈ ce_gl) (h4 : Cond.initialized y.cls ∈ ce_gl) (h5 : cd ∈ ce_gl) : GoodIn ce_gl (va_wsS own idx y (cd :: ce_gl)) := by
  intro c hc
  have h : c ∈ ce_gl := by
    rcases List.mem_append.mp hc with hc | hc
    · simp only [List.mem_cons, List.not_mem_nil, or_false] at hc
      rcases hc with rfl | rfl | rfl <;> assumption
    · rcases List.mem_cons.mp hc with rfl | hc <;> assumption
  exact ce_goodIn c h
theorem ceG_C87 (ca : Nat → ClassId) (D : va_G) : zGV (zCe ca D) ce_RC 87 ce_RP ceY_P_begin (.code ceY_P_begin prog_7_method_2_code 2 none) 1 2 := ⟨ce_GV (ce_w5 17 rfl) (ce_w5 20 rfl) (ce_w5 21 rfl) (ce_w5 19 rfl) (ce_w5 18 rfl), by decide +kernel, by decide⟩
theorem ceG_X60 (ca : Nat → ClassId) (D : va_G) : zGS (zCe ca D) ce_RX 60 ceY_X_isLetter (.code ceY_X_isLetter prog_5_method_9_code 1 (some .boolean)) 1 1 := ⟨ce_GS (ce_w5 22 rfl) (ce_w5 25 rfl) (ce_w5 24 rfl) (ce_w5 23 rfl), by decide +kernel, by decide⟩
theorem ceG_X68 (ca : Nat → ClassId) (D : va_G) : zGS (zCe ca D) ce_RX 68 ceY_X_isDigit (.code ceY_X_isDigit prog_5_method_10_code 1 (some .boolean)) 1 1 := ⟨ce_GS (ce_w5 26 rfl) (ce_w5 28 rfl) (ce_w5 24 rfl) (ce_w5 27 rfl), by decide +kernel, by decide⟩
theorem ceG_X77 (ca : Nat → ClassId) (D : va_G) : zGV (zCe ca D) ce_RX 77 ce_RX ceY_X_add (.code ceY_X_add prog_5_method_4_code 5 none) 3 5 := ⟨ce_GV (ce_w5 29 rfl) (ce_w5 31 rfl) (ce_w5 32 rfl) (ce_w5 24 rfl) (ce_w5 30 rfl), by decide +kernel, by decide⟩
theorem ceG_X94 (ca : Nat → ClassId) (D : va_G) : zGV (zCe ca D) ce_RX 94 ce_RX ceY_X_kindOf (.code ceY_X_kindOf prog_5_method_6_code 4 (some .int)) 1 4 := ⟨ce_GV (ce_w5 33 rfl) (ce_w5 35 rfl) (ce_w5 36 rfl) (ce_w5 24 rfl) (ce_w5 34 rfl), by decide +kernel, by decide⟩
theorem ceG_X74 (ca : Nat → ClassId) (D : va_G) : zGV (zCe ca D) ce_RX 74 ce_RX ceY_X_takeSign (.code ceY_X_takeSign prog_5_method_8_code 5 (some .int)) 3 5 := ⟨ce_GV (ce_w5 37 rfl) (ce_w5 39 rfl) (ce_w6 0 rfl) (ce_w5 24 rfl) (ce_w5 38 rfl), by decide +kernel, by decide⟩
theorem ceG_X71 (ca : Nat → ClassId) (D : va_G) : zGV (zCe ca D) ce_RX 71 ce_RX ceY_X_takeNumber (.code ceY_X_takeNumber prog_5_method_7_code 8 (some .int)) 3 8 := ⟨ce_GV (ce_w6 1 rfl) (ce_w6 3 rfl) (ce_w6 4 rfl) (ce_w5 24 rfl) (ce_w6 2 rfl), by decide +kernel, by decide⟩
theorem ceG_X64 (ca : Nat → ClassId) (D : va_G) : zGV (zCe ca D) ce_RX 64 ce_RX ceY_X_takeWord (.code ceY_X_takeWord prog_5_method_5_code 7 (some .int)) 3 7 := ⟨ce_GV (ce_w6 5 rfl) (ce_w6 7 rfl) (ce_w6 8 rfl) (ce_w5 24 rfl) (ce_w6 6 rfl), by decide +kernel, by decide⟩
theorem ceG_X84 (ca : Nat → ClassId) (D : va_G) : zGV (zCe ca D) ce_RX 84 ce_RX ceY_X_advance (.code ceY_X_advance prog_5_method_3_code 1 none) 0 1 := ⟨ce_GV (ce_w6 9 rfl) (ce_w6 11 rfl) (ce_w6 12 rfl) (ce_w5 24 rfl) (ce_w6 10 rfl), by decide +kernel, by decide⟩
theorem ceG_C105 (ca : Nat → ClassId) (D : va_G) : zGV (zCe ca D) ce_RC 105 ce_RX ceY_X_advance (.code ceY_X_advance prog_5_method_3_code 1 none) 0 1 := ⟨ce_GV (ce_w6 13 rfl) (ce_w6 11 rfl) (ce_w6 12 rfl) (ce_w5 24 rfl) (ce_w6 10 rfl), by decide +kernel, by decide⟩
theorem ceG_C102 (ca : Nat → ClassId) (D : va_G) : zGV (zCe ca D) ce_RC 102 ce_RC ceY_C_refuse (.code ceY_C_refuse prog_2_method_35_code 1 none) 0 1 := ⟨ce_GV (ce_w6 14 rfl) (ce_w6 17 rfl) (ce_w6 18 rfl) (ce_w6 16 rfl) (ce_w6 15 rfl), by decide +kernel, by decide⟩
theorem ceG_C119 (ca : Nat → ClassId) (D : va_G) : zGV (zCe ca D) ce_RC 119 ce_RC ceY_C_note (.code ceY_C_note prog_2_method_36_code 4 none) 2 4 := ⟨ce_GV (ce_w6 19 rfl) (ce_w6 21 rfl) (ce_w6 22 rfl) (ce_w6 16 rfl) (ce_w6 20 rfl), by decide +kernel, by decide⟩
theorem ceG_P68 (ca : Nat → ClassId) (D : va_G) : zGV (zCe ca D) ce_RP 68 ce_RP ceY_P_isFn (.code ceY_P_isFn prog_7_method_9_code 2 (some .boolean)) 1 2 := ⟨ce_GV (ce_w6 23 rfl) (ce_w6 25 rfl) (ce_w6 26 rfl) (ce_w5 19 rfl) (ce_w6 24 rfl), by decide +kernel, by decide⟩
theorem ceG_C129 (ca : Nat → ClassId) (D : va_G) : zGV (zCe ca D) ce_RC 129 ce_RC ceY_C_opens (.code ceY_C_opens prog_2_method_33_code 2 none) 1 2 := ⟨ce_GV (ce_w6 27 rfl) (ce_w6 29 rfl) (ce_w6 30 rfl) (ce_w6 16 rfl) (ce_w6 28 rfl), by decide +kernel, by decide⟩
theorem ceG_C146 (ca : Nat → ClassId) (D : va_G) : zGV (zCe ca D) ce_RC 146 ce_RC ceY_C_closes (.code ceY_C_closes prog_2_method_34_code 2 none) 1 2 := ⟨ce_GV (ce_w6 31 rfl) (ce_w6 33 rfl) (ce_w6 34 rfl) (ce_w6 16 rfl) (ce_w6 32 rfl), by decide +kernel, by decide⟩
theorem ceG_C132 (ca : Nat → ClassId) (D : va_G) : zGV (zCe ca D) ce_RC 132 ce_RC ceY_C_variableNamed (.code ceY_C_variableNamed prog_2_method_28_code 4 (some .int)) 1 4 := ⟨ce_GV (ce_w6 35 rfl) (ce_w6 37 rfl) (ce_w6 38 rfl) (ce_w6 16 rfl) (ce_w6 36 rfl), by decide +kernel, by decide⟩
theorem ceG_C135 (ca : Nat → ClassId) (D : va_G) : zGV (zCe ca D) ce_RC 135 ce_RC ceY_C_addVariable (.code ceY_C_addVariable prog_2_method_29_code 4 (some .int)) 2 4 := ⟨ce_GV (ce_w6 39 rfl) (ce_w7 1 rfl) (ce_w7 2 rfl) (ce_w6 16 rfl) (ce_w7 0 rfl), by decide +kernel, by decide⟩
theorem ceG_C139 (ca : Nat → ClassId) (D : va_G) : zGV (zCe ca D) ce_RC 139 ce_RP ceY_P_addName (.code ceY_P_addName prog_7_method_10_code 2 none) 1 2 := ⟨ce_GV (ce_w7 3 rfl) (ce_w7 5 rfl) (ce_w7 6 rfl) (ce_w5 19 rfl) (ce_w7 4 rfl), by decide +kernel, by decide⟩
theorem ceG_C142 (ca : Nat → ClassId) (D : va_G) : zGV (zCe ca D) ce_RC 142 ce_RC ceY_C_takes (.code ceY_C_takes prog_2_method_31_code 2 (some .boolean)) 1 2 := ⟨ce_GV (ce_w7 7 rfl) (ce_w7 9 rfl) (ce_w7 10 rfl) (ce_w6 16 rfl) (ce_w7 8 rfl), by decide +kernel, by decide⟩
theorem ceG_C112 (ca : Nat → ClassId) (D : va_G) : zGV (zCe ca D) ce_RC 112 ce_RP ceY_P_fnNamed (.code ceY_P_fnNamed prog_7_method_13_code 4 (some .int)) 1 4 := ⟨ce_GV (ce_w7 11 rfl) (ce_w7 13 rfl) (ce_w7 14 rfl) (ce_w5 19 rfl) (ce_w7 12 rfl), by decide +kernel, by decide⟩
theorem ceG_C123 (ca : Nat → ClassId) (D : va_G) : zGV (zCe ca D) ce_RC 123 ce_RP ceY_P_addFn (.code ceY_P_addFn prog_7_method_12_code 3 (some .int)) 1 3 := ⟨ce_GV (ce_w7 15 rfl) (ce_w7 17 rfl) (ce_w7 18 rfl) (ce_w5 19 rfl) (ce_w7 16 rfl), by decide +kernel, by decide⟩
theorem ceG_C126 (ca : Nat → ClassId) (D : va_G) : zGV (zCe ca D) ce_RC 126 ce_RC ceY_C_compileNames (.code ceY_C_compileNames prog_2_method_5_code 3 none) 0 3 := ⟨ce_GV (ce_w7 19 rfl) (ce_w7 21 rfl) (ce_w7 22 rfl) (ce_w6 16 rfl) (ce_w7 20 rfl), by decide +kernel, by decide⟩
theorem ceG_C244 (ca : Nat → ClassId) (D : va_G) : zGV (zCe ca D) ce_RC 244 ce_RP ceY_P_addSite (.code ceY_P_addSite prog_7_method_11_code 6 (some .int)) 4 6 := ⟨ce_GV (ce_w7 23 rfl) (ce_w7 25 rfl) (ce_w7 26 rfl) (ce_w5 19 rfl) (ce_w7 24 rfl), by decide +kernel, by decide⟩
theorem ceG_C196 (ca : Nat → ClassId) (D : va_G) : zGV (zCe ca D) ce_RC 196 ce_RC ceY_C_addSite (.code ceY_C_addSite prog_2_method_30_code 6 (some .int)) 3 6 := ⟨ce_GV (ce_w7 27 rfl) (ce_w7 29 rfl) (ce_w7 30 rfl) (ce_w6 16 rfl) (ce_w7 28 rfl), by decide +kernel, by decide⟩
theorem ceG_C56 (ca : Nat → ClassId) (D : va_G) : zGV (zCe ca D) ce_RC 56 ce_RP ceY_P_emit (.code ceY_P_emit prog_7_method_3_code 4 (some .int)) 3 4 := ⟨ce_GV (ce_w7 31 rfl) (ce_w7 33 rfl) (ce_w7 34 rfl) (ce_w5 19 rfl) (ce_w7 32 rfl), by decide +kernel, by decide⟩
theorem ceG_C167 (ca : Nat → ClassId) (D : va_G) : zGV (zCe ca D) ce_RC 167 ce_RC ceY_C_expect (.code ceY_C_expect prog_2_method_32_code 2 none) 1 2 := ⟨ce_GV (ce_w7 35 rfl) (ce_w7 37 rfl) (ce_w7 38 rfl) (ce_w6 16 rfl) (ce_w7 36 rfl), by decide +kernel, by decide⟩
theorem ceG_C170 (ca : Nat → ClassId) (D : va_G) : zGV (zCe ca D) ce_RC 170 ce_RC ceY_C_compileE (.code ceY_C_compileE prog_2_method_14_code 4 (some .int)) 1 4 := ⟨ce_GV (ce_w7 39 rfl) (ce_w8 1 rfl) (ce_w8 2 rfl) (ce_w6 16 rfl) (ce_w8 0 rfl), by decide +kernel, by decide⟩
theorem ceG_C190 (ca : Nat → ClassId) (D : va_G) : zGV (zCe ca D) ce_RC 190 ce_RC ceY_C_bindsAt (.code ceY_C_bindsAt prog_2_method_15_code 3 (some .boolean)) 1 3 := ⟨ce_GV (ce_w8 3 rfl) (ce_w8 5 rfl) (ce_w8 6 rfl) (ce_w6 16 rfl) (ce_w8 4 rfl), by decide +kernel, by decide⟩
theorem ceG_C193 (ca : Nat → ClassId) (D : va_G) : zGV (zCe ca D) ce_RC 193 ce_RC ceY_C_compileRest (.code ceY_C_compileRest prog_2_method_16_code 5 none) 1 5 := ⟨ce_GV (ce_w8 7 rfl) (ce_w8 9 rfl) (ce_w8 10 rfl) (ce_w6 16 rfl) (ce_w8 8 rfl), by decide +kernel, by decide⟩
theorem ceG_C187 (ca : Nat → ClassId) (D : va_G) : zGV (zCe ca D) ce_RC 187 ce_RC ceY_C_compilePost (.code ceY_C_compilePost prog_2_method_18_code 3 (some .int)) 0 3 := ⟨ce_GV (ce_w8 11 rfl) (ce_w8 13 rfl) (ce_w8 14 rfl) (ce_w6 16 rfl) (ce_w8 12 rfl), by decide +kernel, by decide⟩
theorem ceG_C200 (ca : Nat → ClassId) (D : va_G) : zGS (zCe ca D) ce_RC 200 ceY_C_opOf (.code ceY_C_opOf prog_2_method_17_code 1 (some .int)) 1 1 := ⟨ce_GS (ce_w8 15 rfl) (ce_w8 17 rfl) (ce_w6 16 rfl) (ce_w8 16 rfl), by decide +kernel, by decide⟩
theorem ceG_C203 (ca : Nat → ClassId) (D : va_G) : zGV (zCe ca D) ce_RC 203 ce_RC ceY_C_compileOne (.code ceY_C_compileOne prog_2_method_21_code 1 (some .int)) 0 1 := ⟨ce_GV (ce_w8 18 rfl) (ce_w8 20 rfl) (ce_w8 21 rfl) (ce_w6 16 rfl) (ce_w8 19 rfl), by decide +kernel, by decide⟩
theorem ceG_C206 (ca : Nat → ClassId) (D : va_G) : zGV (zCe ca D) ce_RC 206 ce_RC ceY_C_compileMember (.code ceY_C_compileMember prog_2_method_19_code 2 (some .int)) 0 2 := ⟨ce_GV (ce_w8 22 rfl) (ce_w8 24 rfl) (ce_w8 25 rfl) (ce_w6 16 rfl) (ce_w8 23 rfl), by decide +kernel, by decide⟩
theorem ceG_C209 (ca : Nat → ClassId) (D : va_G) : zGV (zCe ca D) ce_RC 209 ce_RC ceY_C_compileItem (.code ceY_C_compileItem prog_2_method_20_code 2 (some .int)) 0 2 := ⟨ce_GV (ce_w8 26 rfl) (ce_w8 28 rfl) (ce_w8 29 rfl) (ce_w6 16 rfl) (ce_w8 27 rfl), by decide +kernel, by decide⟩
theorem ceG_C218 (ca : Nat → ClassId) (D : va_G) : zGV (zCe ca D) ce_RC 218 ce_RC ceY_C_compileNegated (.code ceY_C_compileNegated prog_2_method_22_code 2 none) 0 2 := ⟨ce_GV (ce_w8 30 rfl) (ce_w8 32 rfl) (ce_w8 33 rfl) (ce_w6 16 rfl) (ce_w8 31 rfl), by decide +kernel, by decide⟩
theorem ceG_C212 (ca : Nat → ClassId) (D : va_G) : zGV (zCe ca D) ce_RC 212 ce_RC ceY_C_compileNamed (.code ceY_C_compileNamed prog_2_method_24_code 5 (some .int)) 0 5 := ⟨ce_GV (ce_w8 34 rfl) (ce_w8 36 rfl) (ce_w8 37 rfl) (ce_w6 16 rfl) (ce_w8 35 rfl), by decide +kernel, by decide⟩
theorem ceG_C215 (ca : Nat → ClassId) (D : va_G) : zGV (zCe ca D) ce_RC 215 ce_RC ceY_C_compileMade (.code ceY_C_compileMade prog_2_method_23_code 3 none) 1 3 := ⟨ce_GV (ce_w8 38 rfl) (ce_w9 0 rfl) (ce_w9 1 rfl) (ce_w6 16 rfl) (ce_w8 39 rfl), by decide +kernel, by decide⟩
theorem ceG_C221 (ca : Nat → ClassId) (D : va_G) : zGV (zCe ca D) ce_RC 221 ce_RC ceY_C_compileArguments (.code ceY_C_compileArguments prog_2_method_25_code 3 (some .int)) 0 3 := ⟨ce_GV (ce_w9 2 rfl) (ce_w9 4 rfl) (ce_w9 5 rfl) (ce_w6 16 rfl) (ce_w9 3 rfl), by decide +kernel, by decide⟩
theorem ceG_C224 (ca : Nat → ClassId) (D : va_G) : zGV (zCe ca D) ce_RC 224 ce_RC ceY_C_keepCall (.code ceY_C_keepCall prog_2_method_26_code 5 none) 3 5 := ⟨ce_GV (ce_w9 6 rfl) (ce_w9 8 rfl) (ce_w9 9 rfl) (ce_w6 16 rfl) (ce_w9 7 rfl), by decide +kernel, by decide⟩
theorem ceG_P64 (ca : Nat → ClassId) (D : va_G) : zGV (zCe ca D) ce_RP 64 ce_RP ceY_P_isSite (.code ceY_P_isSite prog_7_method_7_code 2 (some .boolean)) 1 2 := ⟨ce_GV (ce_w9 10 rfl) (ce_w9 12 rfl) (ce_w9 13 rfl) (ce_w5 19 rfl) (ce_w9 11 rfl), by decide +kernel, by decide⟩
theorem ceG_C177 (ca : Nat → ClassId) (D : va_G) : zGV (zCe ca D) ce_RC 177 ce_RP ceY_P_takeBack (.code ceY_P_takeBack prog_7_method_4_code 1 (some .int)) 0 1 := ⟨ce_GV (ce_w9 14 rfl) (ce_w9 16 rfl) (ce_w9 17 rfl) (ce_w5 19 rfl) (ce_w9 15 rfl), by decide +kernel, by decide⟩
theorem ceG_C181 (ca : Nat → ClassId) (D : va_G) : zGV (zCe ca D) ce_RC 181 ce_RP ceY_P_turnSite (.code ceY_P_turnSite prog_7_method_8_code 3 none) 2 3 := ⟨ce_GV (ce_w9 18 rfl) (ce_w9 20 rfl) (ce_w9 21 rfl) (ce_w5 19 rfl) (ce_w9 19 rfl), by decide +kernel, by decide⟩
theorem ceG_C184 (ca : Nat → ClassId) (D : va_G) : zGV (zCe ca D) ce_RC 184 ce_RP ceY_P_placeTakenBack (.code ceY_P_placeTakenBack prog_7_method_6_code 1 (some .int)) 0 1 := ⟨ce_GV (ce_w9 22 rfl) (ce_w9 24 rfl) (ce_w9 25 rfl) (ce_w5 19 rfl) (ce_w9 23 rfl), by decide +kernel, by decide⟩
theorem ceG_C74 (ca : Nat → ClassId) (D : va_G) : zGV (zCe ca D) ce_RC 74 ce_RC ceY_C_compileStep (.code ceY_C_compileStep prog_2_method_7_code 1 none) 0 1 := ⟨ce_GV (ce_w9 26 rfl) (ce_w9 28 rfl) (ce_w9 29 rfl) (ce_w6 16 rfl) (ce_w9 27 rfl), by decide +kernel, by decide⟩
theorem ceG_C149 (ca : Nat → ClassId) (D : va_G) : zGV (zCe ca D) ce_RC 149 ce_RC ceY_C_compileLet (.code ceY_C_compileLet prog_2_method_8_code 5 none) 0 5 := ⟨ce_GV (ce_w9 30 rfl) (ce_w9 32 rfl) (ce_w9 33 rfl) (ce_w6 16 rfl) (ce_w9 31 rfl), by decide +kernel, by decide⟩
theorem ceG_C152 (ca : Nat → ClassId) (D : va_G) : zGV (zCe ca D) ce_RC 152 ce_RC ceY_C_compileIf (.code ceY_C_compileIf prog_2_method_9_code 4 none) 0 4 := ⟨ce_GV (ce_w9 34 rfl) (ce_w9 36 rfl) (ce_w9 37 rfl) (ce_w6 16 rfl) (ce_w9 35 rfl), by decide +kernel, by decide⟩
theorem ceG_C155 (ca : Nat → ClassId) (D : va_G) : zGV (zCe ca D) ce_RC 155 ce_RC ceY_C_compileWhile (.code ceY_C_compileWhile prog_2_method_10_code 4 none) 0 4 := ⟨ce_GV (ce_w9 38 rfl) (ce_w10 0 rfl) (ce_w10 1 rfl) (ce_w6 16 rfl) (ce_w9 39 rfl), by decide +kernel, by decide⟩
theorem ceG_C158 (ca : Nat → ClassId) (D : va_G) : zGV (zCe ca D) ce_RC 158 ce_RC ceY_C_compilePlain (.code ceY_C_compilePlain prog_2_method_11_code 2 none) 1 2 := ⟨ce_GV (ce_w10 2 rfl) (ce_w10 4 rfl) (ce_w10 5 rfl) (ce_w6 16 rfl) (ce_w10 3 rfl), by decide +kernel, by decide⟩
theorem ceG_C161 (ca : Nat → ClassId) (D : va_G) : zGV (zCe ca D) ce_RC 161 ce_RC ceY_C_compileDel (.code ceY_C_compileDel prog_2_method_12_code 3 none) 0 3 := ⟨ce_GV (ce_w10 6 rfl) (ce_w10 8 rfl) (ce_w10 9 rfl) (ce_w6 16 rfl) (ce_w10 7 rfl), by decide +kernel, by decide⟩
theorem ceG_C164 (ca : Nat → ClassId) (D : va_G) : zGV (zCe ca D) ce_RC 164 ce_RC ceY_C_compilePut (.code ceY_C_compilePut prog_2_method_13_code 4 none) 0 4 := ⟨ce_GV (ce_w10 10 rfl) (ce_w10 12 rfl) (ce_w10 13 rfl) (ce_w6 16 rfl) (ce_w10 11 rfl), by decide +kernel, by decide⟩
theorem ceG_C49 (ca : Nat → ClassId) (D : va_G) : zGV (zCe ca D) ce_RC 49 ce_RC ceY_C_compileBlock (.code ceY_C_compileBlock prog_2_method_6_code 2 none) 0 2 := ⟨ce_GV (ce_w10 14 rfl) (ce_w10 16 rfl) (ce_w10 17 rfl) (ce_w6 16 rfl) (ce_w10 15 rfl), by decide +kernel, by decide⟩
theorem ceG_C174 (ca : Nat → ClassId) (D : va_G) : zGV (zCe ca D) ce_RC 174 ce_RP ceY_P_aim (.code ceY_P_aim prog_7_method_5_code 2 none) 1 2 := ⟨ce_GV (ce_w10 18 rfl) (ce_w10 20 rfl) (ce_w10 21 rfl) (ce_w5 19 rfl) (ce_w10 19 rfl), by decide +kernel, by decide⟩
theorem ceG_C36 (ca : Nat → ClassId) (D : va_G) : zGV (zCe ca D) ce_RC 36 ce_RC ceY_C_begin (.code ceY_C_begin prog_2_method_3_code 3 none) 2 3 := ⟨ce_GV (ce_w10 22 rfl) (ce_w10 24 rfl) (ce_w10 25 rfl) (ce_w6 16 rfl) (ce_w10 23 rfl), by decide +kernel, by decide⟩
theorem ceG_C40 (ca : Nat → ClassId) (D : va_G) : zGV (zCe ca D) ce_RC 40 ce_RX ceY_X_begin (.code ceY_X_begin prog_5_method_2_code 5 none) 2 5 := ⟨ce_GV (ce_w10 26 rfl) (ce_w10 28 rfl) (ce_w10 29 rfl) (ce_w5 24 rfl) (ce_w10 27 rfl), by decide +kernel, by decide⟩
theorem ceG_C84 (ca : Nat → ClassId) (D : va_G) : zGV (zCe ca D) ce_RC 84 ce_RC ceY_C_settleCalls (.code ceY_C_settleCalls prog_2_method_27_code 4 none) 0 4 := ⟨ce_GV (ce_w10 30 rfl) (ce_w10 32 rfl) (ce_w10 33 rfl) (ce_w6 16 rfl) (ce_w10 31 rfl), by decide +kernel, by decide⟩
theorem ceG_C46 (ca : Nat → ClassId) (D : va_G) : zGV (zCe ca D) ce_RC 46 ce_RC ceY_C_compileHead (.code ceY_C_compileHead prog_2_method_4_code 1 none) 0 1 := ⟨ce_GV (ce_w10 34 rfl) (ce_w10 36 rfl) (ce_w10 37 rfl) (ce_w6 16 rfl) (ce_w10 35 rfl), by decide +kernel, by decide⟩
theorem ceG_F30 (ca : Nat → ClassId) (D : va_G) : zGX (zCe ca D) ce_RF 30 ceY_fill (.code ceY_fill prog_21_method_103_code 4 none) 2 4 := ⟨ce_GX (ce_w10 38 rfl) (ce_w10 39 rfl) (ce_w11 0 rfl) (ce_w11 1 rfl), by decide +kernel, by decide⟩
theorem ceG_F43 (ca : Nat → ClassId) (D : va_G) : zGV (zCe ca D) ce_RF 43 ce_RF ceY_F_isCold (.code ceY_F_isCold prog_3_method_3_code 2 (some .boolean)) 1 2 := ⟨ce_GV (ce_w11 2 rfl) (ce_w11 5 rfl) (ce_w11 6 rfl) (ce_w11 4 rfl) (ce_w11 3 rfl), by decide +kernel, by decide⟩
theorem ceG_S37 (ca : Nat → ClassId) (D : va_G) : zGX (zCe ca D) ce_RS 37 ceY_fill (.code ceY_fill prog_21_method_103_code 4 none) 2 4 := ⟨ce_GX (ce_w11 7 rfl) (ce_w10 39 rfl) (ce_w11 0 rfl) (ce_w11 1 rfl), by decide +kernel, by decide⟩
theorem ceG_H53 (ca : Nat → ClassId) (D : va_G) : zGV (zCe ca D) ce_RH 53 ce_RS ceY_S_clear (.code ceY_S_clear prog_9_method_2_code 1 none) 0 1 := ⟨ce_GV (ce_w11 8 rfl) (ce_w11 11 rfl) (ce_w11 12 rfl) (ce_w11 10 rfl) (ce_w11 9 rfl), by decide +kernel, by decide⟩
theorem ceG_S67 (ca : Nat → ClassId) (D : va_G) : zGX (zCe ca D) ce_RS 67 ceY_copyI (.code ceY_copyI prog_21_method_123_code 3 (some (.array .int))) 2 3 := ⟨ce_GX (ce_w11 13 rfl) (ce_w11 14 rfl) (ce_w11 0 rfl) (ce_w11 15 rfl), by decide +kernel, by decide⟩
theorem ceG_S71 (ca : Nat → ClassId) (D : va_G) : zGX (zCe ca D) ce_RS 71 ceY_copyL (.code ceY_copyL prog_21_method_124_code 3 (some (.array .long))) 2 3 := ⟨ce_GX (ce_w11 16 rfl) (ce_w11 17 rfl) (ce_w11 0 rfl) (ce_w11 18 rfl), by decide +kernel, by decide⟩
theorem ceG_S55 (ca : Nat → ClassId) (D : va_G) : zGV (zCe ca D) ce_RS 55 ce_RS ceY_S_grow (.code ceY_S_grow prog_9_method_9_code 2 none) 0 2 := ⟨ce_GV (ce_w11 19 rfl) (ce_w11 21 rfl) (ce_w11 22 rfl) (ce_w11 10 rfl) (ce_w11 20 rfl), by decide +kernel, by decide⟩
theorem ceG_S51 (ca : Nat → ClassId) (D : va_G) : zGV (zCe ca D) ce_RS 51 ce_RS ceY_S_add (.code ceY_S_add prog_9_method_8_code 5 (some .int)) 3 5 := ⟨ce_GV (ce_w11 23 rfl) (ce_w11 25 rfl) (ce_w11 26 rfl) (ce_w11 10 rfl) (ce_w11 24 rfl), by decide +kernel, by decide⟩
theorem ceG_H69 (ca : Nat → ClassId) (D : va_G) : zGV (zCe ca D) ce_RH 69 ce_RS ceY_S_rootOf (.code ceY_S_rootOf prog_9_method_6_code 2 (some .int)) 1 2 := ⟨ce_GV (ce_w11 27 rfl) (ce_w11 29 rfl) (ce_w11 30 rfl) (ce_w11 10 rfl) (ce_w11 28 rfl), by decide +kernel, by decide⟩
theorem ceG_H73 (ca : Nat → ClassId) (D : va_G) : zGV (zCe ca D) ce_RH 73 ce_RH ceY_H_isObject (.code ceY_H_isObject prog_4_method_3_code 2 (some .boolean)) 1 2 := ⟨ce_GV (ce_w11 31 rfl) (ce_w11 34 rfl) (ce_w11 35 rfl) (ce_w11 33 rfl) (ce_w11 32 rfl), by decide +kernel, by decide⟩
theorem ceG_H77 (ca : Nat → ClassId) (D : va_G) : zGV (zCe ca D) ce_RH 77 ce_RH ceY_H_find (.code ceY_H_find prog_4_method_6_code 6 (some .int)) 2 6 := ⟨ce_GV (ce_w11 36 rfl) (ce_w11 38 rfl) (ce_w11 39 rfl) (ce_w11 33 rfl) (ce_w11 37 rfl), by decide +kernel, by decide⟩
theorem ceG_H99 (ca : Nat → ClassId) (D : va_G) : zGX (zCe ca D) ce_RH 99 ceY_copyL (.code ceY_copyL prog_21_method_124_code 3 (some (.array .long))) 2 3 := ⟨ce_GX (ce_w12 0 rfl) (ce_w11 17 rfl) (ce_w11 0 rfl) (ce_w11 18 rfl), by decide +kernel, by decide⟩
theorem ceG_H105 (ca : Nat → ClassId) (D : va_G) : zGX (zCe ca D) ce_RH 105 ceY_copyI (.code ceY_copyI prog_21_method_123_code 3 (some (.array .int))) 2 3 := ⟨ce_GX (ce_w12 1 rfl) (ce_w11 14 rfl) (ce_w11 0 rfl) (ce_w11 15 rfl), by decide +kernel, by decide⟩
theorem ceG_H95 (ca : Nat → ClassId) (D : va_G) : zGV (zCe ca D) ce_RH 95 ce_RH ceY_H_freshCell (.code ceY_H_freshCell prog_4_method_11_code 2 (some .int)) 0 2 := ⟨ce_GV (ce_w12 2 rfl) (ce_w12 4 rfl) (ce_w12 5 rfl) (ce_w11 33 rfl) (ce_w12 3 rfl), by decide +kernel, by decide⟩
theorem ceG_S47 (ca : Nat → ClassId) (D : va_G) : zGV (zCe ca D) ce_RS 47 ce_RS ceY_S_isShape (.code ceY_S_isShape prog_9_method_3_code 2 (some .boolean)) 1 2 := ⟨ce_GV (ce_w12 6 rfl) (ce_w12 8 rfl) (ce_w12 9 rfl) (ce_w11 10 rfl) (ce_w12 7 rfl), by decide +kernel, by decide⟩
theorem ceG_V36 (ca : Nat → ClassId) (D : va_G) : zGX (zCe ca D) ce_RV 36 ceY_copyB (.code ceY_copyB prog_21_method_121_code 3 (some (.array .byte))) 2 3 := ⟨ce_GX (ce_w12 10 rfl) (ce_w12 11 rfl) (ce_w11 0 rfl) (ce_w12 12 rfl), by decide +kernel, by decide⟩
theorem ceG_V42 (ca : Nat → ClassId) (D : va_G) : zGX (zCe ca D) ce_RV 42 ceY_copyL (.code ceY_copyL prog_21_method_124_code 3 (some (.array .long))) 2 3 := ⟨ce_GX (ce_w12 13 rfl) (ce_w11 17 rfl) (ce_w11 0 rfl) (ce_w11 18 rfl), by decide +kernel, by decide⟩
theorem ceG_V29 (ca : Nat → ClassId) (D : va_G) : zGV (zCe ca D) ce_RV 29 ce_RV ceY_V_grow (.code ceY_V_grow prog_11_method_3_code 3 none) 1 3 := ⟨ce_GV (ce_w12 14 rfl) (ce_w12 17 rfl) (ce_w12 18 rfl) (ce_w12 16 rfl) (ce_w12 15 rfl), by decide +kernel, by decide⟩
theorem ceG_H81 (ca : Nat → ClassId) (D : va_G) : zGV (zCe ca D) ce_RH 81 ce_RH ceY_H_append (.code ceY_H_append prog_4_method_10_code 5 (some .int)) 2 5 := ⟨ce_GV (ce_w12 19 rfl) (ce_w12 21 rfl) (ce_w12 22 rfl) (ce_w11 33 rfl) (ce_w12 20 rfl), by decide +kernel, by decide⟩
theorem ceG_H84 (ca : Nat → ClassId) (D : va_G) : zGV (zCe ca D) ce_RH 84 ce_RH ceY_H_loseShape (.code ceY_H_loseShape prog_4_method_12_code 2 none) 1 2 := ⟨ce_GV (ce_w12 23 rfl) (ce_w12 25 rfl) (ce_w12 26 rfl) (ce_w11 33 rfl) (ce_w12 24 rfl), by decide +kernel, by decide⟩
theorem ceG_H91 (ca : Nat → ClassId) (D : va_G) : zGV (zCe ca D) ce_RH 91 ce_RV ceY_V_set (.code ceY_V_set prog_11_method_2_code 5 none) 3 5 := ⟨ce_GV (ce_w12 27 rfl) (ce_w12 29 rfl) (ce_w12 30 rfl) (ce_w12 16 rfl) (ce_w12 28 rfl), by decide +kernel, by decide⟩
theorem ceG_H88 (ca : Nat → ClassId) (D : va_G) : zGV (zCe ca D) ce_RH 88 ce_RS ceY_S_with (.code ceY_S_with prog_9_method_7_code 6 (some .int)) 2 6 := ⟨ce_GV (ce_w12 31 rfl) (ce_w12 33 rfl) (ce_w12 34 rfl) (ce_w11 10 rfl) (ce_w12 32 rfl), by decide +kernel, by decide⟩
theorem ceG_T39 (ca : Nat → ClassId) (D : va_G) : zGX (zCe ca D) ce_RT 39 ceY_fill (.code ceY_fill prog_21_method_103_code 4 none) 2 4 := ⟨ce_GX (ce_w12 35 rfl) (ce_w10 39 rfl) (ce_w11 0 rfl) (ce_w11 1 rfl), by decide +kernel, by decide⟩
theorem ceG_M62 (ca : Nat → ClassId) (D : va_G) : zGV (zCe ca D) ce_RM 62 ce_RH ceY_H_clear (.code ceY_H_clear prog_4_method_2_code 1 none) 0 1 := ⟨ce_GV (ce_w12 36 rfl) (ce_w12 38 rfl) (ce_w12 39 rfl) (ce_w11 33 rfl) (ce_w12 37 rfl), by decide +kernel, by decide⟩
theorem ceG_M65 (ca : Nat → ClassId) (D : va_G) : zGV (zCe ca D) ce_RM 65 ce_RR ceY_R_clear (.code ceY_R_clear prog_8_method_2_code 1 none) 0 1 := ⟨ce_GV (ce_w13 0 rfl) (ce_w13 3 rfl) (ce_w13 4 rfl) (ce_w13 2 rfl) (ce_w13 1 rfl), by decide +kernel, by decide⟩
theorem ceG_M66 (ca : Nat → ClassId) (D : va_G) : zGV (zCe ca D) ce_RM 66 ce_RT ceY_T_clear (.code ceY_T_clear prog_10_method_2_code 1 none) 0 1 := ⟨ce_GV (ce_w13 5 rfl) (ce_w13 8 rfl) (ce_w13 9 rfl) (ce_w13 7 rfl) (ce_w13 6 rfl), by decide +kernel, by decide⟩
theorem ceG_M67 (ca : Nat → ClassId) (D : va_G) : zGV (zCe ca D) ce_RM 67 ce_RF ceY_F_clear (.code ceY_F_clear prog_3_method_2_code 1 none) 0 1 := ⟨ce_GV (ce_w13 10 rfl) (ce_w13 12 rfl) (ce_w13 13 rfl) (ce_w11 4 rfl) (ce_w13 11 rfl), by decide +kernel, by decide⟩
theorem ceG_M193 (ca : Nat → ClassId) (D : va_G) : zGV (zCe ca D) ce_RM 193 ce_RV ceY_V_set (.code ceY_V_set prog_11_method_2_code 5 none) 3 5 := ⟨ce_GV (ce_w13 14 rfl) (ce_w12 29 rfl) (ce_w12 30 rfl) (ce_w12 16 rfl) (ce_w12 28 rfl), by decide +kernel, by decide⟩
theorem ceG_M205 (ca : Nat → ClassId) (D : va_G) : zGV (zCe ca D) ce_RM 205 ce_RV ceY_V_sortAt (.code ceY_V_sortAt prog_11_method_4_code 2 (some .int)) 1 2 := ⟨ce_GV (ce_w13 15 rfl) (ce_w13 17 rfl) (ce_w13 18 rfl) (ce_w12 16 rfl) (ce_w13 16 rfl), by decide +kernel, by decide⟩
theorem ceG_M209 (ca : Nat → ClassId) (D : va_G) : zGV (zCe ca D) ce_RM 209 ce_RV ceY_V_numberAt (.code ceY_V_numberAt prog_11_method_5_code 2 (some .long)) 1 2 := ⟨ce_GV (ce_w13 19 rfl) (ce_w13 21 rfl) (ce_w13 22 rfl) (ce_w12 16 rfl) (ce_w13 20 rfl), by decide +kernel, by decide⟩
theorem ceG_M133 (ca : Nat → ClassId) (D : va_G) : zGV (zCe ca D) ce_RM 133 ce_RM ceY_M_push (.code ceY_M_push prog_6_method_7_code 4 none) 2 4 := ⟨ce_GV (ce_w13 23 rfl) (ce_w13 26 rfl) (ce_w13 27 rfl) (ce_w13 25 rfl) (ce_w13 24 rfl), by decide +kernel, by decide⟩
theorem ceG_V45 (ca : Nat → ClassId) (D : va_G) : zGV (zCe ca D) ce_RV 45 ce_RV ceY_V_sortAt (.code ceY_V_sortAt prog_11_method_4_code 2 (some .int)) 1 2 := ⟨ce_GV (ce_w13 28 rfl) (ce_w13 17 rfl) (ce_w13 18 rfl) (ce_w12 16 rfl) (ce_w13 16 rfl), by decide +kernel, by decide⟩
theorem ceG_M197 (ca : Nat → ClassId) (D : va_G) : zGS (zCe ca D) ce_RM 197 ceY_M_sortOf (.code ceY_M_sortOf prog_6_method_9_code 2 (some .int)) 1 2 := ⟨ce_GS (ce_w13 29 rfl) (ce_w13 31 rfl) (ce_w13 25 rfl) (ce_w13 30 rfl), by decide +kernel, by decide⟩
theorem ceG_M213 (ca : Nat → ClassId) (D : va_G) : zGV (zCe ca D) ce_RM 213 ce_RV ceY_V_isNumberAt (.code ceY_V_isNumberAt prog_11_method_6_code 3 (some .boolean)) 1 3 := ⟨ce_GV (ce_w13 32 rfl) (ce_w13 34 rfl) (ce_w13 35 rfl) (ce_w12 16 rfl) (ce_w13 33 rfl), by decide +kernel, by decide⟩
theorem ceG_M221 (ca : Nat → ClassId) (D : va_G) : zGV (zCe ca D) ce_RM 221 ce_RM ceY_M_fail (.code ceY_M_fail prog_6_method_5_code 3 none) 2 3 := ⟨ce_GV (ce_w13 36 rfl) (ce_w13 38 rfl) (ce_w13 39 rfl) (ce_w13 25 rfl) (ce_w13 37 rfl), by decide +kernel, by decide⟩
theorem ceG_M217 (ca : Nat → ClassId) (D : va_G) : zGV (zCe ca D) ce_RM 217 ce_RM ceY_M_pushNumber (.code ceY_M_pushNumber prog_6_method_8_code 3 none) 1 3 := ⟨ce_GV (ce_w14 0 rfl) (ce_w14 2 rfl) (ce_w14 3 rfl) (ce_w13 25 rfl) (ce_w14 1 rfl), by decide +kernel, by decide⟩
theorem ceG_M301 (ca : Nat → ClassId) (D : va_G) : zGV (zCe ca D) ce_RM 301 ce_RP ceY_P_isFn (.code ceY_P_isFn prog_7_method_9_code 2 (some .boolean)) 1 2 := ⟨ce_GV (ce_w14 4 rfl) (ce_w6 25 rfl) (ce_w6 26 rfl) (ce_w5 19 rfl) (ce_w6 24 rfl), by decide +kernel, by decide⟩
theorem ceG_M304 (ca : Nat → ClassId) (D : va_G) : zGV (zCe ca D) ce_RM 304 ce_RF ceY_F_leave (.code ceY_F_leave prog_3_method_5_code 3 none) 2 3 := ⟨ce_GV (ce_w14 5 rfl) (ce_w14 7 rfl) (ce_w14 8 rfl) (ce_w11 4 rfl) (ce_w14 6 rfl), by decide +kernel, by decide⟩
theorem ceG_M306 (ca : Nat → ClassId) (D : va_G) : zGV (zCe ca D) ce_RM 306 ce_RT ceY_T_dropGuesses (.code ceY_T_dropGuesses prog_10_method_16_code 4 none) 2 4 := ⟨ce_GV (ce_w14 9 rfl) (ce_w14 11 rfl) (ce_w14 12 rfl) (ce_w13 7 rfl) (ce_w14 10 rfl), by decide +kernel, by decide⟩
theorem ceG_M224 (ca : Nat → ClassId) (D : va_G) : zGV (zCe ca D) ce_RM 224 ce_RP ceY_P_isSite (.code ceY_P_isSite prog_7_method_7_code 2 (some .boolean)) 1 2 := ⟨ce_GV (ce_w14 13 rfl) (ce_w9 12 rfl) (ce_w9 13 rfl) (ce_w5 19 rfl) (ce_w9 11 rfl), by decide +kernel, by decide⟩
theorem ceG_M227 (ca : Nat → ClassId) (D : va_G) : zGS (zCe ca D) ce_RM 227 ceY_M_resultOf (.code ceY_M_resultOf prog_6_method_15_code 5 (some .long)) 3 5 := ⟨ce_GS (ce_w14 14 rfl) (ce_w14 16 rfl) (ce_w13 25 rfl) (ce_w14 15 rfl), by decide +kernel, by decide⟩
theorem ceG_M231 (ca : Nat → ClassId) (D : va_G) : zGV (zCe ca D) ce_RM 231 ce_RT ceY_T_meetSum (.code ceY_T_meetSum prog_10_method_6_code 3 none) 2 3 := ⟨ce_GV (ce_w14 17 rfl) (ce_w14 19 rfl) (ce_w14 20 rfl) (ce_w13 7 rfl) (ce_w14 18 rfl), by decide +kernel, by decide⟩
theorem ceG_M234 (ca : Nat → ClassId) (D : va_G) : zGV (zCe ca D) ce_RM 234 ce_RT ceY_T_hasGuess (.code ceY_T_hasGuess prog_10_method_12_code 2 (some .boolean)) 1 2 := ⟨ce_GV (ce_w14 21 rfl) (ce_w14 23 rfl) (ce_w14 24 rfl) (ce_w13 7 rfl) (ce_w14 22 rfl), by decide +kernel, by decide⟩
theorem ceG_M237 (ca : Nat → ClassId) (D : va_G) : zGV (zCe ca D) ce_RM 237 ce_RM ceY_M_leaveMade (.code ceY_M_leaveMade prog_6_method_23_code 3 none) 1 3 := ⟨ce_GV (ce_w14 25 rfl) (ce_w14 27 rfl) (ce_w14 28 rfl) (ce_w13 25 rfl) (ce_w14 26 rfl), by decide +kernel, by decide⟩
theorem ceG_M240 (ca : Nat → ClassId) (D : va_G) : zGV (zCe ca D) ce_RM 240 ce_RH ceY_H_addObject (.code ceY_H_addObject prog_4_method_4_code 4 (some .int)) 1 4 := ⟨ce_GV (ce_w14 29 rfl) (ce_w14 31 rfl) (ce_w14 32 rfl) (ce_w11 33 rfl) (ce_w14 30 rfl), by decide +kernel, by decide⟩
theorem ceG_M243 (ca : Nat → ClassId) (D : va_G) : zGV (zCe ca D) ce_RM 243 ce_RH ceY_H_isObject (.code ceY_H_isObject prog_4_method_3_code 2 (some .boolean)) 1 2 := ⟨ce_GV (ce_w14 33 rfl) (ce_w11 34 rfl) (ce_w11 35 rfl) (ce_w11 33 rfl) (ce_w11 32 rfl), by decide +kernel, by decide⟩
theorem ceG_T59 (ca : Nat → ClassId) (D : va_G) : zGV (zCe ca D) ce_RT 59 ce_RT ceY_T_enter (.code ceY_T_enter prog_10_method_8_code 5 none) 3 5 := ⟨ce_GV (ce_w14 34 rfl) (ce_w14 36 rfl) (ce_w14 37 rfl) (ce_w13 7 rfl) (ce_w14 35 rfl), by decide +kernel, by decide⟩
theorem ceG_T55 (ca : Nat → ClassId) (D : va_G) : zGV (zCe ca D) ce_RT 55 ce_RT ceY_T_meets (.code ceY_T_meets prog_10_method_7_code 5 (some .boolean)) 3 5 := ⟨ce_GV (ce_w14 38 rfl) (ce_w15 0 rfl) (ce_w15 1 rfl) (ce_w13 7 rfl) (ce_w14 39 rfl), by decide +kernel, by decide⟩
theorem ceG_M246 (ca : Nat → ClassId) (D : va_G) : zGV (zCe ca D) ce_RM 246 ce_RM ceY_M_objectAt (.code ceY_M_objectAt prog_6_method_19_code 4 (some .int)) 2 4 := ⟨ce_GV (ce_w15 2 rfl) (ce_w15 4 rfl) (ce_w15 5 rfl) (ce_w13 25 rfl) (ce_w15 3 rfl), by decide +kernel, by decide⟩
theorem ceG_M254 (ca : Nat → ClassId) (D : va_G) : zGV (zCe ca D) ce_RM 254 ce_RH ceY_H_holderOf (.code ceY_H_holderOf prog_4_method_7_code 6 (some .int)) 2 6 := ⟨ce_GV (ce_w15 6 rfl) (ce_w15 8 rfl) (ce_w15 9 rfl) (ce_w11 33 rfl) (ce_w15 7 rfl), by decide +kernel, by decide⟩
theorem ceG_M266 (ca : Nat → ClassId) (D : va_G) : zGV (zCe ca D) ce_RM 266 ce_RT ceY_T_meetRead (.code ceY_T_meetRead prog_10_method_3_code 4 none) 3 4 := ⟨ce_GV (ce_w15 10 rfl) (ce_w15 12 rfl) (ce_w15 13 rfl) (ce_w13 7 rfl) (ce_w15 11 rfl), by decide +kernel, by decide⟩
theorem ceG_M273 (ca : Nat → ClassId) (D : va_G) : zGV (zCe ca D) ce_RM 273 ce_RH ceY_H_find (.code ceY_H_find prog_4_method_6_code 6 (some .int)) 2 6 := ⟨ce_GV (ce_w15 14 rfl) (ce_w11 38 rfl) (ce_w11 39 rfl) (ce_w11 33 rfl) (ce_w11 37 rfl), by decide +kernel, by decide⟩
theorem ceG_M269 (ca : Nat → ClassId) (D : va_G) : zGV (zCe ca D) ce_RM 269 ce_RT ceY_T_guessed (.code ceY_T_guessed prog_10_method_13_code 4 (some .boolean)) 2 4 := ⟨ce_GV (ce_w15 15 rfl) (ce_w15 17 rfl) (ce_w15 18 rfl) (ce_w13 7 rfl) (ce_w15 16 rfl), by decide +kernel, by decide⟩
theorem ceG_T79 (ca : Nat → ClassId) (D : va_G) : zGV (zCe ca D) ce_RT 79 ce_RS ceY_S_parentOf (.code ceY_S_parentOf prog_9_method_5_code 2 (some .int)) 1 2 := ⟨ce_GV (ce_w15 19 rfl) (ce_w15 21 rfl) (ce_w15 22 rfl) (ce_w11 10 rfl) (ce_w15 20 rfl), by decide +kernel, by decide⟩
theorem ceG_T83 (ca : Nat → ClassId) (D : va_G) : zGV (zCe ca D) ce_RT 83 ce_RH ceY_H_isOnLine (.code ceY_H_isOnLine prog_4_method_5_code 3 (some .boolean)) 2 3 := ⟨ce_GV (ce_w15 23 rfl) (ce_w15 25 rfl) (ce_w15 26 rfl) (ce_w11 33 rfl) (ce_w15 24 rfl), by decide +kernel, by decide⟩
theorem ceG_T69 (ca : Nat → ClassId) (D : va_G) : zGV (zCe ca D) ce_RT 69 ce_RS ceY_S_isParent (.code ceY_S_isParent prog_9_method_4_code 2 (some .boolean)) 1 2 := ⟨ce_GV (ce_w15 27 rfl) (ce_w15 29 rfl) (ce_w15 30 rfl) (ce_w11 10 rfl) (ce_w15 28 rfl), by decide +kernel, by decide⟩
theorem ceG_T75 (ca : Nat → ClassId) (D : va_G) : zGV (zCe ca D) ce_RT 75 ce_RT ceY_T_isOnWay (.code ceY_T_isOnWay prog_10_method_11_code 5 (some .boolean)) 3 5 := ⟨ce_GV (ce_w15 31 rfl) (ce_w15 33 rfl) (ce_w15 34 rfl) (ce_w13 7 rfl) (ce_w15 32 rfl), by decide +kernel, by decide⟩
theorem ceG_M279 (ca : Nat → ClassId) (D : va_G) : zGV (zCe ca D) ce_RM 279 ce_RT ceY_T_meetPut (.code ceY_T_meetPut prog_10_method_4_code 3 none) 2 3 := ⟨ce_GV (ce_w15 35 rfl) (ce_w15 37 rfl) (ce_w15 38 rfl) (ce_w13 7 rfl) (ce_w15 36 rfl), by decide +kernel, by decide⟩
theorem ceG_M284 (ca : Nat → ClassId) (D : va_G) : zGV (zCe ca D) ce_RM 284 ce_RT ceY_T_breakWays (.code ceY_T_breakWays prog_10_method_10_code 8 none) 3 8 := ⟨ce_GV (ce_w15 39 rfl) (ce_w16 1 rfl) (ce_w16 2 rfl) (ce_w13 7 rfl) (ce_w16 0 rfl), by decide +kernel, by decide⟩
theorem ceG_M288 (ca : Nat → ClassId) (D : va_G) : zGV (zCe ca D) ce_RM 288 ce_RH ceY_H_give (.code ceY_H_give prog_4_method_9_code 8 none) 4 8 := ⟨ce_GV (ce_w16 3 rfl) (ce_w16 5 rfl) (ce_w16 6 rfl) (ce_w11 33 rfl) (ce_w16 4 rfl), by decide +kernel, by decide⟩
theorem ceG_M292 (ca : Nat → ClassId) (D : va_G) : zGV (zCe ca D) ce_RM 292 ce_RT ceY_T_meetStrike (.code ceY_T_meetStrike prog_10_method_5_code 2 none) 1 2 := ⟨ce_GV (ce_w16 7 rfl) (ce_w16 9 rfl) (ce_w16 10 rfl) (ce_w13 7 rfl) (ce_w16 8 rfl), by decide +kernel, by decide⟩
theorem ceG_M295 (ca : Nat → ClassId) (D : va_G) : zGV (zCe ca D) ce_RM 295 ce_RH ceY_H_strike (.code ceY_H_strike prog_4_method_13_code 7 none) 2 7 := ⟨ce_GV (ce_w16 11 rfl) (ce_w16 13 rfl) (ce_w16 14 rfl) (ce_w11 33 rfl) (ce_w16 12 rfl), by decide +kernel, by decide⟩
theorem ceG_R40 (ca : Nat → ClassId) (D : va_G) : zGV (zCe ca D) ce_RR 40 ce_RV ceY_V_set (.code ceY_V_set prog_11_method_2_code 5 none) 3 5 := ⟨ce_GV (ce_w16 15 rfl) (ce_w12 29 rfl) (ce_w12 30 rfl) (ce_w12 16 rfl) (ce_w12 28 rfl), by decide +kernel, by decide⟩
theorem ceG_M312 (ca : Nat → ClassId) (D : va_G) : zGV (zCe ca D) ce_RM 312 ce_RR ceY_R_addRow (.code ceY_R_addRow prog_8_method_4_code 3 (some .int)) 1 3 := ⟨ce_GV (ce_w16 16 rfl) (ce_w16 18 rfl) (ce_w16 19 rfl) (ce_w13 2 rfl) (ce_w16 17 rfl), by decide +kernel, by decide⟩
theorem ceG_R44 (ca : Nat → ClassId) (D : va_G) : zGV (zCe ca D) ce_RR 44 ce_RR ceY_R_isRow (.code ceY_R_isRow prog_8_method_3_code 2 (some .boolean)) 1 2 := ⟨ce_GV (ce_w16 20 rfl) (ce_w16 22 rfl) (ce_w16 23 rfl) (ce_w13 2 rfl) (ce_w16 21 rfl), by decide +kernel, by decide⟩
theorem ceG_M325 (ca : Nat → ClassId) (D : va_G) : zGV (zCe ca D) ce_RM 325 ce_RR ceY_R_placeOf (.code ceY_R_placeOf prog_8_method_5_code 4 (some .int)) 2 4 := ⟨ce_GV (ce_w16 24 rfl) (ce_w16 26 rfl) (ce_w16 27 rfl) (ce_w13 2 rfl) (ce_w16 25 rfl), by decide +kernel, by decide⟩
theorem ceG_M315 (ca : Nat → ClassId) (D : va_G) : zGV (zCe ca D) ce_RM 315 ce_RM ceY_M_itemAt (.code ceY_M_itemAt prog_6_method_27_code 3 (some .int)) 1 3 := ⟨ce_GV (ce_w16 28 rfl) (ce_w16 30 rfl) (ce_w16 31 rfl) (ce_w13 25 rfl) (ce_w16 29 rfl), by decide +kernel, by decide⟩
theorem ceG_R48 (ca : Nat → ClassId) (D : va_G) : zGS (zCe ca D) ce_RR 48 ceY_R_neededFor (.code ceY_R_neededFor prog_8_method_7_code 3 (some .int)) 2 3 := ⟨ce_GS (ce_w16 32 rfl) (ce_w16 34 rfl) (ce_w13 2 rfl) (ce_w16 33 rfl), by decide +kernel, by decide⟩
theorem ceG_M321 (ca : Nat → ClassId) (D : va_G) : zGV (zCe ca D) ce_RM 321 ce_RR ceY_R_putAt (.code ceY_R_putAt prog_8_method_6_code 7 none) 4 7 := ⟨ce_GV (ce_w16 35 rfl) (ce_w16 37 rfl) (ce_w16 38 rfl) (ce_w13 2 rfl) (ce_w16 36 rfl), by decide +kernel, by decide⟩
theorem ceG_M328 (ca : Nat → ClassId) (D : va_G) : zGV (zCe ca D) ce_RM 328 ce_RR ceY_R_isRow (.code ceY_R_isRow prog_8_method_3_code 2 (some .boolean)) 1 2 := ⟨ce_GV (ce_w16 39 rfl) (ce_w16 22 rfl) (ce_w16 23 rfl) (ce_w13 2 rfl) (ce_w16 21 rfl), by decide +kernel, by decide⟩
theorem ceG_T98 (ca : Nat → ClassId) (D : va_G) : zGV (zCe ca D) ce_RT 98 ce_RT ceY_T_guessShapes (.code ceY_T_guessShapes prog_10_method_15_code 3 none) 1 3 := ⟨ce_GV (ce_w17 0 rfl) (ce_w17 2 rfl) (ce_w17 3 rfl) (ce_w13 7 rfl) (ce_w17 1 rfl), by decide +kernel, by decide⟩
theorem ceG_M129 (ca : Nat → ClassId) (D : va_G) : zGV (zCe ca D) ce_RM 129 ce_RM ceY_M_takeStep (.code ceY_M_takeStep prog_6_method_6_code 1 (some .boolean)) 0 1 := ⟨ce_GV (ce_w17 4 rfl) (ce_w17 6 rfl) (ce_w17 7 rfl) (ce_w13 25 rfl) (ce_w17 5 rfl), by decide +kernel, by decide⟩
theorem ceG_M335 (ca : Nat → ClassId) (D : va_G) : zGV (zCe ca D) ce_RM 335 ce_RF ceY_F_makes (.code ceY_F_makes prog_3_method_4_code 2 (some .boolean)) 1 2 := ⟨ce_GV (ce_w17 8 rfl) (ce_w17 10 rfl) (ce_w17 11 rfl) (ce_w11 4 rfl) (ce_w17 9 rfl), by decide +kernel, by decide⟩
theorem ceG_M107 (ca : Nat → ClassId) (D : va_G) : zGV (zCe ca D) ce_RM 107 ce_RM ceY_M_clearVariables (.code ceY_M_clearVariables prog_6_method_12_code 2 none) 0 2 := ⟨ce_GV (ce_w17 12 rfl) (ce_w17 14 rfl) (ce_w17 15 rfl) (ce_w13 25 rfl) (ce_w17 13 rfl), by decide +kernel, by decide⟩
theorem ceG_M338 (ca : Nat → ClassId) (D : va_G) : zGV (zCe ca D) ce_RM 338 ce_RT ceY_T_takeGuesses (.code ceY_T_takeGuesses prog_10_method_14_code 4 none) 2 4 := ⟨ce_GV (ce_w17 16 rfl) (ce_w17 18 rfl) (ce_w17 19 rfl) (ce_w13 7 rfl) (ce_w17 17 rfl), by decide +kernel, by decide⟩
theorem ceG_M137 (ca : Nat → ClassId) (D : va_G) : zGV (zCe ca D) ce_RM 137 ce_RM ceY_M_fetch (.code ceY_M_fetch prog_6_method_10_code 2 none) 1 2 := ⟨ce_GV (ce_w17 20 rfl) (ce_w17 22 rfl) (ce_w17 23 rfl) (ce_w13 25 rfl) (ce_w17 21 rfl), by decide +kernel, by decide⟩
theorem ceG_M141 (ca : Nat → ClassId) (D : va_G) : zGV (zCe ca D) ce_RM 141 ce_RM ceY_M_store (.code ceY_M_store prog_6_method_11_code 2 none) 1 2 := ⟨ce_GV (ce_w17 24 rfl) (ce_w17 26 rfl) (ce_w17 27 rfl) (ce_w13 25 rfl) (ce_w17 25 rfl), by decide +kernel, by decide⟩
theorem ceG_M144 (ca : Nat → ClassId) (D : va_G) : zGV (zCe ca D) ce_RM 144 ce_RM ceY_M_negate (.code ceY_M_negate prog_6_method_13_code 2 none) 1 2 := ⟨ce_GV (ce_w17 28 rfl) (ce_w17 30 rfl) (ce_w17 31 rfl) (ce_w13 25 rfl) (ce_w17 29 rfl), by decide +kernel, by decide⟩
theorem ceG_M147 (ca : Nat → ClassId) (D : va_G) : zGV (zCe ca D) ce_RM 147 ce_RM ceY_M_calculate (.code ceY_M_calculate prog_6_method_14_code 7 none) 3 7 := ⟨ce_GV (ce_w17 32 rfl) (ce_w17 34 rfl) (ce_w17 35 rfl) (ce_w13 25 rfl) (ce_w17 33 rfl), by decide +kernel, by decide⟩
theorem ceG_M151 (ca : Nat → ClassId) (D : va_G) : zGV (zCe ca D) ce_RM 151 ce_RM ceY_M_compare (.code ceY_M_compare prog_6_method_16_code 2 none) 1 2 := ⟨ce_GV (ce_w17 36 rfl) (ce_w17 38 rfl) (ce_w17 39 rfl) (ce_w13 25 rfl) (ce_w17 37 rfl), by decide +kernel, by decide⟩
theorem ceG_M154 (ca : Nat → ClassId) (D : va_G) : zGV (zCe ca D) ce_RM 154 ce_RM ceY_M_equate (.code ceY_M_equate prog_6_method_17_code 2 none) 0 2 := ⟨ce_GV (ce_w18 0 rfl) (ce_w18 2 rfl) (ce_w18 3 rfl) (ce_w13 25 rfl) (ce_w18 1 rfl), by decide +kernel, by decide⟩
theorem ceG_M157 (ca : Nat → ClassId) (D : va_G) : zGV (zCe ca D) ce_RM 157 ce_RM ceY_M_makeObject (.code ceY_M_makeObject prog_6_method_18_code 4 none) 1 4 := ⟨ce_GV (ce_w18 4 rfl) (ce_w18 6 rfl) (ce_w18 7 rfl) (ce_w13 25 rfl) (ce_w18 5 rfl), by decide +kernel, by decide⟩
theorem ceG_M160 (ca : Nat → ClassId) (D : va_G) : zGV (zCe ca D) ce_RM 160 ce_RM ceY_M_getMember (.code ceY_M_getMember prog_6_method_20_code 9 none) 2 9 := ⟨ce_GV (ce_w18 8 rfl) (ce_w18 10 rfl) (ce_w18 11 rfl) (ce_w13 25 rfl) (ce_w18 9 rfl), by decide +kernel, by decide⟩
theorem ceG_M163 (ca : Nat → ClassId) (D : va_G) : zGV (zCe ca D) ce_RM 163 ce_RM ceY_M_putMember (.code ceY_M_putMember prog_6_method_21_code 4 none) 2 4 := ⟨ce_GV (ce_w18 12 rfl) (ce_w18 14 rfl) (ce_w18 15 rfl) (ce_w13 25 rfl) (ce_w18 13 rfl), by decide +kernel, by decide⟩
theorem ceG_M166 (ca : Nat → ClassId) (D : va_G) : zGV (zCe ca D) ce_RM 166 ce_RM ceY_M_strikeMember (.code ceY_M_strikeMember prog_6_method_22_code 4 none) 2 4 := ⟨ce_GV (ce_w18 16 rfl) (ce_w18 18 rfl) (ce_w18 19 rfl) (ce_w13 25 rfl) (ce_w18 17 rfl), by decide +kernel, by decide⟩
theorem ceG_M169 (ca : Nat → ClassId) (D : va_G) : zGV (zCe ca D) ce_RM 169 ce_RM ceY_M_makeRow (.code ceY_M_makeRow prog_6_method_24_code 5 none) 1 5 := ⟨ce_GV (ce_w18 20 rfl) (ce_w18 22 rfl) (ce_w18 23 rfl) (ce_w13 25 rfl) (ce_w18 21 rfl), by decide +kernel, by decide⟩
theorem ceG_M172 (ca : Nat → ClassId) (D : va_G) : zGV (zCe ca D) ce_RM 172 ce_RM ceY_M_getItem (.code ceY_M_getItem prog_6_method_25_code 3 none) 1 3 := ⟨ce_GV (ce_w18 24 rfl) (ce_w18 26 rfl) (ce_w18 27 rfl) (ce_w13 25 rfl) (ce_w18 25 rfl), by decide +kernel, by decide⟩
theorem ceG_M175 (ca : Nat → ClassId) (D : va_G) : zGV (zCe ca D) ce_RM 175 ce_RM ceY_M_putItem (.code ceY_M_putItem prog_6_method_26_code 3 none) 1 3 := ⟨ce_GV (ce_w18 28 rfl) (ce_w18 30 rfl) (ce_w18 31 rfl) (ce_w13 25 rfl) (ce_w18 29 rfl), by decide +kernel, by decide⟩
theorem ceG_M178 (ca : Nat → ClassId) (D : va_G) : zGV (zCe ca D) ce_RM 178 ce_RM ceY_M_measure (.code ceY_M_measure prog_6_method_28_code 4 none) 1 4 := ⟨ce_GV (ce_w18 32 rfl) (ce_w18 34 rfl) (ce_w18 35 rfl) (ce_w13 25 rfl) (ce_w18 33 rfl), by decide +kernel, by decide⟩
theorem ceG_M181 (ca : Nat → ClassId) (D : va_G) : zGV (zCe ca D) ce_RM 181 ce_RM ceY_M_enter (.code ceY_M_enter prog_6_method_29_code 4 none) 2 4 := ⟨ce_GV (ce_w18 36 rfl) (ce_w18 38 rfl) (ce_w18 39 rfl) (ce_w13 25 rfl) (ce_w18 37 rfl), by decide +kernel, by decide⟩
theorem ceG_M184 (ca : Nat → ClassId) (D : va_G) : zGV (zCe ca D) ce_RM 184 ce_RM ceY_M_leave (.code ceY_M_leave prog_6_method_30_code 1 none) 0 1 := ⟨ce_GV (ce_w19 0 rfl) (ce_w19 2 rfl) (ce_w19 3 rfl) (ce_w13 25 rfl) (ce_w19 1 rfl), by decide +kernel, by decide⟩
theorem ceG_M187 (ca : Nat → ClassId) (D : va_G) : zGV (zCe ca D) ce_RM 187 ce_RM ceY_M_print (.code ceY_M_print prog_6_method_31_code 1 none) 0 1 := ⟨ce_GV (ce_w19 4 rfl) (ce_w19 6 rfl) (ce_w19 7 rfl) (ce_w13 25 rfl) (ce_w19 5 rfl), by decide +kernel, by decide⟩
theorem ceG_M190 (ca : Nat → ClassId) (D : va_G) : zGV (zCe ca D) ce_RM 190 ce_RM ceY_M_branch (.code ceY_M_branch prog_6_method_32_code 3 none) 2 3 := ⟨ce_GV (ce_w19 8 rfl) (ce_w19 10 rfl) (ce_w19 11 rfl) (ce_w13 25 rfl) (ce_w19 9 rfl), by decide +kernel, by decide⟩
theorem ceG_M112 (ca : Nat → ClassId) (D : va_G) : zGV (zCe ca D) ce_RM 112 ce_RM ceY_M_perform (.code ceY_M_perform prog_6_method_4_code 4 none) 0 4 := ⟨ce_GV (ce_w19 12 rfl) (ce_w19 14 rfl) (ce_w19 15 rfl) (ce_w13 25 rfl) (ce_w19 13 rfl), by decide +kernel, by decide⟩
theorem ceG_V49 (ca : Nat → ClassId) (D : va_G) : zGV (zCe ca D) ce_RV 49 ce_RV ceY_V_isNumberAt (.code ceY_V_isNumberAt prog_11_method_6_code 3 (some .boolean)) 1 3 := ⟨ce_GV (ce_w19 16 rfl) (ce_w13 34 rfl) (ce_w13 35 rfl) (ce_w12 16 rfl) (ce_w13 33 rfl), by decide +kernel, by decide⟩
theorem ceG_V53 (ca : Nat → ClassId) (D : va_G) : zGV (zCe ca D) ce_RV 53 ce_RV ceY_V_numberAt (.code ceY_V_numberAt prog_11_method_5_code 2 (some .long)) 1 2 := ⟨ce_GV (ce_w19 17 rfl) (ce_w13 21 rfl) (ce_w13 22 rfl) (ce_w12 16 rfl) (ce_w13 20 rfl), by decide +kernel, by decide⟩
theorem ceG_E45 (ca : Nat → ClassId) (D : va_G) : zGV (zCe ca D) ce_RE 45 ce_RC ceY_C_compile (.code ceY_C_compile prog_2_method_2_code 5 none) 3 5 := ⟨ce_GV (ce_w19 18 rfl) (ce_w19 20 rfl) (ce_w19 21 rfl) (ce_w6 16 rfl) (ce_w19 19 rfl), by decide +kernel, by decide⟩
theorem ceG_E37 (ca : Nat → ClassId) (D : va_G) : zGV (zCe ca D) ce_RE 37 ce_RM ceY_M_load (.code ceY_M_load prog_6_method_2_code 2 none) 1 2 := ⟨ce_GV (ce_w19 22 rfl) (ce_w19 24 rfl) (ce_w19 25 rfl) (ce_w13 25 rfl) (ce_w19 23 rfl), by decide +kernel, by decide⟩
theorem ceG_E62 (ca : Nat → ClassId) (D : va_G) : zGV (zCe ca D) ce_RE 62 ce_RM ceY_M_execute (.code ceY_M_execute prog_6_method_3_code 6 (some .int)) 1 6 := ⟨ce_GV (ce_w19 26 rfl) (ce_w19 28 rfl) (ce_w19 29 rfl) (ce_w13 25 rfl) (ce_w19 27 rfl), by decide +kernel, by decide⟩
theorem ceG_E66 (ca : Nat → ClassId) (D : va_G) : zGV (zCe ca D) ce_RE 66 ce_RM ceY_M_tellOfRun (.code ceY_M_tellOfRun prog_6_method_34_code 2 (some .int)) 1 2 := ⟨ce_GV (ce_w19 30 rfl) (ce_w19 32 rfl) (ce_w19 33 rfl) (ce_w13 25 rfl) (ce_w19 31 rfl), by decide +kernel, by decide⟩
theorem ceG_E69 (ca : Nat → ClassId) (D : va_G) : zGV (zCe ca D) ce_RE 69 ce_RM ceY_M_tellOfCaches (.code ceY_M_tellOfCaches prog_6_method_35_code 2 (some .int)) 1 2 := ⟨ce_GV (ce_w19 34 rfl) (ce_w19 36 rfl) (ce_w19 37 rfl) (ce_w13 25 rfl) (ce_w19 35 rfl), by decide +kernel, by decide⟩
theorem ceG_E72 (ca : Nat → ClassId) (D : va_G) : zGV (zCe ca D) ce_RE 72 ce_RM ceY_M_keptOnPaper (.code ceY_M_keptOnPaper prog_6_method_33_code 1 (some .int)) 0 1 := ⟨ce_GV (ce_w19 38 rfl) (ce_w20 0 rfl) (ce_w20 1 rfl) (ce_w13 25 rfl) (ce_w19 39 rfl), by decide +kernel, by decide⟩
theorem ceG_E80 (ca : Nat → ClassId) (D : va_G) : zGV (zCe ca D) ce_RE 80 ce_RV ceY_V_sortAt (.code ceY_V_sortAt prog_11_method_4_code 2 (some .int)) 1 2 := ⟨ce_GV (ce_w20 2 rfl) (ce_w13 17 rfl) (ce_w13 18 rfl) (ce_w12 16 rfl) (ce_w13 16 rfl), by decide +kernel, by decide⟩
theorem ceG_E85 (ca : Nat → ClassId) (D : va_G) : zGV (zCe ca D) ce_RE 85 ce_RV ceY_V_referenceAt (.code ceY_V_referenceAt prog_11_method_8_code 2 (some .int)) 1 2 := ⟨ce_GV (ce_w20 3 rfl) (ce_w20 5 rfl) (ce_w20 6 rfl) (ce_w12 16 rfl) (ce_w20 4 rfl), by decide +kernel, by decide⟩
theorem ceG_E88 (ca : Nat → ClassId) (D : va_G) : zGV (zCe ca D) ce_RE 88 ce_RV ceY_V_worthAt (.code ceY_V_worthAt prog_11_method_7_code 2 (some .long)) 1 2 := ⟨ce_GV (ce_w20 7 rfl) (ce_w20 9 rfl) (ce_w20 10 rfl) (ce_w12 16 rfl) (ce_w20 8 rfl), by decide +kernel, by decide⟩
theorem ceG_E96 (ca : Nat → ClassId) (D : va_G) : zGV (zCe ca D) ce_RE 96 ce_RH ceY_H_isObject (.code ceY_H_isObject prog_4_method_3_code 2 (some .boolean)) 1 2 := ⟨ce_GV (ce_w20 11 rfl) (ce_w11 34 rfl) (ce_w11 35 rfl) (ce_w11 33 rfl) (ce_w11 32 rfl), by decide +kernel, by decide⟩
theorem ceG_E112 (ca : Nat → ClassId) (D : va_G) : zGV (zCe ca D) ce_RE 112 ce_RH ceY_H_cellAt (.code ceY_H_cellAt prog_4_method_8_code 5 (some .int)) 2 5 := ⟨ce_GV (ce_w20 12 rfl) (ce_w20 14 rfl) (ce_w20 15 rfl) (ce_w11 33 rfl) (ce_w20 13 rfl), by decide +kernel, by decide⟩
theorem ceG_E127 (ca : Nat → ClassId) (D : va_G) : zGV (zCe ca D) ce_RE 127 ce_RR ceY_R_isRow (.code ceY_R_isRow prog_8_method_3_code 2 (some .boolean)) 1 2 := ⟨ce_GV (ce_w20 16 rfl) (ce_w16 22 rfl) (ce_w16 23 rfl) (ce_w13 2 rfl) (ce_w16 21 rfl), by decide +kernel, by decide⟩
theorem ceG_E136 (ca : Nat → ClassId) (D : va_G) : zGV (zCe ca D) ce_RE 136 ce_RR ceY_R_placeOf (.code ceY_R_placeOf prog_8_method_5_code 4 (some .int)) 2 4 := ⟨ce_GV (ce_w20 17 rfl) (ce_w16 26 rfl) (ce_w16 27 rfl) (ce_w13 2 rfl) (ce_w16 25 rfl), by decide +kernel, by decide⟩
theorem ceG_E147 (ca : Nat → ClassId) (D : va_G) : zGV (zCe ca D) ce_RE 147 ce_RS ceY_S_isShape (.code ceY_S_isShape prog_9_method_3_code 2 (some .boolean)) 1 2 := ⟨ce_GV (ce_w20 18 rfl) (ce_w12 8 rfl) (ce_w12 9 rfl) (ce_w11 10 rfl) (ce_w12 7 rfl), by decide +kernel, by decide⟩
theorem ceG_E162 (ca : Nat → ClassId) (D : va_G) : zGV (zCe ca D) ce_RE 162 ce_RP ceY_P_isSite (.code ceY_P_isSite prog_7_method_7_code 2 (some .boolean)) 1 2 := ⟨ce_GV (ce_w20 19 rfl) (ce_w9 12 rfl) (ce_w9 13 rfl) (ce_w5 19 rfl) (ce_w9 11 rfl), by decide +kernel, by decide⟩
theorem ceG_E192 (ca : Nat → ClassId) (D : va_G) : zGV (zCe ca D) ce_RE 192 ce_RT ceY_T_hasGuess (.code ceY_T_hasGuess prog_10_method_12_code 2 (some .boolean)) 1 2 := ⟨ce_GV (ce_w20 20 rfl) (ce_w14 23 rfl) (ce_w14 24 rfl) (ce_w13 7 rfl) (ce_w14 22 rfl), by decide +kernel, by decide⟩
theorem ceG_E195 (ca : Nat → ClassId) (D : va_G) : zGV (zCe ca D) ce_RE 195 ce_RT ceY_T_entryAt (.code ceY_T_entryAt prog_10_method_9_code 3 (some .int)) 2 3 := ⟨ce_GV (ce_w20 21 rfl) (ce_w20 23 rfl) (ce_w20 24 rfl) (ce_w13 7 rfl) (ce_w20 22 rfl), by decide +kernel, by decide⟩
theorem ceG_E198 (ca : Nat → ClassId) (D : va_G) : zGV (zCe ca D) ce_RE 198 ce_RP ceY_P_isFn (.code ceY_P_isFn prog_7_method_9_code 2 (some .boolean)) 1 2 := ⟨ce_GV (ce_w20 25 rfl) (ce_w6 25 rfl) (ce_w6 26 rfl) (ce_w5 19 rfl) (ce_w6 24 rfl), by decide +kernel, by decide⟩
theorem ceG_E225 (ca : Nat → ClassId) (D : va_G) : zGV (zCe ca D) ce_RE 225 ce_RF ceY_F_isCold (.code ceY_F_isCold prog_3_method_3_code 2 (some .boolean)) 1 2 := ⟨ce_GV (ce_w20 26 rfl) (ce_w11 5 rfl) (ce_w11 6 rfl) (ce_w11 4 rfl) (ce_w11 3 rfl), by decide +kernel, by decide⟩
