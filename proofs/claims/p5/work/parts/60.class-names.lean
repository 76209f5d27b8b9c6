/-! the class's own classes: their fields -/
def R_H : String := "MailHouse"
def Fl_H : List (String × String × String × Bool) := [("MailHouse", "atoms", "LMailHouse$Words;", true), ("MailHouse", "tokens", "LMailHouse$Tokens;", true), ("MailHouse", "code", "LMailHouse$Code;", true), ("MailHouse", "parser", "LMailHouse$Parser;", true), ("MailHouse", "compiler", "LMailHouse$Compiler;", true), ("MailHouse", "terms", "LMailHouse$Terms;", true), ("MailHouse", "world", "LMailHouse$World;", true), ("MailHouse", "machine", "LMailHouse$Machine;", true), ("MailHouse", "shownSigns", "[B", true), ("MailHouse", "shownLength", "I", false), ("MailHouse", "programmed", "Z", false)]
def F_H : u_T := fun k => Fl_H.getD k ("", "", "", false)
def tl_H : List FieldType := [(.object "MailHouse$Words"), (.object "MailHouse$Tokens"), (.object "MailHouse$Code"), (.object "MailHouse$Parser"), (.object "MailHouse$Compiler"), (.object "MailHouse$Terms"), (.object "MailHouse$World"), (.object "MailHouse$Machine"), (.array .byte), .int, .boolean]
def t_H : Nat → FieldType := fun k => tl_H.getD k .int
theorem n_H : ∀ a, a < 11 → ∀ b, b < 11 → a ≠ b → (F_H a).2.1 ≠ (F_H b).2.1 := by decide +kernel
theorem t_H_ok : ∀ k, k < 11 → parseFieldDescriptor (F_H k).2.2.1 = some (t_H k) := by decide +kernel
theorem i_H : ∀ w ∈ u_ws R_H F_H 11, w ∈ wd_tbl := wd_mem _ [780, 782, 784, 786, 788, 790, 792, 794, 796, 798, 800] (by decide +kernel) (by decide +kernel)
theorem f1_H : ∀ k, k < 11 → (F_H k).1 = R_H := by decide +kernel
def R_Co : String := "MailHouse$Code"
def Fl_Co : List (String × String × String × Bool) := [("MailHouse$Code", "row", "[I", true), ("MailHouse$Code", "size", "I", false), ("MailHouse$Code", "functions", "I", false), ("MailHouse$Code", "atom", "[I", true), ("MailHouse$Code", "arity", "[I", true), ("MailHouse$Code", "line", "[I", true), ("MailHouse$Code", "first", "[I", true), ("MailHouse$Code", "clauses", "[I", true), ("MailHouse$Code", "entry", "[I", true), ("MailHouse$Code", "places", "I", false), ("MailHouse$Code", "placeArity", "[I", true), ("MailHouse$Code", "placeEntry", "[I", true), ("MailHouse$Code", "placeHeld", "[I", true)]
def F_Co : u_T := fun k => Fl_Co.getD k ("", "", "", false)
def tl_Co : List FieldType := [(.array .int), .int, .int, (.array .int), (.array .int), (.array .int), (.array .int), (.array .int), (.array .int), .int, (.array .int), (.array .int), (.array .int)]
def t_Co : Nat → FieldType := fun k => tl_Co.getD k .int
theorem n_Co : ∀ a, a < 13 → ∀ b, b < 13 → a ≠ b → (F_Co a).2.1 ≠ (F_Co b).2.1 := by decide +kernel
theorem t_Co_ok : ∀ k, k < 13 → parseFieldDescriptor (F_Co k).2.2.1 = some (t_Co k) := by decide +kernel
theorem i_Co : ∀ w ∈ u_ws R_Co F_Co 13, w ∈ wd_tbl := wd_mem _ [502, 504, 506, 508, 510, 512, 514, 516, 518, 520, 522, 524, 526] (by decide +kernel) (by decide +kernel)
theorem f1_Co : ∀ k, k < 13 → (F_Co k).1 = R_Co := by decide +kernel
def R_Cm : String := "MailHouse$Compiler"
def Fl_Cm : List (String × String × String × Bool) := [("MailHouse$Compiler", "tokens", "LMailHouse$Tokens;", true), ("MailHouse$Compiler", "tree", "LMailHouse$Tree;", true), ("MailHouse$Compiler", "code", "LMailHouse$Code;", true), ("MailHouse$Compiler", "atoms", "LMailHouse$Words;", true), ("MailHouse$Compiler", "predefined", "LMailHouse$Words;", true), ("MailHouse$Compiler", "bound", "[I", true), ("MailHouse$Compiler", "top", "I", false), ("MailHouse$Compiler", "base", "[I", true), ("MailHouse$Compiler", "most", "[I", true), ("MailHouse$Compiler", "level", "I", false), ("MailHouse$Compiler", "where", "[I", true), ("MailHouse$Compiler", "crowded", "Z", false), ("MailHouse$Compiler", "inGuard", "Z", false), ("MailHouse$Compiler", "anew", "Z", false), ("MailHouse$Compiler", "firstFault", "I", false)]
def F_Cm : u_T := fun k => Fl_Cm.getD k ("", "", "", false)
def tl_Cm : List FieldType := [(.object "MailHouse$Tokens"), (.object "MailHouse$Tree"), (.object "MailHouse$Code"), (.object "MailHouse$Words"), (.object "MailHouse$Words"), (.array .int), .int, (.array .int), (.array .int), .int, (.array .int), .boolean, .boolean, .boolean, .int]
def t_Cm : Nat → FieldType := fun k => tl_Cm.getD k .int
theorem n_Cm : ∀ a, a < 15 → ∀ b, b < 15 → a ≠ b → (F_Cm a).2.1 ≠ (F_Cm b).2.1 := by decide +kernel
theorem t_Cm_ok : ∀ k, k < 15 → parseFieldDescriptor (F_Cm k).2.2.1 = some (t_Cm k) := by decide +kernel
theorem i_Cm : ∀ w ∈ u_ws R_Cm F_Cm 15, w ∈ wd_tbl := wd_mem _ [584, 586, 588, 590, 592, 594, 596, 598, 600, 602, 604, 606, 608, 610, 612] (by decide +kernel) (by decide +kernel)
theorem f1_Cm : ∀ k, k < 15 → (F_Cm k).1 = R_Cm := by decide +kernel
def R_Fr : String := "MailHouse$Frames"
def Fl_Fr : List (String × String × String × Bool) := [("MailHouse$Frames", "rows", "[I", true), ("MailHouse$Frames", "count", "I", false), ("MailHouse$Frames", "names", "[I", false), ("MailHouse$Frames", "terms", "[J", false), ("MailHouse$Frames", "bound", "I", false), ("MailHouse$Frames", "waits", "[J", false), ("MailHouse$Frames", "waiting", "I", false), ("MailHouse$Frames", "catches", "[I", false), ("MailHouse$Frames", "caught", "I", false), ("MailHouse$Frames", "callLine", "I", false)]
def F_Fr : u_T := fun k => Fl_Fr.getD k ("", "", "", false)
def tl_Fr : List FieldType := [(.array .int), .int, (.array .int), (.array .long), .int, (.array .long), .int, (.array .int), .int, .int]
def t_Fr : Nat → FieldType := fun k => tl_Fr.getD k .int
theorem n_Fr : ∀ a, a < 10 → ∀ b, b < 10 → a ≠ b → (F_Fr a).2.1 ≠ (F_Fr b).2.1 := by decide +kernel
theorem t_Fr_ok : ∀ k, k < 10 → parseFieldDescriptor (F_Fr k).2.2.1 = some (t_Fr k) := by decide +kernel
theorem i_Fr : ∀ w ∈ u_ws R_Fr F_Fr 10, w ∈ wd_tbl := wd_mem _ [1493, 1495, 1497, 1499, 1501, 1503, 1505, 1507, 1509, 1511] (by decide +kernel) (by decide +kernel)
theorem f1_Fr : ∀ k, k < 10 → (F_Fr k).1 = R_Fr := by decide +kernel
def R_Ma : String := "MailHouse$Machine"
def Fl_Ma : List (String × String × String × Bool) := [("MailHouse$Machine", "code", "LMailHouse$Code;", true), ("MailHouse$Machine", "world", "LMailHouse$World;", true), ("MailHouse$Machine", "terms", "LMailHouse$Terms;", true), ("MailHouse$Machine", "p", "LMailHouse$Process;", false), ("MailHouse$Machine", "frames", "LMailHouse$Frames;", false), ("MailHouse$Machine", "at", "I", false), ("MailHouse$Machine", "began", "I", false), ("MailHouse$Machine", "wanted", "I", false), ("MailHouse$Machine", "stopped", "Z", false), ("MailHouse$Machine", "told", "I", false), ("MailHouse$Machine", "toldTerm", "J", false), ("MailHouse$Machine", "toldAround", "I", false), ("MailHouse$Machine", "guard", "I", false), ("MailHouse$Machine", "guardNames", "I", false), ("MailHouse$Machine", "guardWaiting", "I", false)]
def F_Ma : u_T := fun k => Fl_Ma.getD k ("", "", "", false)
def tl_Ma : List FieldType := [(.object "MailHouse$Code"), (.object "MailHouse$World"), (.object "MailHouse$Terms"), (.object "MailHouse$Process"), (.object "MailHouse$Frames"), .int, .int, .int, .boolean, .int, .long, .int, .int, .int, .int]
def t_Ma : Nat → FieldType := fun k => tl_Ma.getD k .int
theorem n_Ma : ∀ a, a < 15 → ∀ b, b < 15 → a ≠ b → (F_Ma a).2.1 ≠ (F_Ma b).2.1 := by decide +kernel
theorem t_Ma_ok : ∀ k, k < 15 → parseFieldDescriptor (F_Ma k).2.2.1 = some (t_Ma k) := by decide +kernel
theorem i_Ma : ∀ w ∈ u_ws R_Ma F_Ma 15, w ∈ wd_tbl := wd_mem _ [738, 740, 742, 744, 746, 748, 750, 752, 754, 756, 758, 760, 762, 764, 766] (by decide +kernel) (by decide +kernel)
theorem f1_Ma : ∀ k, k < 15 → (F_Ma k).1 = R_Ma := by decide +kernel
def R_Pa : String := "MailHouse$Parser"
def Fl_Pa : List (String × String × String × Bool) := [("MailHouse$Parser", "tokens", "LMailHouse$Tokens;", true), ("MailHouse$Parser", "tree", "LMailHouse$Tree;", true), ("MailHouse$Parser", "code", "LMailHouse$Code;", true), ("MailHouse$Parser", "signs", "[I", true), ("MailHouse$Parser", "signTop", "I", false), ("MailHouse$Parser", "at", "I", false), ("MailHouse$Parser", "open", "I", false), ("MailHouse$Parser", "fault", "I", false)]
def F_Pa : u_T := fun k => Fl_Pa.getD k ("", "", "", false)
def tl_Pa : List FieldType := [(.object "MailHouse$Tokens"), (.object "MailHouse$Tree"), (.object "MailHouse$Code"), (.array .int), .int, .int, .int, .int]
def t_Pa : Nat → FieldType := fun k => tl_Pa.getD k .int
theorem n_Pa : ∀ a, a < 8 → ∀ b, b < 8 → a ≠ b → (F_Pa a).2.1 ≠ (F_Pa b).2.1 := by decide +kernel
theorem t_Pa_ok : ∀ k, k < 8 → parseFieldDescriptor (F_Pa k).2.2.1 = some (t_Pa k) := by decide +kernel
theorem i_Pa : ∀ w ∈ u_ws R_Pa F_Pa 8, w ∈ wd_tbl := wd_mem _ [543, 545, 547, 549, 551, 553, 555, 557] (by decide +kernel) (by decide +kernel)
theorem f1_Pa : ∀ k, k < 8 → (F_Pa k).1 = R_Pa := by decide +kernel
def R_Pr : String := "MailHouse$Process"
def Fl_Pr : List (String × String × String × Bool) := [("MailHouse$Process", "number", "I", true), ("MailHouse$Process", "frames", "LMailHouse$Frames;", true), ("MailHouse$Process", "cells", "[J", false), ("MailHouse$Process", "spare", "[J", false), ("MailHouse$Process", "used", "I", false), ("MailHouse$Process", "clearings", "I", false), ("MailHouse$Process", "box", "[J", true), ("MailHouse$Process", "boxed", "I", false), ("MailHouse$Process", "tried", "I", false), ("MailHouse$Process", "state", "I", false), ("MailHouse$Process", "until", "J", false), ("MailHouse$Process", "traps", "Z", false), ("MailHouse$Process", "name", "I", false), ("MailHouse$Process", "calls", "I", false), ("MailHouse$Process", "links", "[I", true), ("MailHouse$Process", "linked", "I", false), ("MailHouse$Process", "reason", "J", false), ("MailHouse$Process", "home", "LMailHouse$Process;", false)]
def F_Pr : u_T := fun k => Fl_Pr.getD k ("", "", "", false)
def tl_Pr : List FieldType := [.int, (.object "MailHouse$Frames"), (.array .long), (.array .long), .int, .int, (.array .long), .int, .int, .int, .long, .boolean, .int, .int, (.array .int), .int, .long, (.object "MailHouse$Process")]
def t_Pr : Nat → FieldType := fun k => tl_Pr.getD k .int
theorem n_Pr : ∀ a, a < 18 → ∀ b, b < 18 → a ≠ b → (F_Pr a).2.1 ≠ (F_Pr b).2.1 := by decide +kernel
theorem t_Pr_ok : ∀ k, k < 18 → parseFieldDescriptor (F_Pr k).2.2.1 = some (t_Pr k) := by decide +kernel
theorem i_Pr : ∀ w ∈ u_ws R_Pr F_Pr 18, w ∈ wd_tbl := wd_mem _ [1572, 1574, 1576, 1578, 1580, 1582, 1584, 1586, 1588, 1590, 1592, 1594, 1596, 1598, 1600, 1602, 1604, 1606] (by decide +kernel) (by decide +kernel)
theorem f1_Pr : ∀ k, k < 18 → (F_Pr k).1 = R_Pr := by decide +kernel
def R_Te : String := "MailHouse$Terms"
def Fl_Te : List (String × String × String × Bool) := [("MailHouse$Terms", "subjects", "[J", true), ("MailHouse$Terms", "left", "[J", true), ("MailHouse$Terms", "right", "[J", true), ("MailHouse$Terms", "atoms", "LMailHouse$Words;", true), ("MailHouse$Terms", "out", "[B", false), ("MailHouse$Terms", "from", "I", false), ("MailHouse$Terms", "length", "I", false)]
def F_Te : u_T := fun k => Fl_Te.getD k ("", "", "", false)
def tl_Te : List FieldType := [(.array .long), (.array .long), (.array .long), (.object "MailHouse$Words"), (.array .byte), .int, .int]
def t_Te : Nat → FieldType := fun k => tl_Te.getD k .int
theorem n_Te : ∀ a, a < 7 → ∀ b, b < 7 → a ≠ b → (F_Te a).2.1 ≠ (F_Te b).2.1 := by decide +kernel
theorem t_Te_ok : ∀ k, k < 7 → parseFieldDescriptor (F_Te k).2.2.1 = some (t_Te k) := by decide +kernel
theorem i_Te : ∀ w ∈ u_ws R_Te F_Te 7, w ∈ wd_tbl := wd_mem _ [629, 631, 633, 635, 637, 639, 641] (by decide +kernel) (by decide +kernel)
theorem f1_Te : ∀ k, k < 7 → (F_Te k).1 = R_Te := by decide +kernel
def R_To : String := "MailHouse$Tokens"
def Fl_To : List (String × String × String × Bool) := [("MailHouse$Tokens", "tape", "[B", true), ("MailHouse$Tokens", "size", "I", false), ("MailHouse$Tokens", "kind", "[I", true), ("MailHouse$Tokens", "value", "[I", true), ("MailHouse$Tokens", "line", "[I", true), ("MailHouse$Tokens", "count", "I", false), ("MailHouse$Tokens", "words", "LMailHouse$Words;", true), ("MailHouse$Tokens", "atoms", "LMailHouse$Words;", true), ("MailHouse$Tokens", "names", "LMailHouse$Words;", true), ("MailHouse$Tokens", "at", "I", false), ("MailHouse$Tokens", "lineNow", "I", false)]
def F_To : u_T := fun k => Fl_To.getD k ("", "", "", false)
def tl_To : List FieldType := [(.array .byte), .int, (.array .int), (.array .int), (.array .int), .int, (.object "MailHouse$Words"), (.object "MailHouse$Words"), (.object "MailHouse$Words"), .int, .int]
def t_To : Nat → FieldType := fun k => tl_To.getD k .int
theorem n_To : ∀ a, a < 11 → ∀ b, b < 11 → a ≠ b → (F_To a).2.1 ≠ (F_To b).2.1 := by decide +kernel
theorem t_To_ok : ∀ k, k < 11 → parseFieldDescriptor (F_To k).2.2.1 = some (t_To k) := by decide +kernel
theorem i_To : ∀ w ∈ u_ws R_To F_To 11, w ∈ wd_tbl := wd_mem _ [402, 404, 406, 408, 410, 412, 414, 416, 418, 420, 422] (by decide +kernel) (by decide +kernel)
theorem f1_To : ∀ k, k < 11 → (F_To k).1 = R_To := by decide +kernel
def R_Tr : String := "MailHouse$Tree"
def Fl_Tr : List (String × String × String × Bool) := [("MailHouse$Tree", "kind", "[I", true), ("MailHouse$Tree", "token", "[I", true), ("MailHouse$Tree", "a", "[I", true), ("MailHouse$Tree", "b", "[I", true), ("MailHouse$Tree", "c", "[I", true), ("MailHouse$Tree", "next", "[I", true), ("MailHouse$Tree", "count", "I", false)]
def F_Tr : u_T := fun k => Fl_Tr.getD k ("", "", "", false)
def tl_Tr : List FieldType := [(.array .int), (.array .int), (.array .int), (.array .int), (.array .int), (.array .int), .int]
def t_Tr : Nat → FieldType := fun k => tl_Tr.getD k .int
theorem n_Tr : ∀ a, a < 7 → ∀ b, b < 7 → a ≠ b → (F_Tr a).2.1 ≠ (F_Tr b).2.1 := by decide +kernel
theorem t_Tr_ok : ∀ k, k < 7 → parseFieldDescriptor (F_Tr k).2.2.1 = some (t_Tr k) := by decide +kernel
theorem i_Tr : ∀ w ∈ u_ws R_Tr F_Tr 7, w ∈ wd_tbl := wd_mem _ [448, 450, 452, 454, 456, 458, 460] (by decide +kernel) (by decide +kernel)
theorem f1_Tr : ∀ k, k < 7 → (F_Tr k).1 = R_Tr := by decide +kernel
def R_Wo : String := "MailHouse$Words"
def Fl_Wo : List (String × String × String × Bool) := [("MailHouse$Words", "signs", "[B", true), ("MailHouse$Words", "from", "[I", true), ("MailHouse$Words", "count", "I", false)]
def F_Wo : u_T := fun k => Fl_Wo.getD k ("", "", "", false)
def tl_Wo : List FieldType := [(.array .byte), (.array .int), .int]
def t_Wo : Nat → FieldType := fun k => tl_Wo.getD k .int
theorem n_Wo : ∀ a, a < 3 → ∀ b, b < 3 → a ≠ b → (F_Wo a).2.1 ≠ (F_Wo b).2.1 := by decide +kernel
theorem t_Wo_ok : ∀ k, k < 3 → parseFieldDescriptor (F_Wo k).2.2.1 = some (t_Wo k) := by decide +kernel
theorem i_Wo : ∀ w ∈ u_ws R_Wo F_Wo 3, w ∈ wd_tbl := wd_mem _ [363, 365, 367] (by decide +kernel) (by decide +kernel)
theorem f1_Wo : ∀ k, k < 3 → (F_Wo k).1 = R_Wo := by decide +kernel
def R_Wl : String := "MailHouse$World"
def Fl_Wl : List (String × String × String × Bool) := [("MailHouse$World", "terms", "LMailHouse$Terms;", true), ("MailHouse$World", "processes", "[LMailHouse$Process;", true), ("MailHouse$World", "count", "I", false), ("MailHouse$World", "begun", "Z", false), ("MailHouse$World", "time", "I", false), ("MailHouse$World", "references", "I", false), ("MailHouse$World", "calls", "I", false), ("MailHouse$World", "watchers", "[I", true), ("MailHouse$World", "watched", "[I", true), ("MailHouse$World", "watchedBy", "[I", true), ("MailHouse$World", "watches", "I", false), ("MailHouse$World", "output", "[B", true), ("MailHouse$World", "lengths", "[I", true), ("MailHouse$World", "lines", "I", false), ("MailHouse$World", "ended", "[I", true), ("MailHouse$World", "ends", "I", false), ("MailHouse$World", "settled", "I", false)]
def F_Wl : u_T := fun k => Fl_Wl.getD k ("", "", "", false)
def tl_Wl : List FieldType := [(.object "MailHouse$Terms"), (.array (.object "MailHouse$Process")), .int, .boolean, .int, .int, .int, (.array .int), (.array .int), (.array .int), .int, (.array .byte), (.array .int), .int, (.array .int), .int, .int]
def t_Wl : Nat → FieldType := fun k => tl_Wl.getD k .int
theorem n_Wl : ∀ a, a < 17 → ∀ b, b < 17 → a ≠ b → (F_Wl a).2.1 ≠ (F_Wl b).2.1 := by decide +kernel
theorem t_Wl_ok : ∀ k, k < 17 → parseFieldDescriptor (F_Wl k).2.2.1 = some (t_Wl k) := by decide +kernel
theorem i_Wl : ∀ w ∈ u_ws R_Wl F_Wl 17, w ∈ wd_tbl := wd_mem _ [682, 684, 686, 688, 690, 692, 694, 696, 698, 700, 702, 704, 706, 708, 710, 712, 714] (by decide +kernel) (by decide +kernel)
theorem f1_Wl : ∀ k, k < 17 → (F_Wl k).1 = R_Wl := by decide +kernel
def cls : List vw_C := [(R_M, F_M, 171), (R_H, F_H, 11), (R_Co, F_Co, 13), (R_Cm, F_Cm, 15), (R_Fr, F_Fr, 10), (R_Ma, F_Ma, 15), (R_Pa, F_Pa, 8), (R_Pr, F_Pr, 18), (R_Te, F_Te, 7), (R_To, F_To, 11), (R_Tr, F_Tr, 7), (R_Wo, F_Wo, 3), (R_Wl, F_Wl, 17)]
/-- what is known of a class of that number -/
def CKl (cl : List vw_C) (ci : Nat) (C : String) (F : u_T) (n : Nat) (ty : Nat → FieldType) : Prop := cl[ci]? = some (C, F, n) ∧ (∀ w ∈ u_ws C F n, w ∈ wd_tbl) ∧ (∀ k, k < n → parseFieldDescriptor (F k).2.2.1 = some (ty k)) ∧ (∀ a, a < n → ∀ b, b < n → a ≠ b → (F a).2.1 ≠ (F b).2.1) ∧ ∀ k, k < n → (F k).1 = C
theorem ck_H : CKl cls 1 R_H F_H 11 t_H := ⟨rfl, i_H, t_H_ok, n_H, f1_H⟩
theorem ck_Co : CKl cls 2 R_Co F_Co 13 t_Co := ⟨rfl, i_Co, t_Co_ok, n_Co, f1_Co⟩
theorem ck_Cm : CKl cls 3 R_Cm F_Cm 15 t_Cm := ⟨rfl, i_Cm, t_Cm_ok, n_Cm, f1_Cm⟩
theorem ck_Fr : CKl cls 4 R_Fr F_Fr 10 t_Fr := ⟨rfl, i_Fr, t_Fr_ok, n_Fr, f1_Fr⟩
theorem ck_Ma : CKl cls 5 R_Ma F_Ma 15 t_Ma := ⟨rfl, i_Ma, t_Ma_ok, n_Ma, f1_Ma⟩
theorem ck_Pa : CKl cls 6 R_Pa F_Pa 8 t_Pa := ⟨rfl, i_Pa, t_Pa_ok, n_Pa, f1_Pa⟩
theorem ck_Pr : CKl cls 7 R_Pr F_Pr 18 t_Pr := ⟨rfl, i_Pr, t_Pr_ok, n_Pr, f1_Pr⟩
theorem ck_Te : CKl cls 8 R_Te F_Te 7 t_Te := ⟨rfl, i_Te, t_Te_ok, n_Te, f1_Te⟩
theorem ck_To : CKl cls 9 R_To F_To 11 t_To := ⟨rfl, i_To, t_To_ok, n_To, f1_To⟩
theorem ck_Tr : CKl cls 10 R_Tr F_Tr 7 t_Tr := ⟨rfl, i_Tr, t_Tr_ok, n_Tr, f1_Tr⟩
theorem ck_Wo : CKl cls 11 R_Wo F_Wo 3 t_Wo := ⟨rfl, i_Wo, t_Wo_ok, n_Wo, f1_Wo⟩
theorem ck_Wl : CKl cls 12 R_Wl F_Wl 17 t_Wl := ⟨rfl, i_Wl, t_Wl_ok, n_Wl, f1_Wl⟩
