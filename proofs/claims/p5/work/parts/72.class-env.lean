/-! what was there before the law began: texts, static fields, the links of nest mates -/
def nSt : Nat := 17
def lenSt : List Nat := [161, 77, 2, 183, 14, 18, 19, 19, 16, 25, 17, 15, 15, 12, 16, 23, 12]
def bytSt : List (List Int32) := [[116, 114, 117, 101, 32, 102, 97, 108, 115, 101, 32, 111, 107, 32, 110, 111, 110, 101, 32, 110, 111, 114, 109, 97, 108, 32, 107, 105, 108, 108, 32, 107, 105, 108, 108, 101, 100, 32, 101, 114, 114, 111, 114, 32, 101, 120, 105, 116, 32, 100, 111, 119, 110, 32, 105, 110, 102, 105, 110, 105, 116, 121, 32, 98, 97, 100, 97, 114, 103, 32, 98, 97, 100, 97, 114, 105, 116, 104, 32, 98, 97, 100, 109, 97, 116, 99, 104, 32, 102, 117, 110, 99, 116, 105, 111, 110, 95, 99, 108, 97, 117, 115, 101, 32, 99, 97, 115, 101, 95, 99, 108, 97, 117, 115, 101, 32, 105, 102, 95, 99, 108, 97, 117, 115, 101, 32, 98, 97, 100, 102, 117, 110, 32, 98, 97, 100, 97, 114, 105, 116, 121, 32, 110, 111, 99, 97, 116, 99, 104, 32, 104, 101, 97, 112, 32, 115, 116, 97, 99, 107, 32], [97, 102, 116, 101, 114, 32, 97, 110, 100, 97, 108, 115, 111, 32, 98, 101, 103, 105, 110, 32, 99, 97, 115, 101, 32, 99, 97, 116, 99, 104, 32, 100, 105, 118, 32, 101, 110, 100, 32, 102, 117, 110, 32, 105, 102, 32, 110, 111, 116, 32, 111, 102, 32, 111, 114, 101, 108, 115, 101, 32, 114, 101, 99, 101, 105, 118, 101, 32, 114, 101, 109, 32, 119, 104, 101, 110, 32], [95, 32], [115, 101, 108, 102, 32, 115, 112, 97, 119, 110, 32, 108, 105, 110, 107, 32, 117, 110, 108, 105, 110, 107, 32, 119, 97, 116, 99, 104, 32, 117, 110, 119, 97, 116, 99, 104, 32, 116, 114, 97, 112, 32, 101, 120, 105, 116, 32, 116, 104, 114, 111, 119, 32, 101, 114, 114, 111, 114, 32, 112, 114, 105, 110, 116, 32, 114, 101, 102, 32, 110, 97, 109, 101, 32, 117, 110, 110, 97, 109, 101, 32, 110, 97, 109, 101, 100, 32, 97, 108, 105, 118, 101, 32, 110, 111, 119, 32, 105, 115, 95, 110, 117, 109, 98, 101, 114, 32, 105, 115, 95, 97, 116, 111, 109, 32, 105, 115, 95, 108, 105, 115, 116, 32, 105, 115, 95, 116, 117, 112, 108, 101, 32, 105, 115, 95, 102, 117, 110, 32, 105, 115, 95, 112, 114, 111, 99, 101, 115, 115, 32, 105, 115, 95, 114, 101, 102, 32, 104, 100, 32, 116, 108, 32, 108, 101, 110, 103, 116, 104, 32, 101, 108, 101, 109, 101, 110, 116, 32, 115, 105, 122, 101, 32], [45, 62, 61, 61, 47, 61, 61, 60, 62, 61, 43, 43, 45, 45], [40, 41, 123, 125, 91, 93, 44, 59, 46, 124, 61, 60, 62, 43, 45, 42, 33, 47], [97, 32, 102, 97, 117, 108, 116, 32, 111, 102, 32, 116, 104, 101, 32, 116, 101, 120, 116], [116, 104, 101, 114, 101, 32, 105, 115, 32, 110, 111, 32, 112, 114, 111, 103, 114, 97, 109], [110, 111, 32, 115, 117, 99, 104, 32, 102, 117, 110, 99, 116, 105, 111, 110], [116, 104, 101, 32, 102, 117, 110, 99, 116, 105, 111, 110, 32, 104, 97, 115, 32, 112, 97, 116, 116, 101, 114, 110, 115], [110, 111, 116, 32, 115, 111, 32, 109, 97, 110, 121, 32, 99, 97, 108, 108, 115], [110, 111, 32, 115, 117, 99, 104, 32, 112, 114, 111, 99, 101, 115, 115], [105, 116, 32, 99, 97, 110, 110, 111, 116, 32, 103, 111, 32, 111, 110], [110, 111, 32, 115, 117, 99, 104, 32, 116, 105, 109, 101], [110, 111, 32, 114, 117, 110, 32, 104, 97, 115, 32, 98, 101, 103, 117, 110], [110, 111, 32, 115, 117, 99, 104, 32, 112, 114, 111, 99, 101, 115, 115, 32, 111, 114, 32, 97, 116, 111, 109], [110, 111, 32, 115, 117, 99, 104, 32, 115, 111, 114, 116]]
def strL : List (String × Nat × String × Nat) := [("MailHouse", 11, "true false ok none normal kill killed error exit down infinity badarg badarith badmatch function_clause case_clause if_clause badfun badarity nocatch heap stack ", 0), ("MailHouse$Tokens", 27, "after andalso begin case catch div end fun if not of orelse receive rem when ", 1), ("MailHouse$Tokens", 36, "_ ", 2), ("MailHouse$Compiler", 11, "self spawn link unlink watch unwatch trap exit throw error print ref name unname named alive now is_number is_atom is_list is_tuple is_fun is_process is_ref hd tl length element size ", 3), ("MailHouse$Tokens", 109, "->==/==<>=++--", 4), ("MailHouse$Tokens", 120, "(){}[],;.|=<>+-*!/", 5), ("MailHouse$Parser", 62, "a fault of the text", 6), ("MailHouse", 154, "there is no program", 7), ("MailHouse", 161, "no such function", 8), ("MailHouse", 166, "the function has patterns", 9), ("MailHouse", 191, "not so many calls", 10), ("MailHouse", 197, "no such process", 11), ("MailHouse", 206, "it cannot go on", 12), ("MailHouse", 213, "no such time", 13), ("MailHouse", 215, "no run has begun", 14), ("MailHouse", 217, "no such process or atom", 15), ("MailHouse", 219, "no such sort", 16)]
def takL : List Int32 := [0, 1, 1, 1, 1, 1, 1, 1, 1, 1, 1, 0, 2, 1, 1, 1, 0, 1, 1, 1, 1, 1, 1, 1, 1, 1, 1, 2, 1]
def nstL : List Cond := [.methodLinkNest "MailHouse" 31 ({ cls := "MailHouse$Tree", name := "<init>", desc := "()V" } : Jvm.MethodName) "MailHouse", .methodLinkNest "MailHouse" 34 ({ cls := "MailHouse$Code", name := "<init>", desc := "()V" } : Jvm.MethodName) "MailHouse", .fieldLinkNest "MailHouse$Compiler" 149 "MailHouse" "TAKEN" "[I" "MailHouse", .methodLinkNest "MailHouse$Process" 11 ({ cls := "MailHouse$Frames", name := "<init>", desc := "()V" } : Jvm.MethodName) "MailHouse"]
def R_JS : String := "java/lang/String"
set_option maxRecDepth 100000 in
theorem hini_JS : Cond.initialized R_JS ∈ wd_tbl := wd_of 268 (by decide +kernel) rfl
def R_JL : String := "java/lang/StringLatin1"
set_option maxRecDepth 100000 in
theorem hini_JL : Cond.initialized R_JL ∈ wd_tbl := wd_of 269 (by decide +kernel) rfl
def R_JP : String := "jdk/internal/util/Preconditions"
set_option maxRecDepth 100000 in
theorem hini_JP : Cond.initialized R_JP ∈ wd_tbl := wd_of 270 (by decide +kernel) rfl
def R_JI : String := "java/lang/Integer"
set_option maxRecDepth 100000 in
theorem hini_JI : Cond.initialized R_JI ∈ wd_tbl := wd_of 293 (by decide +kernel) rfl
def R_JA : String := "java/util/Arrays"
set_option maxRecDepth 100000 in
theorem hini_JA : Cond.initialized R_JA ∈ wd_tbl := wd_of 292 (by decide +kernel) rfl
/-- all words of the start: the tables', and that two static fields of Throwable hold references -/
def lwA : List Cond := lw_tbl ++ [.isRef (.static "java/lang/Throwable" "UNASSIGNED_STACK" "[Ljava/lang/StackTraceElement;"), .isRef (.static "java/lang/Throwable" "SUPPRESSED_SENTINEL" "Ljava/util/List;")]
def fmO (sv : Nat → Nat) : Option Nat := if sv (nSt + 1) = 0 then none else some (sv (nSt + 1) - 1)
def fmV (sv : Nat → Nat) : Value := va_rf (fmO sv)
/-- what was there before the law began, and stays: the tables' words, the texts, the static fields -/
def ENV (s0 : State) (b0 : Nat) (sk sv : Nat → Nat) : Prop :=
  (∃ a0 : Array Value, ∀ w ∈ lwA, w.before a0 s0 = true) ∧ s0.heap.size ≤ b0 ∧ vk_S nSt lenSt bytSt sk sv (fun q => b0 ≤ q) s0 s0.heap ∧
  (∀ (k : Nat) (q : String × Nat × String × Nat), strL[k]? = some q → vk_R q.1 q.2.1 q.2.2.1 (sk q.2.2.2) s0) ∧
  va_Z "java/lang/String" "COMPACT_STRINGS" "Z" (.int 1) (fun q => b0 ≤ q) s0 s0.heap ∧ va_Z "MailHouse" "TAKEN" "[I" (.ref (sv nSt)) (fun q => b0 ≤ q) s0 s0.heap ∧ va_T .int (sv nSt) 29 (fun j => .int (takL.getD j 0)) (fun q => b0 ≤ q) s0 s0.heap ∧
  va_Z "jdk/internal/util/Preconditions" "SIOOBE_FORMATTER" "Ljava/util/function/BiFunction;" (fmV sv) (fun q => b0 ≤ q) s0 s0.heap ∧
  ∀ (k : Nat) (w : Cond), nstL[k]? = some w → va_Nw w s0
section SROW
variable {p : Program} {l : Launch} {e : Env} {R : Room} {s s0 : State} {m : MethodId} {args : Array Value} {below : List Frame} {meth : Method} {c : Code} {H : Heap} {locs : List Loc} {cells slots : Nat} {Q : State → Prop}
variable {cc : ByteArray} {pc nL b0 n idx i k index : Nat} {ls : Array Slot} {rest st : List Value} {ret rt : Option FieldType} {D : va_G} {cB cI cJ cZ cS cP : ClassId} {A : Nat → Prop} {ad : Nat → Nat} {u x : CS} {v : Option LV} {y : MethodName} {b : ByteArray} {rm : Room} {As : List Value} {nA : Nat} {own C : String} {sk sv : Nat → Nat}
theorem env_S (C0 : XCx p s s0 b0 m args meth c own cc nL ret D cB cI cJ cZ cS cP A) (hE : ENV s0 b0 sk sv) : vk_S nSt lenSt bytSt sk sv A s s.heap := by
  obtain ⟨hx, hb, hr, hml, ht, hown, hK, hA, hlocks, hA0, hO, hbs⟩ := C0
  exact ((vk_S.moved hO.1.alike hE.2.2.1).kept (fun a _ h2 => hO.2 a (Nat.lt_of_not_le h2))).narrow hA0
theorem env_Z {C9 n9 d9 : String} {v9 : Value} (C0 : XCx p s s0 b0 m args meth c own cc nL ret D cB cI cJ cZ cS cP A) (h : va_Z C9 n9 d9 v9 (fun q => b0 ≤ q) s0 s0.heap) : va_Z C9 n9 d9 v9 A s s.heap := by
  obtain ⟨hx, hb, hr, hml, ht, hown, hK, hA, hlocks, hA0, hO, hbs⟩ := C0
  exact ((va_Z.moved hO.1.alike h).kept (fun a _ h2 => hO.2 a (Nat.lt_of_not_le h2))).narrow hA0
theorem env_T {t N : Nat} {ty : FieldType} {f : Nat → Value} (C0 : XCx p s s0 b0 m args meth c own cc nL ret D cB cI cJ cZ cS cP A) (h : va_T ty t N f (fun q => b0 ≤ q) s0 s0.heap) : va_T ty t N f A s s.heap := by
  obtain ⟨hx, hb, hr, hml, ht, hown, hK, hA, hlocks, hA0, hO, hbs⟩ := C0
  exact ((va_T.moved hO.1.alike h).kept (fun a _ h2 => hO.2 a (Nat.lt_of_not_le h2))).narrow hA0
theorem x_ldcS (C0 : XCx p s s0 b0 m args meth c own cc nL ret D cB cI cJ cZ cS cP A) (hE : ENV s0 b0 sk sv) {tx : String} {j : Nat} (hk : strL[k]? = some (own, index, tx, j)) (hdg : decode cc pc = .ok (.ldc index, 2))
    (kk : W p l e R s m args below meth c H locs cells slots Q (F0 m (pc + 2) ls (.ref (sk j) :: rest))) : W p l e R s m args below meth c H locs cells slots Q (F0 m pc ls rest) := by
  obtain ⟨hx, hb, hr, hml, ht, hown, hK, hA, hlocks, hA0, hO, hbs⟩ := C0
  exact va_ldcS hx hb hown (vk_R.warm hO.1 (hE.2.2.2.1 k _ hk)) hdg kk
theorem x_sva (C0 : XCx p s s0 b0 m args meth c own cc nL ret D cB cI cJ cZ cS cP A) (hE : ENV s0 b0 sk sv) (hS : va_S A s.heap H locs) (hk : decide (k < nSt) = true) (hl : Cond.fieldLink own index "java/lang/String" "value" "[B" ∈ wd_tbl) (hdg : decode cc pc = .ok (.getfield index, 3))
    (kk : W p l e R s m args below meth c H locs cells slots Q (F0 m (pc + 3) ls (.ref (sv k) :: rest))) : W p l e R s m args below meth c H locs cells slots Q (F0 m pc ls (.ref (sk k) :: rest)) := by
  have h9 := env_S C0 hE
  obtain ⟨hx, hb, hr, hml, ht, hown, hK, hA, hlocks, hA0, hO, hbs⟩ := C0
  exact vk_getf hx hb (h9.1 k (of_decide_eq_true hk)).2.2.1 hS hown (ht _ hl) (fun _ h => h) hdg kk
theorem x_sco (C0 : XCx p s s0 b0 m args meth c own cc nL ret D cB cI cJ cZ cS cP A) (hE : ENV s0 b0 sk sv) (hS : va_S A s.heap H locs) (hk : decide (k < nSt) = true) (hl : Cond.fieldLink own index "java/lang/String" "coder" "B" ∈ wd_tbl) (hdg : decode cc pc = .ok (.getfield index, 3))
    (kk : W p l e R s m args below meth c H locs cells slots Q (F0 m (pc + 3) ls (.int 0 :: rest))) : W p l e R s m args below meth c H locs cells slots Q (F0 m pc ls (.ref (sk k) :: rest)) := by
  have h9 := env_S C0 hE
  obtain ⟨hx, hb, hr, hml, ht, hown, hK, hA, hlocks, hA0, hO, hbs⟩ := C0
  exact vk_getf hx hb (h9.1 k (of_decide_eq_true hk)).2.1 hS hown (ht _ hl) (fun _ h => h) hdg kk
theorem x_stl (C0 : XCx p s s0 b0 m args meth c own cc nL ret D cB cI cJ cZ cS cP A) (hE : ENV s0 b0 sk sv) (hS : va_S A s.heap H locs) (hk : decide (k < nSt) = true) (hdg : decode cc pc = .ok (.arraylength, 1))
    (kk : W p l e R s m args below meth c H locs cells slots Q (F0 m (pc + 1) ls (.int (Int32.ofNat (lenSt.getD k 0)) :: rest))) : W p l e R s m args below meth c H locs cells slots Q (F0 m pc ls (.ref (sv k) :: rest)) := by
  have h9 := env_S C0 hE
  obtain ⟨hx, hb, hr, hml, ht, hown, hK, hA, hlocks, hA0, hO, hbs⟩ := C0
  exact va_tlen hx hb (h9.1 k (of_decide_eq_true hk)).2.2.2 hS rfl hdg kk
theorem x_stb (C0 : XCx p s s0 b0 m args meth c own cc nL ret D cB cI cJ cZ cS cP A) (hE : ENV s0 b0 sk sv) (hS : va_S A s.heap H locs) (hk : decide (k < nSt) = true) {j : Int32} (hi : inb j (lenSt.getD k 0) = true) (hdg : decode cc pc = .ok (.baload, 1))
    (kk : W p l e R s m args below meth c H locs cells slots Q (F0 m (pc + 1) ls (.int ((bytSt.getD k []).getD j.toNatClampNeg 0) :: rest))) : W p l e R s m args below meth c H locs cells slots Q (F0 m pc ls (.int j :: .ref (sv k) :: rest)) := by
  have h9 := env_S C0 hE
  obtain ⟨hx, hb, hr, hml, ht, hown, hK, hA, hlocks, hA0, hO, hbs⟩ := C0
  exact va_tb hx hb (h9.1 k (of_decide_eq_true hk)).2.2.2 hS (inb_in hi) rfl hdg kk
theorem x_cmp (C0 : XCx p s s0 b0 m args meth c own cc nL ret D cB cI cJ cZ cS cP A) (hE : ENV s0 b0 sk sv) (hS : va_S A s.heap H locs) (hl : Cond.fieldLink own index "java/lang/String" "COMPACT_STRINGS" "Z" ∈ wd_tbl) (hdg : decode cc pc = .ok (.getstatic index, 3))
    (kk : W p l e R s m args below meth c H locs cells slots Q (F0 m (pc + 3) ls (.int 1 :: rest))) : W p l e R s m args below meth c H locs cells slots Q (F0 m pc ls rest) := by
  have h9 := env_Z C0 hE.2.2.2.2.1
  obtain ⟨hx, hb, hr, hml, ht, hown, hK, hA, hlocks, hA0, hO, hbs⟩ := C0
  exact va_gets hx hb h9 hS hown (ht _ hl) (fun _ h => h) hdg kk
theorem x_tkl (C0 : XCx p s s0 b0 m args meth c own cc nL ret D cB cI cJ cZ cS cP A) (hE : ENV s0 b0 sk sv) (hS : va_S A s.heap H locs) (hdg : decode cc pc = .ok (.arraylength, 1))
    (kk : W p l e R s m args below meth c H locs cells slots Q (F0 m (pc + 1) ls (.int 29 :: rest))) : W p l e R s m args below meth c H locs cells slots Q (F0 m pc ls (.ref (sv nSt) :: rest)) := by
  have h9 := env_T C0 hE.2.2.2.2.2.2.1
  obtain ⟨hx, hb, hr, hml, ht, hown, hK, hA, hlocks, hA0, hO, hbs⟩ := C0
  exact va_tlen hx hb h9 hS rfl hdg kk
theorem x_tki (C0 : XCx p s s0 b0 m args meth c own cc nL ret D cB cI cJ cZ cS cP A) (hE : ENV s0 b0 sk sv) (hS : va_S A s.heap H locs) {j : Int32} (hi : inb j 29 = true) (hdg : decode cc pc = .ok (.iaload, 1))
    (kk : W p l e R s m args below meth c H locs cells slots Q (F0 m (pc + 1) ls (.int (takL.getD j.toNatClampNeg 0) :: rest))) : W p l e R s m args below meth c H locs cells slots Q (F0 m pc ls (.int j :: .ref (sv nSt) :: rest)) := by
  have h9 := env_T C0 hE.2.2.2.2.2.2.1
  obtain ⟨hx, hb, hr, hml, ht, hown, hK, hA, hlocks, hA0, hO, hbs⟩ := C0
  exact va_ti hx hb h9 hS (inb_in hi) rfl hdg kk
theorem x_fmt (C0 : XCx p s s0 b0 m args meth c own cc nL ret D cB cI cJ cZ cS cP A) (hE : ENV s0 b0 sk sv) (hS : va_S A s.heap H locs) (hl : Cond.fieldLink own index "jdk/internal/util/Preconditions" "SIOOBE_FORMATTER" "Ljava/util/function/BiFunction;" ∈ wd_tbl) (hdg : decode cc pc = .ok (.getstatic index, 3))
    (kk : W p l e R s m args below meth c H locs cells slots Q (F0 m (pc + 3) ls (fmV sv :: rest))) : W p l e R s m args below meth c H locs cells slots Q (F0 m pc ls rest) := by
  have h9 := env_Z C0 hE.2.2.2.2.2.2.2.1
  obtain ⟨hx, hb, hr, hml, ht, hown, hK, hA, hlocks, hA0, hO, hbs⟩ := C0
  exact va_gets hx hb h9 hS hown (ht _ hl) (fun _ h => h) hdg kk
theorem x_tak (C0 : XCx p s s0 b0 m args meth c own cc nL ret D cB cI cJ cZ cS cP A) (hE : ENV s0 b0 sk sv) (hS : va_S A s.heap H locs) {host : String} (hk : nstL[k]? = some (.fieldLinkNest own index "MailHouse" "TAKEN" "[I" host)) (hdg : decode cc pc = .ok (.getstatic index, 3))
    (kk : W p l e R s m args below meth c H locs cells slots Q (F0 m (pc + 3) ls (.ref (sv nSt) :: rest))) : W p l e R s m args below meth c H locs cells slots Q (F0 m pc ls rest) := by
  have h9 := env_Z C0 hE.2.2.2.2.2.1
  obtain ⟨hx, hb, hr, hml, ht, hown, hK, hA, hlocks, hA0, hO, hbs⟩ := C0
  exact va_getsN hx hb h9 hS hown (va_Nw.use rfl (va_Nw.warmF hO.1 (hE.2.2.2.2.2.2.2.2 k _ hk))) (fun _ h => h) hdg kk
/-- a text's own method -/
theorem xT0 (C0 : XCx p s s0 b0 m args meth c own cc nL ret D cB cI cJ cZ cS cP A) (hE : ENV s0 b0 sk sv) (hP : va_P D cls (wC cB cI cJ cZ cS cP ad u) H) (hD : va_D A (wC cB cI cJ cZ cS cP ad u)) (hS : va_S A s.heap H locs) (hk9 : decide (i < nSt) = true)
    (hC : Met l y (wd_ws y b n rt) rm (xPc s0 b0 D cB cI cJ cZ cS cP ad u H.size (.ref (sk i) :: As)) (xQ0 D cB cI cJ cZ cS cP (xA cB cI cJ cZ cS cP ad u H.size) ad x v) 0 0 (xA cB cI cJ cZ cS cP ad u H.size))
    (hk : Cond.code y b n rt ∈ wd_tbl) (hl : Cond.methodLink own idx y ∈ wd_tbl) (hi : Cond.instanceMethod y ∈ wd_tbl) (hsel : Cond.selects "java/lang/String" y y ∈ wd_tbl) (hini : Cond.initialized "java/lang/String" ∈ wd_tbl) (hrc : rm.cells = 0) (hrs : rm.slots = 0)
    (hd : y.cls = "java/lang/String" ∧ y.cls ≠ "java/lang/invoke/MethodHandle" ∧ y.cls ≠ "java/lang/invoke/VarHandle" ∧ (parseMethodDescriptor y.desc).map (fun d => d.parameters.length) = some nA) (hAs : As.length = nA) (hR : rm.frames + 1 ≤ R.frames ∧ 8 + (n + 11) + rm.locals ≤ R.locals) (hsz : ls.size = nL) (hr8 : (rest.map fun v => v.category).sum ≤ 8) (hdg : decode cc pc = .ok (.invokevirtual idx, 3)) (hst0 : st = As.reverse ++ .ref (sk i) :: rest) (hf : cells + 0 ≤ R.cells ∧ slots + 0 ≤ R.slots)
    (kk : ∀ (H1 : Heap) (locs1 : List Loc), va_P D cls (wC cB cI cJ cZ cS cP ad x) H1 → va_D A (wC cB cI cJ cZ cS cP ad x) → va_S A s.heap H1 locs1 → W p l e R s m args below meth c H1 locs1 cells slots Q (F0 m (pc + 3) ls ((v.map (lvV ad)).toList ++ rest))) : W p l e R s m args below meth c H locs cells slots Q (F0 m pc ls st) := by
  have hp := x_pre (As := (.ref (sk i) :: As)) C0 hP hD hS
  have hrecv := vk_recv (env_S C0 hE) (of_decide_eq_true hk9) hS
  obtain ⟨hx, hb, hr, hml, ht, hown, hK, hA, hlocks, hA0, hO, hbs⟩ := id C0
  subst hst0
  have hG : GoodIn wd_tbl (wsV own idx "java/lang/String" y (wd_ws y b n rt)) := fun w h => by
    rcases List.mem_append.mp h with h | h
    · have hm : w ∈ wd_tbl := by
        simp only [List.mem_cons, List.not_mem_nil, or_false] at h
        rcases h with rfl | rfl | rfl | rfl
        · exact hl
        · exact hi
        · exact hsel
        · exact hini
      exact ⟨hm, wd_gd hm⟩
    · exact wd_in (fun _ z => z) hk w h
  exact x_back0 C0 hD hS (va_runV (As := As) (rest := rest) ⟨hx, hb, hml, hown, ht⟩ hC (cwV nA ht hG rfl hrc hrs hd hR) ⟨hp.1, hrecv, hp.2⟩ rfl hAs hsz rfl (by simpa using hr8) hdg hf) kk
/-- a nest mate's private constructor -/
theorem yN {mc ms uN uS xc xs j : Nat} {ad0 : Nat → Nat} {host : String} (C0 : XCx p s s0 b0 m args meth c own cc nL ret D cB cI cJ cZ cS cP A) (hE : ENV s0 b0 sk sv) (hP : va_P D cls (wC cB cI cJ cZ cS cP ad u) H) (hD : va_D A (wC cB cI cJ cZ cS cP ad u)) (hS : va_S A s.heap H locs)
    (hC : Met l y (wd_ws y b n none) rm (xPc s0 b0 D cB cI cJ cZ cS cP ad u H.size (.ref (ad i) :: As)) (xQ D cB cI cJ cZ cS cP (xA cB cI cJ cZ cS cP ad u H.size) ad u.1.1 x v) mc ms (xA cB cI cJ cZ cS cP ad u H.size))
    (hk : Cond.code y b n none ∈ wd_tbl) (hkn : nstL[j]? = some (.methodLinkNest own idx y host)) (hi : Cond.instanceMethod y ∈ wd_tbl) (hini : Cond.initialized y.cls ∈ wd_tbl) (hnm : y.name = "<init>") (hrc : rm.cells = mc) (hrs : rm.slots = ms)
    (hd : y.cls ≠ "java/lang/invoke/MethodHandle" ∧ y.cls ≠ "java/lang/invoke/VarHandle" ∧ (parseMethodDescriptor y.desc).map (fun d => d.parameters.length) = some nA) (hAs : As.length = nA) (hR : rm.frames + 1 ≤ R.frames ∧ 8 + (n + 11) + rm.locals ≤ R.locals) (hsz : ls.size = nL) (hr8 : (rest.map fun v => v.category).sum ≤ 8) (hdg : decode cc pc = .ok (.invokespecial idx, 3)) (hst0 : st = As.reverse ++ .ref (ad i) :: rest) (hmc : u.1.1 + mc = x.1.1 ∧ u.1.2 + ms = x.1.2) (hB : AB uN uS ad0 u ad cells slots) (hX : uN + R.cells = xc ∧ uS + R.slots = xs) (hg : x.1.1 ≤ xc ∧ x.1.2 ≤ xs)
    (kk : ∀ (ad2 : Nat → Nat) (H1 : Heap) (locs1 : List Loc) (ce2 sl2 : Nat), (∀ j, j < u.1.1 → ad2 j = ad j) → AB uN uS ad0 x ad2 ce2 sl2 → va_P D cls (wC cB cI cJ cZ cS cP ad2 x) H1 → va_D A (wC cB cI cJ cZ cS cP ad2 x) → va_S A s.heap H1 locs1 → W p l e R s m args below meth c H1 locs1 ce2 sl2 Q (F0 m (pc + 3) ls ((v.map (lvV ad2)).toList ++ rest))) : W p l e R s m args below meth c H locs cells slots Q (F0 m pc ls st) := by
  have hp := x_pre (As := (.ref (ad i) :: As)) C0 hP hD hS
  obtain ⟨hx, hb, hr, hml, ht, hown, hK, hA, hlocks, hA0, hO, hbs⟩ := id C0
  obtain ⟨b1, b2, b3⟩ := hB
  subst hst0
  have hG : GoodIn wd_tbl (wd_ws y b n none) := wd_in (fun _ z => z) hk
  have hN : va_Nw (.methodLinkNest own idx y host) s := va_Nw.warmM hO.1 (hE.2.2.2.2.2.2.2.2 j _ hkn)
  refine x_back C0 hD hS (va_runIN (As := As) (rest := rest) ⟨hx, hb, hml, hown, ht⟩ hC ⟨va_cnB nA ht hG rfl hrc hrs hN (ht _ hini) hd hR, hnm, ht _ hi⟩ hp rfl hAs hsz rfl (by simpa using hr8) hdg ⟨by omega, by omega⟩) (fun ad2 H1 locs1 hag hP1 hD1 hS1 => ?_)
  exact kk ad2 H1 locs1 _ _ hag ⟨by omega, by omega, fun i h => (hag i (by omega)).trans (b3 i h)⟩ hP1 hD1 hS1
theorem xr0_n {ty : FieldType} {v : Int32} {x : CS × Int32} (C0 : XCx p s s0 b0 m args meth c own cc nL (some ty) D cB cI cJ cZ cS cP A) (hP : va_P D cls (wC cB cI cJ cZ cS cP ad u) H) (hD : va_D A (wC cB cI cJ cZ cS cP ad u)) (hS : va_S A s.heap H locs) (hz : narrow ty (.int v) = .int v) (hf : some (u, v) = some x) (hdg : decode cc pc = .ok (.ireturn, 1)) : W p l e R s m args below meth c H locs 0 0 (MQ below (xQ0 D cB cI cJ cZ cS cP A ad x.1 (some (.inl x.2))) args s 0 0 A) (F0 m pc ls [.int v]) := by
  obtain ⟨hx, hb, hr, hml, ht, hown, hK, hA, hlocks, hA0, hO, hbs⟩ := C0
  cases hf
  exact W.zret hx hb hr hz (fun t h hW => ⟨⟨rfl, by rw [h]; exact hP, va_K.moved hW.alike hK, hD⟩, hS.F h⟩) hS.2.2 hdg
end SROW
