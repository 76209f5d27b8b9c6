/-! the law's body: reads of the script, calls of the helpers, the reference's methods -/
theorem h_pre {p : Program} {s s0 : State} {b0 : Nat} {m : MethodId} {args : Array Value} {meth : Method} {c : Code} {own : String} {cc : ByteArray} {nL : Nat} {ret : Option FieldType} {D : va_G} {cB cI cJ cZ cS cP : ClassId} {A : Nat → Prop} {w : va_W} {H : Heap} {locs : List Loc} {As : List Value} (C0 : XCx p s s0 b0 m args meth c own cc nL ret D cB cI cJ cZ cS cP A) (hP : va_P D cls w H) (hD : va_D A w) (hS : va_S A s.heap H locs) : FrameBlind (hPc s0 b0 D cB cI cJ cZ cS cP w H.size As) ∧ ∀ U : State, U.heap = H → s.WarmedH U.vm → hPc s0 b0 D cB cI cJ cZ cS cP w H.size As As.toArray U := by
  obtain ⟨hx, hb, hr2, hml, ht, hown, hK, hA, hlocks, hA0, hO, hbs⟩ := C0
  refine ⟨fun a U g mk q => ?_, fun U hU hW => ⟨rfl, by rw [hU], Nat.le_trans hbs hS.1, by rw [hU]; exact hP, va_K.moved hW.alike hK, hD.weaken (fun _ _ _ h => hA0 _ h), State.WarmedH.trans hO.1 hW, fun q h => ?_⟩⟩
  · obtain ⟨q0, q1, q2, qP, qK, qD, qO⟩ := q
    exact ⟨q0, q1, q2, qP, va_K.moved (u := U) (U := U.calling g mk a) (Vm.Alike.refl U.vm) qK, qD, qO⟩
  · rw [hU, hS.2.1 q (Nat.lt_of_lt_of_le h hbs) (fun z => absurd (hA0 q z) (Nat.not_le.mpr h))]
    exact hO.2 q h
section LROW
variable {p : Program} {l : Launch} {e : Env} {R : Room} {s s0 : State} {m : MethodId} {args : Array Value} {below : List Frame} {meth : Method} {c : Code} {H : Heap} {locs : List Loc} {cells slots : Nat} {Q : State → Prop}
variable {cc : ByteArray} {pc nL n idx b0 o : Nat} {ls : Array Slot} {rest st : List Value} {ret rt : Option FieldType} {D : va_G} {cB cI cJ cZ cS cP : ClassId} {A : Nat → Prop} {ad : Nat → Nat} {u x : CS} {y : MethodName} {b : ByteArray} {rm : Room} {As : List Value} {nA mc ms : Nat} {own : String} {r : va_W} {f f2 : Nat → Int64} {code9 : Int32} {hh : List (Nat × Nat × Nat × Nat)}
/-- a call of one of the law's helpers -/
theorem L_S (C0 : XCx p s s0 b0 m args meth c own cc nL ret D cB cI cJ cZ cS cP A) (hP : va_P D cls ((wC cB cI cJ cZ cS cP ad u ++ oW cJ o f) ++ r) H) (hD : va_D A ((wC cB cI cJ cZ cS cP ad u ++ oW cJ o f) ++ r)) (hS : va_S A s.heap H locs)
    (hC : Met l y (wd_wsW y b n rt hh) rm (hPc s0 b0 D cB cI cJ cZ cS cP (wC cB cI cJ cZ cS cP ad u ++ oW cJ o f) H.size As) (hQc D cB cI cJ cZ cS cP (va_A (wC cB cI cJ cZ cS cP ad u ++ oW cJ o f) H.size) ad u.1.1 x o f2 code9) mc ms (va_A (wC cB cI cJ cZ cS cP ad u ++ oW cJ o f) H.size))
    (hk : Cond.codeWith y b n rt hh ∈ wd_tbl) (hl : Cond.methodLink own idx y ∈ wd_tbl) (hst : Cond.static y ∈ wd_tbl) (hini : Cond.initialized y.cls ∈ wd_tbl) (hrc : rm.cells = mc) (hrs : rm.slots = ms)
    (hd : y.cls ≠ "java/lang/invoke/MethodHandle" ∧ y.cls ≠ "java/lang/invoke/VarHandle" ∧ (parseMethodDescriptor y.desc).map (fun d => d.parameters.length) = some nA) (hAs : As.length = nA) (hR : rm.frames + 1 ≤ R.frames ∧ 8 + (n + 11) + rm.locals ≤ R.locals) (hsz : ls.size = nL) (hr8 : (rest.map fun v => v.category).sum ≤ 8) (hdg : decode cc pc = .ok (.invokestatic idx, 3)) (hst0 : st = As.reverse ++ rest) (hf : cells + mc ≤ R.cells ∧ slots + ms ≤ R.slots)
    (kk : ∀ (ad2 : Nat → Nat) (H1 : Heap) (locs1 : List Loc), (∀ j, j < u.1.1 → ad2 j = ad j) → va_P D cls ((wC cB cI cJ cZ cS cP ad2 x ++ oW cJ o f2) ++ r) H1 → va_D A ((wC cB cI cJ cZ cS cP ad2 x ++ oW cJ o f2) ++ r) → va_S A s.heap H1 locs1 → W p l e R s m args below meth c H1 locs1 (cells + mc) (slots + ms) Q (F0 m (pc + 3) ls (.int code9 :: rest))) : W p l e R s m args below meth c H locs cells slots Q (F0 m pc ls st) := by
  have hp := h_pre (As := As) C0 (fr_l hP) (fd_l hD) hS
  obtain ⟨hx, hb, hr, hml, ht, hown, hK, hA, hlocks, hA0, hO, hbs⟩ := id C0
  subst hst0
  have hws : ∀ w ∈ wd_wsW y b n rt hh, ∀ (a' : Array Value) (U : State), s.WarmedH U.vm → w.before a' U = true := fun w hw a' U hW => by
    rcases List.mem_cons.mp hw with rfl | hw
    · exact word_at hW (wd_gd hk) (ht _ hk)
    · exact word_at hW (wd_gd hw) (ht _ hw)
  have hrun : va_Run p l e R s m args below meth c H locs cells slots mc ms (F0 m pc ls (As.reverse ++ rest)) rest (hQc D cB cI cJ cZ cS cP (va_A (wC cB cI cJ cZ cS cP ad u ++ oW cJ o f) H.size) ad u.1.1 x o f2 code9 As.toArray) (va_A (wC cB cI cJ cZ cS cP ad u ++ oW cJ o f) H.size) := by
    have hBk : Back l R p e below s args y 3 8 (PreOf R mc ms (hPc s0 b0 D cB cI cJ cZ cS cP (wC cB cI cJ cZ cS cP ad u ++ oW cJ o f) H.size As)) (PostOf (hQc D cB cI cJ cZ cS cP (va_A (wC cB cI cJ cZ cS cP ad u ++ oW cJ o f) H.size) ad u.1.1 x o f2 code9) mc ms (va_A (wC cB cI cJ cZ cS cP ad u ++ oW cJ o f) H.size)) := va_backW (hh := hh) (bytes := b) (maxL := n) (ret := rt) hC hp.1 hrc hrs hR.1 hR.2 hws List.mem_cons_self (fun a' U hW => word_at hW (wd_gd hini) (ht _ hini))
    intro T hT X
    obtain ⟨mk, methM, cM, hnamed, hmethM, -, -, -, -, -, -, hsigM⟩ := Cond.codeWith_spec (ht _ hk)
    have hstatic : methM.isStatic = true := Cond.static_spec hnamed hmethM (ht _ hst)
    obtain ⟨kP, hkP, -⟩ := className_of_methodNamed hnamed
    have hinitP : kP.init = .initialized := Cond.initialized_spec (findClass_of_methodNamed hnamed) hkP (ht _ hini)
    have hln : As.length = methM.sig.parameters.length := by
      have h9 := hd.2.2
      rw [hsigM] at h9
      exact hAs.trans (Option.some.inj h9).symm
    obtain ⟨vm₁, X₁, hstep₁⟩ := X.invokestatic hx hown (ht _ hl) hnamed hmethM hstatic hkP hinitP ⟨hd.1, hd.2.1⟩ (g := F0 m pc ls (As.reverse ++ rest)) rfl (argsL := As) (rest := rest) hln rfl (by rw [hb]; exact hdg)
    obtain ⟨v, ⟨U', l2, c2, s2⟩, X', ⟨g', mk', t, L, e1, e2, hq, h1, hL, h2, h3⟩, hsteps⟩ := hBk m meth c ⟨T.setVm vm₁, locs, cells, slots⟩ (F0 m pc ls rest) (.invokestatic idx) mk As.toArray X₁ rfl (hsz.trans hml.symm) (by rw [hb]; exact hdg) (by simpa using hr8) (X₁.named hnamed) ⟨hf.1, hf.2, hp.2 (T.setVm vm₁) hT X₁.warmed⟩
    dsimp only [Pt.U, Pt.locs, Pt.cells, Pt.slots] at X' e1 e2 h1 h2 h3 hsteps
    subst h1; subst h2; subst h3
    exact ⟨v, (T.setVm vm₁).calling g' mk' As.toArray, t, U', L, hT, X', hL, e1, e2, hq, fun target h => hstep₁ _ fun acts => by rw [doInvoke_state]; exact hsteps.trans h⟩
  exact fr_call (ι := Nat → Nat) (w2 := fun ad2 => wC cB cI cJ cZ cS cP ad2 x ++ oW cJ o f2) (val := fun _ => some (.int code9)) (Ex := fun ad2 => ∀ j, j < u.1.1 → ad2 j = ad j) hA hP hD hS hrun (fun st9 t v1 h => by obtain ⟨⟨ad2, hv, hag, hP2, hK2, hD2⟩, hF⟩ := h; cases hv; exact ⟨ad2, hag, rfl, hP2, hD2, hF⟩) (fun ad2 H1 locs1 hag a1 a2 a3 => kk ad2 H1 locs1 hag a1 a2 a3)
end LROW
theorem i_add {k j : Nat} (h : k + j < 2147483648) : Int32.ofNat k + Int32.ofNat j = Int32.ofNat (k + j) := (Int32.ofNat_add k j).symm
theorem i_nat {k : Nat} (h : k < 2147483648) : (Int32.ofNat k).toNatClampNeg = k := Int32.toNatClampNeg_ofNat_of_lt h
theorem i_in {k L : Nat} (h : k < L) (hL : L ≤ 3072) : vp_in (Int32.ofNat k) L := by
  intro h9
  rcases h9 with h9 | h9
  · have h1 := Int32.lt_iff_toInt_lt.mp h9
    rw [Int32.toInt_ofNat_of_lt (by omega)] at h1
    have h2 : (0 : Int32).toInt = 0 := rfl
    omega
  · rw [i_nat (by omega)] at h9
    omega
theorem i_gt {k L : Nat} (hk : k ≤ 3072) (hL : L ≤ 3072) : (Int32.ofNat L - 6 < Int32.ofNat k) ↔ L < k + 6 := by
  have e1 : (Int32.ofNat L - 6).toInt = (L : Int) - 6 := by
    rw [Int32.toInt_sub, Int32.toInt_ofNat_of_lt (by omega)]
    have h2 : (6 : Int32).toInt = 6 := rfl
    rw [h2]
    exact Int.bmod_eq_of_le (by omega) (by omega)
  rw [Int32.lt_iff_toInt_lt, e1, Int32.toInt_ofNat_of_lt (by omega)]
  omega
def R_law : String := "MailHouseLaw"
def lw_P (b : Addr) (xs : List Int32) (args : Array Value) (s : State) : Prop := args = #[.ref b] ∧ s.IntsAt b xs ∧ xs.length ≤ 3072 ∧ (Jvm.Cond.and given_1 narrow_1).before args s = true
def lw_Q (_ : Array Value) (s : State) (o : Outcome) (t : State) : Prop := o = .returned (some (.int 1)) ∧ Framed s o t [] 601024 7293034
def lw_Z (below : List Frame) (a : Array Value) (s : State) : State → Prop := fun t => ∃ o, t.status = .running ∧ Ended t below o ∧ lw_Q a s o t
/-- the law's own end, with 1 on the stack, nothing written that was there before, its room as the claim has it -/
theorem lw_ret {p : Program} {l : Launch} {e : Env} {s : State} {m : MethodId} {below : List Frame} {meth : Method} {c : Code} {b : Nat} (hx : p.tables.exec = Jvm.exec) (hb : c.code = code) (hr : meth.sig.returnType = ret) (hlocks : meth.locks = false) {pc : Nat} {H : Heap} {ls : Array Slot} (hdg : decode code pc = .ok (.ireturn, 1)) : W p l e room_1 s m #[Value.ref b] below meth c H [] 601024 7293034 (lw_Z below #[Value.ref b] s) (F0 m pc ls [.int 1]) := by
  intro T hT X
  obtain ⟨fs, hret, hrun, hended, hW, hframe⟩ := X.leave (v := some (.int 1)) (hlocks := hlocks) (fun h => by rw [hr] at h; cases h)
  have hmeth' : T.vm.method? m = some meth := X.method'
  refine ⟨T.setFrames fs, ?_, .returned (some (.int 1)), hrun, hended, rfl, ⟨_, rfl⟩, hW, hframe⟩
  jvm_step X.here [X.here.top, hx, hb, hdg, hmeth', hr, ret, narrow_b1]
  (try refine ⟨rfl, ?_⟩); (try refine ⟨rfl, ?_⟩)
  first | (intro acts; rw [hret _ acts rfl rfl rfl]) | rw [hret _ _ rfl rfl rfl]
  exact Steps.refl _
/-- what holds at the law's entry: the machine, the code, the tables' words (any of lw_tbl by 'hts w (by decide +kernel)'), the script of L ints xs at the cell b, what the Statement gives of the start (any of its parts by flat_of_before) -/
def lw_At (p : Program) (s : State) (m : MethodId) (meth : Method) (c : Code) (b L : Nat) (xs : Nat → Int32) : Prop :=
  p.tables.exec = Jvm.exec ∧ c.code = code ∧ meth.sig.returnType = ret ∧ c.maxLocals = 7 ∧ s.vm.findClass R_law = some m.cls ∧ (∀ w ∈ lw_tbl, w.before #[Value.ref b] s = true) ∧ va_X b L xs s s.heap ∧ b < s.heap.size ∧ meth.locks = false ∧ (Jvm.Cond.and given_1 narrow_1).before #[Value.ref b] s = true
