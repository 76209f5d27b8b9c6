/-! hooks in a chain arrive, there -/
set_option maxRecDepth 100000
/-- hooks in a chain, the latest first -/
def HKc (m : MS) : List Nat → Int32 → Prop
  | [], v => v = 0
  | h :: hs, v => v = I (h : Nat) ∧ (0 < h ∧ h < 24000) ∧ (∀ h', h' ∈ hs → h' < h) ∧ HKc m hs (m.2.2.1 23 h)
/-- they have arrived -/
def HKz (m Z : MS) (hs : List Nat) (b : Nat) : Prop := Z.1 = m.1 ∧ (∀ k, k ≠ 23 → Z.2.2.1 k = m.2.2.1 k) ∧ Z.2.2.2 = m.2.2.2 ∧ (∀ j, j ∉ hs → Z.2.2.1 23 j = m.2.2.1 23 j) ∧ ∀ j, j ∈ hs → Z.2.2.1 23 j = I (b : Nat)
section
variable {α β : Type} {m0 w0 m w m2 w2 m3 w3 v u Z : MS} {K nm Nk W W2 : Nat → Nat} {N T D d o a b b' c cm x i M : Nat} {sc : SCT} {g : Bool} {hs : List Nat} {v1 : Int32} {RU : MS → α → MS → β → Prop} {fA : MS → Unit → Option (MS × α)} {BU : Option (MS × β)}
theorem Kco_Z (h : XCS m0 nm m a cm sc g) (h1 : Z.1 = m.1) (h2 : ∀ k, k ≠ 23 → Z.2.2.1 k = m.2.2.1 k) : XCS m0 nm Z a cm sc g := by
  obtain ⟨z1, z2⟩ := Z
  have h1 : z1 = m.1 := h1
  subst h1
  obtain ⟨⟨h1, h3, h4, h5, h6, h7⟩, h8⟩ := h
  exact ⟨⟨⟨h1.1, fun k hk => (h2 k (by omega)).trans (h1.2 k hk)⟩, ⟨h3.1, h3.2.1, h3.2.2.1, h3.2.2.2.1, CNl_fr h3.2.2.2.2 (h2 40 (by decide)) (fun j _ => by rw [h2 39 (by decide)])⟩, h4, h5, by rw [h2 41 (by decide)]; exact h6, h7⟩, h8⟩
theorem HKc_fr : ∀ {hs : List Nat} {v : Int32}, HKc m hs v → (∀ j, j ∈ hs → m2.2.2.1 23 j = m.2.2.1 23 j) → HKc m2 hs v
  | [], _, h, _ => h
  | h :: hs, v, k, hh => ⟨k.1, k.2.1, k.2.2.1, by rw [hh h List.mem_cons_self]; exact HKc_fr k.2.2.2 (fun j hj => hh j (List.mem_cons_of_mem _ hj))⟩
theorem HKc_len : ∀ {hs : List Nat} {v : Int32}, HKc m hs v → ∀ n, (∀ h, h ∈ hs → h < n) → hs.length ≤ n
  | [], _, _, n, _ => Nat.zero_le n
  | h :: hs, v, k, n, hn => by
    have h1 := hn h List.mem_cons_self
    have := HKc_len k.2.2.2 h k.2.2.1
    show hs.length + 1 ≤ n
    omega
theorem arr_lp (h441 : m.1 441 = I (b : Nat)) : ∀ (hs : List Nat) (M i : Nat) (u : MS) (v : Int32), u.1 = m.1 → HKc u hs v → i + hs.length ≤ 24000 → (∀ Z, HKz u Z hs b → PP RU (fA Z ()) BU) → PP RU (bnd (hg_Co_arrive N M u v (I (i : Nat))) fA) BU
  | _, 0, _, _, _, _, _, _, _ => pp_nl
  | [], M + 1, i, u, v, hu, hk, hi, hh => by
    have hk : v = 0 := hk
    subst hk
    show PP RU (bnd (hb_Co_arrive_4 N (hg_Co_arrive N M) u 0 (I (i : Nat))) fA) BU
    unfold hb_Co_arrive_4 hb_Co_arrive_40
    have e : PP RU (fA u ()) BU := hh u ⟨rfl, fun _ _ => rfl, rfl, fun _ _ => rfl, fun j hj => by cases hj⟩
    rw [show decide ((0 : Int32) = 0) = true from rfl, br_t]
    by_cases z : decide ((24000 : Int32) ≤ I (i : Nat)) = true
    · rw [z, br_t, bnd_s]; exact e
    · rw [Bool.eq_false_iff.mpr z, br_f, bnd_s]; exact e
  | x :: hs, M + 1, i, u, v, hu, hk, hi, hh => by
    obtain ⟨rfl, hx, hlt, hk2⟩ := hk
    have hi2 : i + (hs.length + 1) ≤ 24000 := hi
    show PP RU (bnd (hb_Co_arrive_4 N (hg_Co_arrive N M) u (I (x : Nat)) (I (i : Nat))) fA) BU
    unfold hb_Co_arrive_4
    have d1 : decide (I (x : Nat) < (0 : Int32)) = false := decide_eq_false (fun z => by
      have := (I_lt (x := ((x : Nat) : Int)) (y := 0) (by omega) (by omega) (by decide) (by decide)).mp z
      omega)
    have d2 : decide (I (x : Nat) < (24000 : Int32)) = true := decide_eq_true ((I_lt (x := ((x : Nat) : Int)) (y := 24000) (by omega) (by omega) (by decide) (by decide)).mpr (by omega))
    have d3 : decide ((24000 : Int32) ≤ I (x : Nat)) = false := decide_eq_false (fun z => by
      have := (I_le (x := 24000) (y := ((x : Nat) : Int)) (by decide) (by decide) (by omega) (by omega)).mp z
      omega)
    have d4 : decide ((24000 : Int32) ≤ I (i : Nat)) = false := decide_eq_false (fun z => by
      have := (I_le (x := 24000) (y := ((i : Nat) : Int)) (by decide) (by decide) (by omega) (by omega)).mp z
      omega)
    rw [d4, br_f, decide_eq_false (fun z => by
      have := (I_eq (x := ((x : Nat) : Int)) (y := 0) (by omega) (by omega) (by decide) (by decide)).mp z
      omega), br_f]
    unfold hm_Co_at hb_Co_at_0 hb_Co_at_21 hm_Co_set hb_Co_set_0 hb_Co_set_18
    rw [d1, br_f, d2, br_t, i_inb (by omega) (by decide), ck_t, bnd_s, br_f, d3, br_f, ck_t, i_nt2 (p := x) (by omega), hu, h441, lt_e, bnd_s, i_suc]
    have eb : ∀ gg, (upA u 23 gg).1 = m.1 := fun _ => hu
    refine arr_lp h441 hs M (i + 1) _ _ (eb _) (HKc_fr hk2 (fun j hj => by rw [upA_at, upd_no (by have := hlt j hj; omega)])) (by omega) (fun Z hZ => hh Z ?_)
    obtain ⟨z1, z2, z3, z4, z5⟩ := hZ
    refine ⟨z1, fun k hk => by rw [z2 k hk, upA_no hk], z3, fun j hj => ?_, fun j hj => ?_⟩
    · have h1 : j ∉ hs := fun y => hj (List.mem_cons_of_mem _ y)
      have h2 : j ≠ x := fun y => hj (by rw [y]; exact List.mem_cons_self)
      rw [z4 j h1, upA_at, upd_no h2]
    · by_cases y : j ∈ hs
      · exact z5 j y
      · rcases List.mem_cons.mp hj with rfl | y2
        · rw [z4 _ y, upA_at, upd_at]
        · exact absurd y2 y
/-- a chain of hooks arrives -/
theorem arr_n (hC : XCS m0 nm m b cm sc g) (hk : HKc m hs v1) (h : ∀ Z, HKz m Z hs b → XCS m0 nm Z b cm sc g → PP RU (fA Z ()) BU) : PP RU (bnd (hm_Co_arrive N m v1) fA) BU := by
  have hl : hs.length ≤ 24000 := HKc_len hk 24000 (fun x hx => by
    clear h
    cases hs with
    | nil => cases hx
    | cons y hs =>
      obtain ⟨-, h2, h3, -⟩ := hk
      rcases List.mem_cons.mp hx with rfl | z
      · exact h2.2
      · have := h3 x z; omega)
  unfold hm_Co_arrive hb_Co_arrive_0
  exact arr_lp hC.1.2.2.1.1 hs N 0 m v1 rfl hk (by omega) (fun Z hZ => h Z hZ (Kco_Z hC hZ.1 hZ.2.1))
end
