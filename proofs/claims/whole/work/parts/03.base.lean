/-! THE PURE WORLD: a heap of ints by names; cells of the class and of the reference by a fixed shape. -/
abbrev zH : Type := Nat → Nat → Int32
abbrev zR : Type := Option (Int32 × zH)
/-- D, int[], char[], string cells, their byte rows, what may change, names, links, addresses -/
abbrev zG : Type := va_G × ClassId × ClassId × (Nat → Nat) × (Nat → Nat) × (Nat → Prop) × List Nat × (Nat → Nat → Bool) × (Nat → Nat)
def zD (G : zG) : va_G := G.1
def zaI (G : zG) : ClassId := G.2.1
def zaC (G : zG) : ClassId := G.2.2.1
def zaK (G : zG) : Nat → Nat := G.2.2.2.1
def zaV (G : zG) : Nat → Nat := G.2.2.2.2.1
def zA (G : zG) : Nat → Prop := G.2.2.2.2.2.1
def znm (G : zG) : List Nat := G.2.2.2.2.2.2.1
def zlk (G : zG) : Nat → Nat → Bool := G.2.2.2.2.2.2.2.1
def zal (G : zG) : Nat → Nat := G.2.2.2.2.2.2.2.2
def zup (h : zH) (c k : Nat) (x : Int32) : zH := fun d => if d = c then upd (h c) k x else h d
def zcp (h : zH) (a b : Nat) (sp dp n : Int32) : zH := fun d => if d = b then va_cpy (h a) (h b) sp.toNatClampNeg dp.toNatClampNeg n.toNatClampNeg else h d
def zck (i : Int32) (n : Nat) (k : zR) : zR := if i < 0 ∨ n ≤ i.toNatClampNeg then none else k
def znz (y : Int32) (k : zR) : zR := if y = 0 then none else k
def zbo (y : Int32) (k : zR) : zR := if y = 0 ∨ y = 1 then k else none
def zcc (n0 n1 : Nat) (sp dp n : Int32) (k : zR) : zR := if sp < 0 ∨ dp < 0 ∨ n < 0 ∨ n0 < sp.toNatClampNeg + n.toNatClampNeg ∨ n1 < dp.toNatClampNeg + n.toNatClampNeg then none else k
def zbd (x : zR) (k : Int32 → zH → zR) : zR := match x with
  | none => none
  | some (r, h) => k r h
theorem zck_some {i : Int32} {n : Nat} {k : zR} {q : Int32 × zH} (h : zck i n k = some q) : vp_in i n ∧ k = some q := by
  unfold zck at h
  split at h
  · cases h
  · rename_i h0; exact ⟨h0, h⟩
theorem znz_some {y : Int32} {k : zR} {q : Int32 × zH} (h : znz y k = some q) : ¬ y = 0 ∧ k = some q := by
  unfold znz at h
  split at h
  · cases h
  · rename_i h0; exact ⟨h0, h⟩
theorem zbo_some {y : Int32} {k : zR} {q : Int32 × zH} (h : zbo y k = some q) : narrow .boolean (.int y) = .int y ∧ k = some q := by
  unfold zbo at h
  split at h
  · rename_i h0
    refine ⟨?_, h⟩
    rcases h0 with rfl | rfl <;> rfl
  · cases h
theorem zcc_some {n0 n1 : Nat} {sp dp n : Int32} {k : zR} {q : Int32 × zH} (h : zcc n0 n1 sp dp n k = some q) : (¬ sp < 0 ∧ ¬ dp < 0 ∧ ¬ n < 0 ∧ sp.toNatClampNeg + n.toNatClampNeg ≤ n0 ∧ dp.toNatClampNeg + n.toNatClampNeg ≤ n1) ∧ k = some q := by
  unfold zcc at h
  split at h
  · cases h
  · rename_i h0
    simp only [not_or, Nat.not_lt] at h0
    exact ⟨h0, h⟩
theorem zbd_some {x : zR} {k : Int32 → zH → zR} {q : Int32 × zH} (h : zbd x k = some q) : ∃ r h1, x = some (r, h1) ∧ k r h1 = some q := by
  unfold zbd at h
  split at h
  · cases h
  · exact ⟨_, _, rfl, h⟩
theorem zif_t {P : Prop} [Decidable P] {a b : zR} {q : Int32 × zH} (hp : P) (h : (if P then a else b) = some q) : a = some q := (if_pos hp).symm.trans h
theorem zif_f {P : Prop} [Decidable P] {a b : zR} {q : Int32 × zH} (hp : ¬ P) (h : (if P then a else b) = some q) : b = some q := (if_neg hp).symm.trans h
/-- an int; a link set once; a link that may be null -/
def zv (lk : Nat → Nat → Bool) (al : Nat → Nat) (g : Nat → Int32) (c i : Nat) : Option (Nat × Bool) → Value
  | none => .int (g i)
  | some (d, false) => if lk c i = true then .ref (al d) else .null
  | some (d, true) => if g i = 0 then .null else .ref (al d)
def zfs (lk : Nat → Nat → Bool) (al : Nat → Nat) (g : Nat → Int32) (c : Nat) : Nat → List (Option (Nat × Bool)) → List Value
  | _, [] => []
  | i, f :: l => zv lk al g c i f :: zfs lk al g c (i + 1) l
theorem zfs_get {lk : Nat → Nat → Bool} {al : Nat → Nat} {g : Nat → Int32} {c : Nat} : ∀ (l : List (Option (Nat × Bool))) (i k : Nat), (zfs lk al g c i l)[k]? = (l[k]?).map (zv lk al g c (i + k)) := by
  intro l
  induction l with
  | nil => intro i k; simp [zfs]
  | cons f l ih =>
    intro i k
    cases k with
    | zero => simp [zfs]
    | succ k => simp only [zfs, List.getElem?_cons_succ, ih]; rw [show i + 1 + k = i + (k + 1) by omega]
abbrev zSh : Type := (Bool × Nat) ⊕ (Nat × List (Option (Nat × Bool)))
def zshL : List zSh := [.inr (11, [some (1, false), some (22, false), some (29, false), some (38, false), some (44, false), some (50, true), some (71, true), some (74, true), some (80, true)]),
  .inr (4, [some (2, false), some (7, false), some (11, false), some (16, false), some (20, false), some (21, false), none, none, none]),
  .inr (3, [some (3, false), some (4, false), some (5, false), some (6, false), none]),
  .inl (false, 16),
  .inl (false, 16),
  .inl (false, 16),
  .inl (false, 96),
  .inr (9, [some (8, false), some (9, false), some (10, false), none, none]),
  .inl (false, 8),
  .inl (false, 8),
  .inl (false, 8),
  .inr (0, [some (12, false), some (13, false), some (14, false), some (15, false), none, none]),
  .inl (false, 256),
  .inl (false, 256),
  .inl (false, 6),
  .inl (false, 600),
  .inr (5, [some (17, false), some (18, false), some (19, false), none, none]),
  .inl (false, 400),
  .inl (false, 400),
  .inl (false, 40),
  .inl (false, 6),
  .inl (false, 7),
  .inr (6, [some (23, false), some (24, false), some (25, false), some (26, false), some (27, false), some (28, false), none, none]),
  .inl (false, 6),
  .inl (false, 48),
  .inl (false, 48),
  .inl (false, 36),
  .inl (false, 6),
  .inl (false, 6),
  .inr (7, [some (30, false), some (31, false), some (32, false), some (33, false), some (34, false), none, none, none, none, none, none]),
  .inl (true, 400),
  .inl (false, 401),
  .inl (false, 401),
  .inl (false, 401),
  .inr (5, [some (35, false), some (36, false), some (37, false), none, none]),
  .inl (false, 400),
  .inl (false, 400),
  .inl (false, 40),
  .inr (1, [some (1, false), some (39, false), some (40, false), some (41, false), some (42, false), some (43, false), none, none, none, none, none, none, none, none]),
  .inl (false, 256),
  .inl (false, 256),
  .inl (false, 6),
  .inl (false, 8),
  .inl (false, 8),
  .inl (false, 8),
  .inl (false, 0),
  .inl (false, 0),
  .inl (false, 0),
  .inl (false, 0),
  .inl (false, 0),
  .inr (4, [some (51, false), some (56, false), some (60, false), some (65, false), some (69, false), some (70, false), none, none, none]),
  .inr (3, [some (52, false), some (53, false), some (54, false), some (55, false), none]),
  .inl (false, 16),
  .inl (false, 16),
  .inl (false, 16),
  .inl (false, 96),
  .inr (9, [some (57, false), some (58, false), some (59, false), none, none]),
  .inl (false, 8),
  .inl (false, 8),
  .inl (false, 8),
  .inr (0, [some (61, false), some (62, false), some (63, false), some (64, false), none, none]),
  .inl (false, 256),
  .inl (false, 256),
  .inl (false, 6),
  .inl (false, 600),
  .inr (5, [some (66, false), some (67, false), some (68, false), none, none]),
  .inl (false, 400),
  .inl (false, 400),
  .inl (false, 40),
  .inl (false, 6),
  .inl (false, 7),
  .inr (8, [some (38, false), some (72, false), some (73, false), none, none]),
  .inl (false, 7),
  .inl (false, 7),
  .inr (2, [some (75, false), some (76, false), some (77, false), some (78, false), some (79, false), none, none, none]),
  .inl (false, 2304),
  .inl (false, 64),
  .inl (false, 8),
  .inl (false, 8),
  .inl (false, 16),
  .inr (10, [some (81, false), some (82, false), none, none]),
  .inl (false, 656),
  .inl (false, 256),
  .inl (false, 0),
  .inl (false, 0),
  .inl (false, 0),
  .inl (false, 0),
  .inl (false, 0),
  .inl (false, 0),
  .inl (false, 0),
  .inl (false, 0),
  .inl (false, 0),
  .inl (false, 0),
  .inl (false, 0),
  .inl (false, 0),
  .inl (false, 0),
  .inl (false, 0),
  .inl (false, 0),
  .inl (false, 0),
  .inl (false, 0),
  .inr (12, [some (101, false), some (102, false), some (103, false), some (104, false), none, none, some (105, false), some (106, false), some (107, false), some (108, false), some (109, false), none, none, none, none, none, none, none, none, none, none, none, none, none, none, none, none, some (110, false), some (111, false), some (112, false), some (113, false), none, none, some (114, false), some (115, false), none, some (116, false), some (117, false)]),
  .inl (false, 2220),
  .inl (false, 2220),
  .inl (false, 3150),
  .inl (false, 512),
  .inl (false, 48),
  .inl (false, 820),
  .inl (false, 400),
  .inl (false, 420),
  .inl (false, 8),
  .inl (false, 16),
  .inl (false, 16),
  .inl (false, 2304),
  .inl (false, 16),
  .inl (false, 8),
  .inl (false, 8),
  .inl (false, 656),
  .inl (false, 96)]
def zsh (c : Nat) : zSh := zshL.getD c (.inl (false, 0))
theorem sh_0 : zsh 0 = .inr (11, [some (1, false), some (22, false), some (29, false), some (38, false), some (44, false), some (50, true), some (71, true), some (74, true), some (80, true)]) := rfl
theorem sh_1 : zsh 1 = .inr (4, [some (2, false), some (7, false), some (11, false), some (16, false), some (20, false), some (21, false), none, none, none]) := rfl
theorem sh_2 : zsh 2 = .inr (3, [some (3, false), some (4, false), some (5, false), some (6, false), none]) := rfl
theorem sh_3 : zsh 3 = .inl (false, 16) := rfl
theorem sh_4 : zsh 4 = .inl (false, 16) := rfl
theorem sh_5 : zsh 5 = .inl (false, 16) := rfl
theorem sh_6 : zsh 6 = .inl (false, 96) := rfl
theorem sh_7 : zsh 7 = .inr (9, [some (8, false), some (9, false), some (10, false), none, none]) := rfl
theorem sh_8 : zsh 8 = .inl (false, 8) := rfl
theorem sh_9 : zsh 9 = .inl (false, 8) := rfl
theorem sh_10 : zsh 10 = .inl (false, 8) := rfl
theorem sh_11 : zsh 11 = .inr (0, [some (12, false), some (13, false), some (14, false), some (15, false), none, none]) := rfl
theorem sh_12 : zsh 12 = .inl (false, 256) := rfl
theorem sh_13 : zsh 13 = .inl (false, 256) := rfl
theorem sh_14 : zsh 14 = .inl (false, 6) := rfl
theorem sh_15 : zsh 15 = .inl (false, 600) := rfl
theorem sh_16 : zsh 16 = .inr (5, [some (17, false), some (18, false), some (19, false), none, none]) := rfl
theorem sh_17 : zsh 17 = .inl (false, 400) := rfl
theorem sh_18 : zsh 18 = .inl (false, 400) := rfl
theorem sh_19 : zsh 19 = .inl (false, 40) := rfl
theorem sh_20 : zsh 20 = .inl (false, 6) := rfl
theorem sh_21 : zsh 21 = .inl (false, 7) := rfl
theorem sh_22 : zsh 22 = .inr (6, [some (23, false), some (24, false), some (25, false), some (26, false), some (27, false), some (28, false), none, none]) := rfl
theorem sh_23 : zsh 23 = .inl (false, 6) := rfl
theorem sh_24 : zsh 24 = .inl (false, 48) := rfl
theorem sh_25 : zsh 25 = .inl (false, 48) := rfl
theorem sh_26 : zsh 26 = .inl (false, 36) := rfl
theorem sh_27 : zsh 27 = .inl (false, 6) := rfl
theorem sh_28 : zsh 28 = .inl (false, 6) := rfl
theorem sh_29 : zsh 29 = .inr (7, [some (30, false), some (31, false), some (32, false), some (33, false), some (34, false), none, none, none, none, none, none]) := rfl
theorem sh_30 : zsh 30 = .inl (true, 400) := rfl
theorem sh_31 : zsh 31 = .inl (false, 401) := rfl
theorem sh_32 : zsh 32 = .inl (false, 401) := rfl
theorem sh_33 : zsh 33 = .inl (false, 401) := rfl
theorem sh_34 : zsh 34 = .inr (5, [some (35, false), some (36, false), some (37, false), none, none]) := rfl
theorem sh_35 : zsh 35 = .inl (false, 400) := rfl
theorem sh_36 : zsh 36 = .inl (false, 400) := rfl
theorem sh_37 : zsh 37 = .inl (false, 40) := rfl
theorem sh_38 : zsh 38 = .inr (1, [some (1, false), some (39, false), some (40, false), some (41, false), some (42, false), some (43, false), none, none, none, none, none, none, none, none]) := rfl
theorem sh_39 : zsh 39 = .inl (false, 256) := rfl
theorem sh_40 : zsh 40 = .inl (false, 256) := rfl
theorem sh_41 : zsh 41 = .inl (false, 6) := rfl
theorem sh_42 : zsh 42 = .inl (false, 8) := rfl
theorem sh_43 : zsh 43 = .inl (false, 8) := rfl
theorem sh_44 : zsh 44 = .inl (false, 8) := rfl
theorem sh_50 : zsh 50 = .inr (4, [some (51, false), some (56, false), some (60, false), some (65, false), some (69, false), some (70, false), none, none, none]) := rfl
theorem sh_51 : zsh 51 = .inr (3, [some (52, false), some (53, false), some (54, false), some (55, false), none]) := rfl
theorem sh_52 : zsh 52 = .inl (false, 16) := rfl
theorem sh_53 : zsh 53 = .inl (false, 16) := rfl
theorem sh_54 : zsh 54 = .inl (false, 16) := rfl
theorem sh_55 : zsh 55 = .inl (false, 96) := rfl
theorem sh_56 : zsh 56 = .inr (9, [some (57, false), some (58, false), some (59, false), none, none]) := rfl
theorem sh_57 : zsh 57 = .inl (false, 8) := rfl
theorem sh_58 : zsh 58 = .inl (false, 8) := rfl
theorem sh_59 : zsh 59 = .inl (false, 8) := rfl
theorem sh_60 : zsh 60 = .inr (0, [some (61, false), some (62, false), some (63, false), some (64, false), none, none]) := rfl
theorem sh_61 : zsh 61 = .inl (false, 256) := rfl
theorem sh_62 : zsh 62 = .inl (false, 256) := rfl
theorem sh_63 : zsh 63 = .inl (false, 6) := rfl
theorem sh_64 : zsh 64 = .inl (false, 600) := rfl
theorem sh_65 : zsh 65 = .inr (5, [some (66, false), some (67, false), some (68, false), none, none]) := rfl
theorem sh_66 : zsh 66 = .inl (false, 400) := rfl
theorem sh_67 : zsh 67 = .inl (false, 400) := rfl
theorem sh_68 : zsh 68 = .inl (false, 40) := rfl
theorem sh_69 : zsh 69 = .inl (false, 6) := rfl
theorem sh_70 : zsh 70 = .inl (false, 7) := rfl
theorem sh_71 : zsh 71 = .inr (8, [some (38, false), some (72, false), some (73, false), none, none]) := rfl
theorem sh_72 : zsh 72 = .inl (false, 7) := rfl
theorem sh_73 : zsh 73 = .inl (false, 7) := rfl
theorem sh_74 : zsh 74 = .inr (2, [some (75, false), some (76, false), some (77, false), some (78, false), some (79, false), none, none, none]) := rfl
theorem sh_75 : zsh 75 = .inl (false, 2304) := rfl
theorem sh_76 : zsh 76 = .inl (false, 64) := rfl
theorem sh_77 : zsh 77 = .inl (false, 8) := rfl
theorem sh_78 : zsh 78 = .inl (false, 8) := rfl
theorem sh_79 : zsh 79 = .inl (false, 16) := rfl
theorem sh_80 : zsh 80 = .inr (10, [some (81, false), some (82, false), none, none]) := rfl
theorem sh_81 : zsh 81 = .inl (false, 656) := rfl
theorem sh_82 : zsh 82 = .inl (false, 256) := rfl
theorem sh_100 : zsh 100 = .inr (12, [some (101, false), some (102, false), some (103, false), some (104, false), none, none, some (105, false), some (106, false), some (107, false), some (108, false), some (109, false), none, none, none, none, none, none, none, none, none, none, none, none, none, none, none, none, some (110, false), some (111, false), some (112, false), some (113, false), none, none, some (114, false), some (115, false), none, some (116, false), some (117, false)]) := rfl
theorem sh_101 : zsh 101 = .inl (false, 2220) := rfl
theorem sh_102 : zsh 102 = .inl (false, 2220) := rfl
theorem sh_103 : zsh 103 = .inl (false, 3150) := rfl
theorem sh_104 : zsh 104 = .inl (false, 512) := rfl
theorem sh_105 : zsh 105 = .inl (false, 48) := rfl
theorem sh_106 : zsh 106 = .inl (false, 820) := rfl
theorem sh_107 : zsh 107 = .inl (false, 400) := rfl
theorem sh_108 : zsh 108 = .inl (false, 420) := rfl
theorem sh_109 : zsh 109 = .inl (false, 8) := rfl
theorem sh_110 : zsh 110 = .inl (false, 16) := rfl
theorem sh_111 : zsh 111 = .inl (false, 16) := rfl
theorem sh_112 : zsh 112 = .inl (false, 2304) := rfl
theorem sh_113 : zsh 113 = .inl (false, 16) := rfl
theorem sh_114 : zsh 114 = .inl (false, 8) := rfl
theorem sh_115 : zsh 115 = .inl (false, 8) := rfl
theorem sh_116 : zsh 116 = .inl (false, 656) := rfl
theorem sh_117 : zsh 117 = .inl (false, 96) := rfl
abbrev zcl : List vw_C := [(RX0, TX0, 6), (RX1, TX1, 14), (RX2, TX2, 8), (RX3, TX3, 5), (RX4, TX4, 9), (RX5, TX5, 5), (RX6, TX6, 8), (RX7, TX7, 11), (RX8, TX8, 5), (RX9, TX9, 5), (RX10, TX10, 4), (RX11, TX11, 9), (RX12, TX12, 38)]
abbrev znest : List (String × Nat × MethodName × String) := [(RX11, 11, yX4_init, "HalfAJoke"), (RX4, 11, yX3_init, "HalfAJoke"), (RX4, 27, yX0_init, "HalfAJoke"), (RX4, 34, yX5_init, "HalfAJoke"), (RX11, 18, yX6_init, "HalfAJoke"), (RX11, 25, yX7_init, "HalfAJoke"), (RX7, 27, yX5_init, "HalfAJoke"), (RX3, 34, yX11_isBelow, "HalfAJoke"), (RX3, 46, yX11_isIn, "HalfAJoke"), (RX9, 38, yX11_isBelow, "HalfAJoke"), (RX1, 79, yX11_isIn, "HalfAJoke"), (RX1, 101, yX11_pairOf, "HalfAJoke"), (RX4, 77, yX11_pairOf, "HalfAJoke"), (RX11, 238, yX2_init, "HalfAJoke"), (RX2, 67, yX11_isIn, "HalfAJoke"), (RX8, 54, yX11_isIn, "HalfAJoke"), (RX11, 282, yX10_init, "HalfAJoke"), (RX10, 40, yX11_pairOf, "HalfAJoke")]
abbrev zstr : List (String × Nat × String × Nat) := [(RX7, 98, "laughwhen or   and  not  frontend  same told sincenightjoke ", 0), (RX7, 87, ";+-*/()<=>", 1), (RX12, 153, "when", 2), (RX12, 155, "or", 3), (RX12, 157, "and", 4), (RX12, 159, "not", 5), (RX12, 161, "laugh", 6), (RX12, 135, "front", 7), (RX12, 141, "end", 8), (RX12, 143, "same", 9), (RX12, 145, "told", 10), (RX12, 147, "since", 11), (RX12, 149, "night", 12), (RX12, 151, "joke", 13)]
abbrev znS : Nat := 14
abbrev zlen : List Nat := [60, 10, 4, 2, 3, 3, 5, 5, 3, 4, 4, 5, 5, 4]
abbrev zbyt : List (List Int32) := [[108, 97, 117, 103, 104, 119, 104, 101, 110, 32, 111, 114, 32, 32, 32, 97, 110, 100, 32, 32, 110, 111, 116, 32, 32, 102, 114, 111, 110, 116, 101, 110, 100, 32, 32, 115, 97, 109, 101, 32, 116, 111, 108, 100, 32, 115, 105, 110, 99, 101, 110, 105, 103, 104, 116, 106, 111, 107, 101, 32], [59, 43, 45, 42, 47, 40, 41, 60, 61, 62], [119, 104, 101, 110], [111, 114], [97, 110, 100], [110, 111, 116], [108, 97, 117, 103, 104], [102, 114, 111, 110, 116], [101, 110, 100], [115, 97, 109, 101], [116, 111, 108, 100], [115, 105, 110, 99, 101], [110, 105, 103, 104, 116], [106, 111, 107, 101]]
def zce (aI aC : ClassId) (lk : Nat → Nat → Bool) (al : Nat → Nat) (g : Nat → Int32) (c : Nat) : va_E := match zsh c with
  | .inl (b, n) => .inl (if b = true then aC else aI, n, .inl g)
  | .inr (ci, fl) => .inr (ci, zfs lk al g c 0 fl)
def zwd (G : zG) (h : zH) : va_W := (znm G).map fun c => (zal G c, zce (zaI G) (zaC G) (zlk G) (zal G) (h c) c)
def zS (G : zG) (h : zH) (H0 H : Heap) (locs : List Loc) : Prop := va_P (zD G) zcl (zwd G h) H ∧ va_D (zA G) (zwd G h) ∧ va_S (zA G) H0 H locs
def ztys (G : zG) : List (ClassId × FieldType) := [(zaI G, .int), (zaC G, .char)]
def zK (G : zG) (U : State) : Prop := va_K (zD G) zcl (ztys G) U ∧ (∀ q ∈ znest, va_Nw (.methodLinkNest q.1 q.2.1 q.2.2.1 q.2.2.2) U) ∧ ∀ q ∈ zstr, vk_R q.1 q.2.1 q.2.2.1 (zaK G q.2.2.2) U
def zE (G : zG) (U : State) (H : Heap) : Prop := vk_S znS zlen zbyt (zaK G) (zaV G) (zA G) U H ∧ va_Z "java/lang/String" "COMPACT_STRINGS" "Z" (.int 1) (zA G) U H ∧ va_Zq "jdk/internal/util/Preconditions" "SIOOBE_FORMATTER" "Ljava/util/function/BiFunction;" (zA G) U H
theorem zE.moved {G : zG} {u U : State} {H : Heap} (hvm : u.vm.Alike U.vm) (h : zE G u H) : zE G U H := ⟨vk_S.moved hvm h.1, va_Z.moved hvm h.2.1, va_Zq.moved hvm h.2.2⟩
theorem zE.kept {G : zG} {U : State} {H H1 : Heap} (h : zE G U H) (hq : ∀ a : Nat, a < H.size → ¬ zA G a → H1[a]? = H[a]?) : zE G U H1 := ⟨vk_S.kept h.1 hq, va_Z.kept h.2.1 hq, va_Zq.kept h.2.2 hq⟩
def zPre (G : zG) (h : zH) (U : State) : Prop := va_P (zD G) zcl (zwd G h) U.heap ∧ va_D (zA G) (zwd G h) ∧ (∀ q, U.heap.size ≤ q → zA G q) ∧ zK G U ∧ zE G U U.heap
def zPost (G : zG) (h : zH) (t : State) : Prop := va_P (zD G) zcl (zwd G h) t.heap ∧ va_D (zA G) (zwd G h)
def zrm (n : Nat) : Room := { frames := n, cells := 0, slots := 0, locals := 60 * n }
def zg : List Cond := lw_tbl.filter goodWord
theorem zg_of {w : Cond} (h : w ∈ lw_tbl) (hg : goodWord w = true) : w ∈ zg := List.mem_filter.mpr ⟨h, hg⟩
theorem zg_in {w : Cond} (h : w ∈ zg) : w ∈ lw_tbl ∧ goodWord w = true := List.mem_filter.mp h
abbrev zw (y : MethodName) (cc : ByteArray) (n : Nat) (ret : Option FieldType) : List Cond := Cond.code y cc n ret :: zg
theorem zgood {y : MethodName} {cc : ByteArray} {n : Nat} {ret : Option FieldType} (h : Cond.code y cc n ret ∈ zg) : GoodIn zg (zw y cc n ret) := fun w hw =>
  (List.mem_cons.mp hw).elim (fun e => e ▸ ⟨h, good_of_word (zg_in h).2⟩) (fun hw => ⟨hw, good_of_word (zg_in hw).2⟩)
def zQI (G : zG) (h : zH) (r : Int32) : Array Value → State → Outcome → State → Prop := va_Qi (fun r' (_ : Unit) => r' = r) (fun _ t => zPost G h t) (zA G)
def zQV (G : zG) (h : zH) : Array Value → State → Outcome → State → Prop := va_Qv (fun (_ : Unit) => True) (fun _ t => zPost G h t) (zA G)
def zCtI (l : Launch) (y : MethodName) (cc : ByteArray) (nL : Nat) (ret : Option FieldType) (n : Nat) (av : List Value) (G : zG) (h h' : zH) (r : Int32) : Prop := Met l y (zw y cc nL ret) (zrm n) (va_Pc av (zPre G h)) (zQI G h' r) 0 0 (zA G)
def zCtV (l : Launch) (y : MethodName) (cc : ByteArray) (nL : Nat) (ret : Option FieldType) (n : Nat) (av : List Value) (G : zG) (h h' : zH) : Prop := Met l y (zw y cc nL ret) (zrm n) (va_Pc av (zPre G h)) (zQV G h') 0 0 (zA G)
def zC (G : zG) (p : Program) (s : State) (m : MethodId) (args : Array Value) (meth : Method) (c : Code) (cc : ByteArray) (nL : Nat) (own : String) (ret : Option FieldType) : Prop :=
  p.tables.exec = Jvm.exec ∧ c.code = cc ∧ c.maxLocals = nL ∧ s.vm.findClass own = some m.cls ∧ (∀ w ∈ zg, w.before args s = true) ∧ zK G s ∧ zE G s s.heap ∧ (∀ q, s.heap.size ≤ q → zA G q) ∧ meth.sig.returnType = ret ∧ meth.locks = false
theorem zK.moved {G : zG} {u U : State} (hW : u.WarmedH U.vm) (h : zK G u) : zK G U :=
  ⟨va_K.moved hW.alike h.1, fun q hq => va_Nw.warmM hW (h.2.1 q hq), fun q hq => vk_R.warm hW (h.2.2 q hq)⟩
theorem zK.same {G : zG} {u U : State} (hv : U.vm = u.vm) (h : zK G u) : zK G U :=
  ⟨va_K.moved (by rw [hv]; exact Vm.Alike.refl u.vm) h.1, fun q hq => va_Nw.same rfl hv.symm (h.2.1 q hq), fun q hq => vk_R.same hv (h.2.2 q hq)⟩
theorem zPre.blind {G : zG} {h : zH} {av : List Value} : FrameBlind (va_Pc av (zPre G h)) := by
  intro a U g mk q
  obtain ⟨q0, q1, q2, q3, q4, q5⟩ := q
  exact ⟨q0, q1, q2, q3, zK.same (u := U) (U := U.calling g mk a) rfl q4, zE.moved (u := U) (U := U.calling g mk a) (Vm.Alike.refl U.vm) q5⟩
theorem zMetI {l : Launch} {y : MethodName} {cc : ByteArray} {nL : Nat} {ret : Option FieldType} {n : Nat} {av : List Value} {G : zG} {h h' : zH} {r : Int32} (hy : plainName y.cls = true) (hn : (lg_sl av).length ≤ nL)
    (body : ∀ (p : Program) (e : Env) (s : State) (m : MethodId) (below : List Frame) (meth : Method) (c : Code) (ls : Array Slot), zC G p s m av.toArray meth c cc nL y.cls ret → lv_has ls nL (lv_args 0 av) → zS G h s.heap s.heap [] → W p l e (zrm n) s m av.toArray below meth c s.heap [] 0 0 (MQ below (zQI G h' r) av.toArray s 0 0 (zA G)) (F0 m 0 ls [])) :
    zCtI l y cc nL ret n av G h h' r := by
  refine Met.ofW (cc := cc) (maxL := nL) (ret := ret) hy rfl ?_
  intro p e s m args below meth c s₁ B hml hv
  obtain ⟨rfl, hP, hD, hA, hK, hE⟩ := hv
  have hts := atoms_spec (ws := zw y cc nL ret) B.pre
  have hl := lv_entry av hn
  rw [lg_entry_eq]
  exact body p e s m below meth c _ ⟨B.exec, B.bytes, hml, findClass_of_methodNamed B.named, fun w hw => hts w (List.mem_cons_of_mem _ hw), hK, hE, hA, B.returns, B.notSynchronized⟩ hl ⟨hP, hD, va_S.rf⟩
theorem zMetV {l : Launch} {y : MethodName} {cc : ByteArray} {nL : Nat} {ret : Option FieldType} {n : Nat} {av : List Value} {G : zG} {h h' : zH} (hy : plainName y.cls = true) (hn : (lg_sl av).length ≤ nL)
    (body : ∀ (p : Program) (e : Env) (s : State) (m : MethodId) (below : List Frame) (meth : Method) (c : Code) (ls : Array Slot), zC G p s m av.toArray meth c cc nL y.cls ret → lv_has ls nL (lv_args 0 av) → zS G h s.heap s.heap [] → W p l e (zrm n) s m av.toArray below meth c s.heap [] 0 0 (MQ below (zQV G h') av.toArray s 0 0 (zA G)) (F0 m 0 ls [])) :
    zCtV l y cc nL ret n av G h h' := by
  refine Met.ofW (cc := cc) (maxL := nL) (ret := ret) hy rfl ?_
  intro p e s m args below meth c s₁ B hml hv
  obtain ⟨rfl, hP, hD, hA, hK, hE⟩ := hv
  have hts := atoms_spec (ws := zw y cc nL ret) B.pre
  have hl := lv_entry av hn
  rw [lg_entry_eq]
  exact body p e s m below meth c _ ⟨B.exec, B.bytes, hml, findClass_of_methodNamed B.named, fun w hw => hts w (List.mem_cons_of_mem _ hw), hK, hE, hA, B.returns, B.notSynchronized⟩ hl ⟨hP, hD, va_S.rf⟩
theorem zwd_get {G : zG} {h : zH} {c i : Nat} (hi : (znm G)[i]? = some c) : (zwd G h)[i]? = some (zal G c, zce (zaI G) (zaC G) (zlk G) (zal G) (h c) c) := by
  simp [zwd, List.getElem?_map, hi]
theorem zwd_arr {G : zG} {h : zH} {c i n : Nat} {b : Bool} (hi : (znm G)[i]? = some c) (hs : zsh c = .inl (b, n)) : (zwd G h)[i]? = some (zal G c, .inl (if b = true then zaC G else zaI G, n, .inl (h c))) := by
  rw [zwd_get hi, zce, hs]
theorem zwd_obj {G : zG} {h : zH} {c i ci : Nat} {fl : List (Option (Nat × Bool))} (hi : (znm G)[i]? = some c) (hs : zsh c = .inr (ci, fl)) : (zwd G h)[i]? = some (zal G c, .inr (ci, zfs (zlk G) (zal G) (h c) c 0 fl)) := by
  rw [zwd_get hi, zce, hs]
theorem zwd_set {G : zG} {h h1 : zH} {c i : Nat} {A : Nat → Prop} {e : va_E} (hD : va_D A (zwd G h)) (hi : (znm G)[i]? = some c) (ho : ∀ d, d ≠ c → h1 d = h d) (he : zce (zaI G) (zaC G) (zlk G) (zal G) (h1 c) c = e) : (zwd G h).set i (zal G c, e) = zwd G h1 := by
  apply List.ext_getElem?
  intro j
  by_cases hij : i = j
  · subst hij
    have hl : i < (zwd G h).length := by
      have := (List.getElem?_eq_some_iff.mp (zwd_get (h := h) hi)).1
      exact this
    rw [List.getElem?_set_self hl, zwd_get hi, he]
  · rw [List.getElem?_set_ne hij]
    cases hj : (znm G)[j]? with
    | none => simp [zwd, List.getElem?_map, hj]
    | some d =>
      have hd : d ≠ c := by
        intro e1
        subst e1
        exact hij (hD.1 i j _ _ (zwd_get hi) (zwd_get hj) rfl)
      rw [zwd_get hj, zwd_get hj, ho d hd]
theorem zup_ne {h : zH} {c k : Nat} {x : Int32} : ∀ d, d ≠ c → zup h c k x d = h d := fun d hd => by simp [zup, hd]
theorem zup_eq {h : zH} {c k : Nat} {x : Int32} : zup h c k x c = upd (h c) k x := by simp [zup]
theorem zfs_set {lk : Nat → Nat → Bool} {al : Nat → Nat} {g : Nat → Int32} {c k : Nat} {x : Int32} {fl : List (Option (Nat × Bool))} (hk : fl[k]? = some none) : zfs lk al (upd g k x) c 0 fl = (zfs lk al g c 0 fl).set k (.int x) := by
  apply List.ext_getElem?
  intro j
  by_cases hkj : k = j
  · subst hkj
    have hl : k < (zfs lk al g c 0 fl).length := by
      have h1 : (zfs lk al g c 0 fl)[k]? = some (zv lk al g c (0 + k) none) := by rw [zfs_get, hk]; rfl
      exact (List.getElem?_eq_some_iff.mp h1).1
    rw [List.getElem?_set_self hl, zfs_get, hk]
    simp [zv, upd]
  · rw [List.getElem?_set_ne hkj, zfs_get, zfs_get]
    cases hj : fl[j]? with
    | none => rfl
    | some f =>
      have e : upd g k x (0 + j) = g (0 + j) := by simp [upd]; intro h; omega
      rcases f with _ | ⟨d, _ | _⟩ <;> simp only [Option.map_some, zv, e]
/-- a field's link, and what the cell holds there -/
def zFc (own : String) (idx c k : Nat) (f : Option (Nat × Bool)) : Prop := ∃ (ci : Nat) (fl : List (Option (Nat × Bool))) (q : vw_C) (ty : Nat → FieldType), zsh c = .inr (ci, fl) ∧ zcl[ci]? = some q ∧ k < q.2.2 ∧ (∀ w ∈ u_ws q.1 q.2.1 q.2.2, w ∈ zg) ∧ Cond.fieldLink own idx (q.2.1 k).1 (q.2.1 k).2.1 (q.2.1 k).2.2.1 ∈ zg ∧ fl[k]? = some f ∧ (∀ j, j < q.2.2 → parseFieldDescriptor (q.2.1 j).2.2.1 = some (ty j)) ∧ (∀ a, a < q.2.2 → ∀ b, b < q.2.2 → a ≠ b → (q.2.1 a).2.1 ≠ (q.2.1 b).2.1)
section ZR
variable {p : Program} {l : Launch} {e : Env} {R : Room} {s : State} {m : MethodId} {args : Array Value} {below : List Frame} {meth : Method} {c : Code} {H : Heap} {locs : List Loc} {cells slots : Nat} {Q : State → Prop} {cc : ByteArray} {nL : Nat} {own : String} {ret : Option FieldType} {G : zG} {h : zH} {pc : Nat} {ls : Array Slot} {rest : List Value}
theorem zgetG {idx c0 k : Nat} {f : Option (Nat × Bool)} (C : zC G p s m args meth c cc nL own ret) (hS : zS G h s.heap H locs) (F : zFc own idx c0 k f) (hc : c0 ∈ znm G) (hdg : decode cc pc = .ok (.getfield idx, 3))
    (kk : W p l e R s m args below meth c H locs cells slots Q (F0 m (pc + 3) ls (zv (zlk G) (zal G) (h c0) c0 k f :: rest))) : W p l e R s m args below meth c H locs cells slots Q (F0 m pc ls (.ref (zal G c0) :: rest)) := by
  obtain ⟨ci, fl, ⟨Cn, T, N⟩, ty, hsh, hcl, hk, hin, hlink, hf, hty, hnm⟩ := F
  obtain ⟨q0, hq0⟩ := List.getElem?_of_mem hc
  refine va_get (D := zD G) (ci := ci) (C := Cn) (T := T) (N := N) C.1 C.2.1 C.2.2.2.2.1 hin C.2.2.2.1 C.2.2.2.2.2.1.1 hS.1 q0 (zwd_obj hq0 hsh) hcl k hk (C.2.2.2.2.1 _ hlink) (fun _ h9 => h9) (v := zv (zlk G) (zal G) (h c0) c0 k f) ?_ hdg kk
  rw [zfs_get, hf]
  simp
theorem zgetI {idx c0 k : Nat} (C : zC G p s m args meth c cc nL own ret) (hS : zS G h s.heap H locs) (F : zFc own idx c0 k none) (hc : c0 ∈ znm G) (hdg : decode cc pc = .ok (.getfield idx, 3))
    (kk : W p l e R s m args below meth c H locs cells slots Q (F0 m (pc + 3) ls (.int (h c0 k) :: rest))) : W p l e R s m args below meth c H locs cells slots Q (F0 m pc ls (.ref (zal G c0) :: rest)) := zgetG C hS F hc hdg kk
theorem zgetR {idx c0 k d : Nat} (C : zC G p s m args meth c cc nL own ret) (hS : zS G h s.heap H locs) (F : zFc own idx c0 k (some (d, false))) (hc : c0 ∈ znm G) (hlk : zlk G c0 k = true) (hdg : decode cc pc = .ok (.getfield idx, 3))
    (kk : W p l e R s m args below meth c H locs cells slots Q (F0 m (pc + 3) ls (.ref (zal G d) :: rest))) : W p l e R s m args below meth c H locs cells slots Q (F0 m pc ls (.ref (zal G c0) :: rest)) := by
  refine zgetG C hS F hc hdg ?_
  rw [zv, if_pos hlk]
  exact kk
theorem zgetN {idx c0 k d : Nat} (C : zC G p s m args meth c cc nL own ret) (hS : zS G h s.heap H locs) (F : zFc own idx c0 k (some (d, true))) (hc : c0 ∈ znm G) (hdg : decode cc pc = .ok (.getfield idx, 3))
    (k0 : h c0 k = 0 → W p l e R s m args below meth c H locs cells slots Q (F0 m (pc + 3) ls (.null :: rest))) (k1 : ¬ h c0 k = 0 → W p l e R s m args below meth c H locs cells slots Q (F0 m (pc + 3) ls (.ref (zal G d) :: rest))) : W p l e R s m args below meth c H locs cells slots Q (F0 m pc ls (.ref (zal G c0) :: rest)) := by
  refine zgetG C hS F hc hdg ?_
  by_cases h0 : h c0 k = 0
  · rw [zv, if_pos h0]; exact k0 h0
  · rw [zv, if_neg h0]; exact k1 h0
theorem zputI {idx c0 k : Nat} {x : Int32} (C : zC G p s m args meth c cc nL own ret) (hS : zS G h s.heap H locs) (F : zFc own idx c0 k none) (hfin : ∀ q : vw_C, ∀ ci fl, zsh c0 = .inr (ci, fl) → zcl[ci]? = some q → (q.2.1 k).2.2.2 = false ∧ (q.2.1 k).2.2.1 = "I") (hc : c0 ∈ znm G) (hdg : decode cc pc = .ok (.putfield idx, 3))
    (kk : ∀ (H1 : Heap) (locs1 : List Loc), zS G (zup h c0 k x) s.heap H1 locs1 → W p l e R s m args below meth c H1 locs1 cells slots Q (F0 m (pc + 3) ls rest)) : W p l e R s m args below meth c H locs cells slots Q (F0 m pc ls (.int x :: .ref (zal G c0) :: rest)) := by
  obtain ⟨ci, fl, ⟨Cn, T, N⟩, ty, hsh, hcl, hk, hin, hlink, hf, hty, hnm⟩ := F
  obtain ⟨hfin, hI⟩ := hfin _ _ _ hsh hcl
  obtain ⟨q0, hq0⟩ := List.getElem?_of_mem hc
  have hg : (zfs (zlk G) (zal G) (h c0) c0 0 fl)[k]? = some (.int (h c0 k)) := by rw [zfs_get, hf]; simp [zv]
  refine va_put (D := zD G) (ci := ci) (C := Cn) (T := T) (N := N) (v := .int x) (ty := .int) C.1 C.2.1 C.2.2.2.2.1 hin ty hty hnm C.2.2.2.1 C.2.2.2.2.2.1.1 hS.1 hS.2.1 hS.2.2 q0 (zwd_obj hq0 hsh) hcl k hk (C.2.2.2.2.1 _ hlink) (fun _ h9 => h9) hfin (by rw [show (T k).2.2.1 = "I" from hI]; decide +kernel) rfl rfl (List.getElem?_eq_some_iff.mp hg).1 hdg (fun H1 locs1 hP hD hS1 => ?_)
  have e1 : (zwd G h).set q0 (zal G c0, .inr (ci, (zfs (zlk G) (zal G) (h c0) c0 0 fl).set k (.int x))) = zwd G (zup h c0 k x) := zwd_set hS.2.1 hq0 zup_ne (by rw [zup_eq, zce, hsh]; simp only; rw [zfs_set hf])
  rw [e1] at hP hD
  exact kk H1 locs1 ⟨hP, hD, hS1⟩
theorem zald {c0 n : Nat} {i : Int32} (C : zC G p s m args meth c cc nL own ret) (hS : zS G h s.heap H locs) (hsh : zsh c0 = .inl (false, n)) (hc : c0 ∈ znm G) (hin : vp_in i n) (hdg : decode cc pc = .ok (.iaload, 1))
    (kk : W p l e R s m args below meth c H locs cells slots Q (F0 m (pc + 1) ls (.int (h c0 i.toNatClampNeg) :: rest))) : W p l e R s m args below meth c H locs cells slots Q (F0 m pc ls (.int i :: .ref (zal G c0) :: rest)) := by
  obtain ⟨q0, hq0⟩ := List.getElem?_of_mem hc
  exact va_iald C.1 C.2.1 C.2.2.2.2.2.1.1 hS.1 q0 0 (zwd_arr hq0 hsh) rfl hin hdg kk
theorem zaldC {c0 n : Nat} {i : Int32} (C : zC G p s m args meth c cc nL own ret) (hS : zS G h s.heap H locs) (hsh : zsh c0 = .inl (true, n)) (hc : c0 ∈ znm G) (hin : vp_in i n) (hdg : decode cc pc = .ok (.caload, 1))
    (kk : W p l e R s m args below meth c H locs cells slots Q (F0 m (pc + 1) ls (.int (h c0 i.toNatClampNeg) :: rest))) : W p l e R s m args below meth c H locs cells slots Q (F0 m pc ls (.int i :: .ref (zal G c0) :: rest)) := by
  obtain ⟨q0, hq0⟩ := List.getElem?_of_mem hc
  exact va_cald C.1 C.2.1 C.2.2.2.2.2.1.1 hS.1 q0 1 (zwd_arr hq0 hsh) rfl hin hdg kk
theorem zast {c0 n : Nat} {i x : Int32} (C : zC G p s m args meth c cc nL own ret) (hS : zS G h s.heap H locs) (hsh : zsh c0 = .inl (false, n)) (hc : c0 ∈ znm G) (hin : vp_in i n) (hdg : decode cc pc = .ok (.iastore, 1))
    (kk : ∀ (H1 : Heap) (locs1 : List Loc), zS G (zup h c0 i.toNatClampNeg x) s.heap H1 locs1 → W p l e R s m args below meth c H1 locs1 cells slots Q (F0 m (pc + 1) ls rest)) : W p l e R s m args below meth c H locs cells slots Q (F0 m pc ls (.int x :: .int i :: .ref (zal G c0) :: rest)) := by
  obtain ⟨q0, hq0⟩ := List.getElem?_of_mem hc
  refine va_iast C.1 C.2.1 C.2.2.2.2.2.1.1 hS.1 hS.2.1 hS.2.2 q0 0 (zwd_arr hq0 hsh) rfl hin hdg (fun H1 locs1 hP hD hS1 => ?_)
  have e1 : (zwd G h).set q0 (zal G c0, .inl (if false = true then zaC G else zaI G, n, .inl (upd (h c0) i.toNatClampNeg x))) = zwd G (zup h c0 i.toNatClampNeg x) := zwd_set hS.2.1 hq0 zup_ne (by rw [zup_eq, zce, hsh])
  rw [e1] at hP hD
  exact kk H1 locs1 ⟨hP, hD, hS1⟩
theorem zastC {c0 n : Nat} {i x : Int32} (C : zC G p s m args meth c cc nL own ret) (hS : zS G h s.heap H locs) (hsh : zsh c0 = .inl (true, n)) (hc : c0 ∈ znm G) (hin : vp_in i n) (hdg : decode cc pc = .ok (.castore, 1))
    (kk : ∀ (H1 : Heap) (locs1 : List Loc), zS G (zup h c0 i.toNatClampNeg (vp_nar .char x)) s.heap H1 locs1 → W p l e R s m args below meth c H1 locs1 cells slots Q (F0 m (pc + 1) ls rest)) : W p l e R s m args below meth c H locs cells slots Q (F0 m pc ls (.int x :: .int i :: .ref (zal G c0) :: rest)) := by
  obtain ⟨q0, hq0⟩ := List.getElem?_of_mem hc
  refine va_cast C.1 C.2.1 C.2.2.2.2.2.1.1 hS.1 hS.2.1 hS.2.2 q0 1 (zwd_arr hq0 hsh) rfl hin hdg (fun H1 locs1 hP hD hS1 => ?_)
  have e1 : (zwd G h).set q0 (zal G c0, .inl (if true = true then zaC G else zaI G, n, .inl (upd (h c0) i.toNatClampNeg (vp_nar .char x)))) = zwd G (zup h c0 i.toNatClampNeg (vp_nar .char x)) := zwd_set hS.2.1 hq0 zup_ne (by rw [zup_eq, zce, hsh])
  rw [e1] at hP hD
  exact kk H1 locs1 ⟨hP, hD, hS1⟩
/-- the ends -/
theorem zretI {v : Int32} {q : Int32 × zH} (C : zC G p s m args meth c cc nL own (some .int)) (hS : zS G h s.heap H locs) (hf : some (v, h) = some q) (hdg : decode cc pc = .ok (.ireturn, 1)) : W p l e R s m args below meth c H locs cells slots (MQ below (zQI G q.2 q.1) args s cells slots (zA G)) (F0 m pc ls [.int v]) := by
  cases hf
  exact W.iret (v := v) C.1 C.2.1 C.2.2.2.2.2.2.2.2.1 (fun t ht hW => ⟨⟨v, (), rfl, rfl, by rw [← ht] at hS; exact ⟨hS.1, hS.2.1⟩⟩, hS.2.2.F ht⟩) hS.2.2.2.2 hdg C.2.2.2.2.2.2.2.2.2
theorem zretZ {v : Int32} {q : Int32 × zH} (C : zC G p s m args meth c cc nL own (some .boolean)) (hS : zS G h s.heap H locs) (hn : narrow .boolean (.int v) = .int v) (hf : some (v, h) = some q) (hdg : decode cc pc = .ok (.ireturn, 1)) : W p l e R s m args below meth c H locs cells slots (MQ below (zQI G q.2 q.1) args s cells slots (zA G)) (F0 m pc ls [.int v]) := by
  cases hf
  exact W.zret (v := v) C.1 C.2.1 C.2.2.2.2.2.2.2.2.1 hn (fun t ht hW => ⟨⟨v, (), rfl, rfl, by rw [← ht] at hS; exact ⟨hS.1, hS.2.1⟩⟩, hS.2.2.F ht⟩) hS.2.2.2.2 hdg C.2.2.2.2.2.2.2.2.2
theorem zretV {v : Int32} {q : Int32 × zH} (C : zC G p s m args meth c cc nL own none) (hS : zS G h s.heap H locs) (hf : some (v, h) = some q) (hdg : decode cc pc = .ok (.return_, 1)) : W p l e R s m args below meth c H locs cells slots (MQ below (zQV G q.2) args s cells slots (zA G)) (F0 m pc ls []) := by
  cases hf
  exact W.vret C.1 C.2.1 C.2.2.2.2.2.2.2.2.1 (fun t ht hW => ⟨⟨(), rfl, trivial, by rw [← ht] at hS; exact ⟨hS.1, hS.2.1⟩⟩, hS.2.2.F ht⟩) hS.2.2.2.2 hdg C.2.2.2.2.2.2.2.2.2
/-- a call's words -/
def zMV (own : String) (idx : Nat) (y : MethodName) (bytes : ByteArray) (maxL : Nat) (ret : Option FieldType) (n : Nat) : Prop := (Cond.methodLink own idx y ∈ zg ∧ Cond.instanceMethod y ∈ zg ∧ Cond.selects y.cls y y ∈ zg ∧ Cond.initialized y.cls ∈ zg ∧ Cond.code y bytes maxL ret ∈ zg) ∧ (y.cls ≠ "java/lang/invoke/MethodHandle" ∧ y.cls ≠ "java/lang/invoke/VarHandle" ∧ (parseMethodDescriptor y.desc).map (fun d => d.parameters.length) = some n) ∧ maxL + 19 ≤ 60
def zMS (own : String) (idx : Nat) (y : MethodName) (bytes : ByteArray) (maxL : Nat) (ret : Option FieldType) (n : Nat) : Prop := (Cond.methodLink own idx y ∈ zg ∧ Cond.static y ∈ zg ∧ Cond.initialized y.cls ∈ zg ∧ Cond.code y bytes maxL ret ∈ zg) ∧ (y.cls ≠ "java/lang/invoke/MethodHandle" ∧ y.cls ≠ "java/lang/invoke/VarHandle" ∧ (parseMethodDescriptor y.desc).map (fun d => d.parameters.length) = some n) ∧ maxL + 19 ≤ 60
def zMN (own : String) (idx : Nat) (y : MethodName) (bytes : ByteArray) (maxL : Nat) (ret : Option FieldType) (n : Nat) : Prop := ((own, idx, y, "HalfAJoke") ∈ znest ∧ Cond.static y ∈ zg ∧ Cond.initialized y.cls ∈ zg ∧ Cond.code y bytes maxL ret ∈ zg) ∧ (y.cls ≠ "java/lang/invoke/MethodHandle" ∧ y.cls ≠ "java/lang/invoke/VarHandle" ∧ (parseMethodDescriptor y.desc).map (fun d => d.parameters.length) = some n) ∧ maxL + 19 ≤ 60
theorem zpre {av : List Value} {U : State} (C : zC G p s m args meth c cc nL own ret) (hS : zS G h s.heap H locs) (hU : U.heap = H) (hW : s.WarmedH U.vm) : va_Pc av (zPre G h) av.toArray U := by
  refine ⟨rfl, by rw [hU]; exact hS.1, hS.2.1, fun q hq => C.2.2.2.2.2.2.2.1 q (Nat.le_trans hS.2.2.1 (by rw [← hU]; exact hq)), C.2.2.2.2.2.1.moved hW, ?_⟩
  rw [hU]
  exact zE.moved hW.alike (zE.kept C.2.2.2.2.2.2.1 hS.2.2.2.1)
theorem zrecv {c0 ci : Nat} {fl : List (Option (Nat × Bool))} {q : vw_C} (C : zC G p s m args meth c cc nL own ret) (hS : zS G h s.heap H locs) (hc : c0 ∈ znm G) (hsh : zsh c0 = .inr (ci, fl)) (hcl : zcl[ci]? = some q) : ∃ cellB : Cell, H[zal G c0]? = some cellB ∧ cellB.vm.isStatics = false ∧ s.vm.findClass q.1 = some cellB.cls := by
  obtain ⟨q0, hq0⟩ := List.getElem?_of_mem hc
  exact va_recv C.2.2.2.2.2.1.1 hS.1 hcl (zwd_obj hq0 hsh)
theorem zcallVI {y : MethodName} {bytes : ByteArray} {idx maxL n n' c0 : Nat} {ret' : Option FieldType} {As st0 : List Value} {h1 : zH} {r1 : Int32} (C : zC G p s m args meth c cc nL own ret) (hS : zS G h s.heap H locs) (M : zMV own idx y bytes maxL ret' n) (hM : zCtI l y bytes maxL ret' n' (.ref (zal G c0) :: As) G h h1 r1) (hc : c0 ∈ znm G) (hcl : ∃ ci fl q, zsh c0 = .inr (ci, fl) ∧ zcl[ci]? = some q ∧ q.1 = y.cls) (hn : As.length = n) (hst : st0 = As.reverse ++ .ref (zal G c0) :: rest) (hr8 : (rest.map fun v => v.category).sum ≤ 8) (hl : ls.size = nL) (hR : n' + 1 ≤ R.frames ∧ 60 + 60 * n' ≤ R.locals ∧ cells ≤ R.cells ∧ slots ≤ R.slots) (hdg : decode cc pc = .ok (.invokevirtual idx, 3))
    (kk : ∀ (H1 : Heap) (locs1 : List Loc), zS G h1 s.heap H1 locs1 → W p l e R s m args below meth c H1 locs1 cells slots Q (F0 m (pc + 3) ls (.int r1 :: rest))) : W p l e R s m args below meth c H locs cells slots Q (F0 m pc ls st0) := by
  obtain ⟨⟨w1, w2, w3, w4, w5⟩, hd, h60⟩ := M
  obtain ⟨ci, fl, q, hsh, hcl, hq⟩ := hcl
  have hg := zgood w5
  have cw : CallW R s args own y.cls idx y bytes maxL ret' (zw y bytes maxL ret') (zrm n') 0 0 n := by
    refine cwV n C.2.2.2.2.1 (fun w hw => ?_) rfl rfl rfl ⟨rfl, hd⟩ ⟨hR.1, ?_⟩
    · rcases List.mem_append.mp hw with hw | hw
      · simp only [List.mem_cons, List.not_mem_nil, or_false] at hw
        rcases hw with rfl | rfl | rfl | rfl
        · exact ⟨w1, good_of_word (zg_in w1).2⟩
        · exact ⟨w2, good_of_word (zg_in w2).2⟩
        · exact ⟨w3, good_of_word (zg_in w3).2⟩
        · exact ⟨w4, good_of_word (zg_in w4).2⟩
      · exact hg w hw
    · show 8 + (maxL + 11) + 60 * n' ≤ R.locals
      have := hR.2.1
      omega
  refine va_calli (A0 := zA G) (va_runV (As := As) (rest := rest) ⟨C.1, C.2.1, C.2.2.1, C.2.2.2.1, C.2.2.2.2.1⟩ hM cw ⟨zPre.blind, hq ▸ zrecv C hS hc hsh hcl, fun U hU hW => zpre C hS hU hW⟩ rfl hn hl hst (lv_room hr8) hdg ⟨hR.2.2.1, hR.2.2.2⟩) hS.2.2 (fun q _ h => h) (fun q h => h) (fun r u t H1 locs1 ht hvm hw hB hz1 hk1 hS1 => ?_)
  subst hw
  rw [← ht] at hS1 ⊢
  exact kk _ _ ⟨hB.1, hB.2, hS1⟩
theorem zcallVV {y : MethodName} {bytes : ByteArray} {idx maxL n n' c0 : Nat} {ret' : Option FieldType} {As st0 : List Value} {h1 : zH} (C : zC G p s m args meth c cc nL own ret) (hS : zS G h s.heap H locs) (M : zMV own idx y bytes maxL ret' n) (hM : zCtV l y bytes maxL ret' n' (.ref (zal G c0) :: As) G h h1) (hc : c0 ∈ znm G) (hcl : ∃ ci fl q, zsh c0 = .inr (ci, fl) ∧ zcl[ci]? = some q ∧ q.1 = y.cls) (hn : As.length = n) (hst : st0 = As.reverse ++ .ref (zal G c0) :: rest) (hr8 : (rest.map fun v => v.category).sum ≤ 8) (hl : ls.size = nL) (hR : n' + 1 ≤ R.frames ∧ 60 + 60 * n' ≤ R.locals ∧ cells ≤ R.cells ∧ slots ≤ R.slots) (hdg : decode cc pc = .ok (.invokevirtual idx, 3))
    (kk : ∀ (H1 : Heap) (locs1 : List Loc), zS G h1 s.heap H1 locs1 → W p l e R s m args below meth c H1 locs1 cells slots Q (F0 m (pc + 3) ls rest)) : W p l e R s m args below meth c H locs cells slots Q (F0 m pc ls st0) := by
  obtain ⟨⟨w1, w2, w3, w4, w5⟩, hd, h60⟩ := M
  obtain ⟨ci, fl, q, hsh, hcl, hq⟩ := hcl
  have hg := zgood w5
  have cw : CallW R s args own y.cls idx y bytes maxL ret' (zw y bytes maxL ret') (zrm n') 0 0 n := by
    refine cwV n C.2.2.2.2.1 (fun w hw => ?_) rfl rfl rfl ⟨rfl, hd⟩ ⟨hR.1, ?_⟩
    · rcases List.mem_append.mp hw with hw | hw
      · simp only [List.mem_cons, List.not_mem_nil, or_false] at hw
        rcases hw with rfl | rfl | rfl | rfl
        · exact ⟨w1, good_of_word (zg_in w1).2⟩
        · exact ⟨w2, good_of_word (zg_in w2).2⟩
        · exact ⟨w3, good_of_word (zg_in w3).2⟩
        · exact ⟨w4, good_of_word (zg_in w4).2⟩
      · exact hg w hw
    · show 8 + (maxL + 11) + 60 * n' ≤ R.locals
      have := hR.2.1
      omega
  refine va_callv (A0 := zA G) (va_runV (As := As) (rest := rest) ⟨C.1, C.2.1, C.2.2.1, C.2.2.2.1, C.2.2.2.2.1⟩ hM cw ⟨zPre.blind, hq ▸ zrecv C hS hc hsh hcl, fun U hU hW => zpre C hS hU hW⟩ rfl hn hl hst (lv_room hr8) hdg ⟨hR.2.2.1, hR.2.2.2⟩) hS.2.2 (fun q _ h => h) (fun q h => h) (fun u t H1 locs1 ht hvm hw hB hz1 hk1 hS1 => ?_)
  rw [← ht] at hS1 ⊢
  exact kk _ _ ⟨hB.1, hB.2, hS1⟩
theorem zcallSI {y : MethodName} {bytes : ByteArray} {idx maxL n n' : Nat} {ret' : Option FieldType} {As st0 : List Value} {h1 : zH} {r1 : Int32} (C : zC G p s m args meth c cc nL own ret) (hS : zS G h s.heap H locs) (M : zMS own idx y bytes maxL ret' n) (hM : zCtI l y bytes maxL ret' n' As G h h1 r1) (hn : As.length = n) (hst : st0 = As.reverse ++ rest) (hr8 : (rest.map fun v => v.category).sum ≤ 8) (hl : ls.size = nL) (hR : n' + 1 ≤ R.frames ∧ 60 + 60 * n' ≤ R.locals ∧ cells ≤ R.cells ∧ slots ≤ R.slots) (hdg : decode cc pc = .ok (.invokestatic idx, 3))
    (kk : ∀ (H1 : Heap) (locs1 : List Loc), zS G h1 s.heap H1 locs1 → W p l e R s m args below meth c H1 locs1 cells slots Q (F0 m (pc + 3) ls (.int r1 :: rest))) : W p l e R s m args below meth c H locs cells slots Q (F0 m pc ls st0) := by
  obtain ⟨⟨w1, w2, w4, w5⟩, hd, h60⟩ := M
  have hts := C.2.2.2.2.1
  have cw : CallB R s args own idx y bytes maxL ret' (zw y bytes maxL ret') (zrm n') 0 0 n := callB_of n hts (zgood w5) rfl rfl rfl (hts _ w4) (hts _ w1) hd ⟨hR.1, by
    show 8 + (maxL + 11) + 60 * n' ≤ R.locals
    have := hR.2.1
    omega⟩
  refine va_calli (A0 := zA G) (va_runS (As := As) (rest := rest) ⟨C.1, C.2.1, C.2.2.1, C.2.2.2.1, C.2.2.2.2.1⟩ hM ⟨cw, hts _ w2⟩ ⟨zPre.blind, fun U hU hW => zpre C hS hU hW⟩ rfl hn hl hst (lv_room hr8) hdg ⟨hR.2.2.1, hR.2.2.2⟩) hS.2.2 (fun q _ h => h) (fun q h => h) (fun r u t H1 locs1 ht hvm hw hB hz1 hk1 hS1 => ?_)
  subst hw
  rw [← ht] at hS1 ⊢
  exact kk _ _ ⟨hB.1, hB.2, hS1⟩
theorem zcallNI {y : MethodName} {bytes : ByteArray} {idx maxL n n' : Nat} {ret' : Option FieldType} {As st0 : List Value} {h1 : zH} {r1 : Int32} (C : zC G p s m args meth c cc nL own ret) (hS : zS G h s.heap H locs) (M : zMN own idx y bytes maxL ret' n) (hM : zCtI l y bytes maxL ret' n' As G h h1 r1) (hn : As.length = n) (hst : st0 = As.reverse ++ rest) (hr8 : (rest.map fun v => v.category).sum ≤ 8) (hl : ls.size = nL) (hR : n' + 1 ≤ R.frames ∧ 60 + 60 * n' ≤ R.locals ∧ cells ≤ R.cells ∧ slots ≤ R.slots) (hdg : decode cc pc = .ok (.invokestatic idx, 3))
    (kk : ∀ (H1 : Heap) (locs1 : List Loc), zS G h1 s.heap H1 locs1 → W p l e R s m args below meth c H1 locs1 cells slots Q (F0 m (pc + 3) ls (.int r1 :: rest))) : W p l e R s m args below meth c H locs cells slots Q (F0 m pc ls st0) := by
  obtain ⟨⟨w1, w2, w4, w5⟩, hd, h60⟩ := M
  have hts := C.2.2.2.2.1
  have cw : va_CN R s args own idx y "HalfAJoke" bytes maxL ret' (zw y bytes maxL ret') (zrm n') 0 0 n := va_cnB n hts (zgood w5) rfl rfl rfl (C.2.2.2.2.2.1.2.1 _ w1) (hts _ w4) hd ⟨hR.1, by
    show 8 + (maxL + 11) + 60 * n' ≤ R.locals
    have := hR.2.1
    omega⟩
  refine va_calli (A0 := zA G) (va_runSN (As := As) (rest := rest) ⟨C.1, C.2.1, C.2.2.1, C.2.2.2.1, C.2.2.2.2.1⟩ hM ⟨cw, hts _ w2, trivial⟩ ⟨zPre.blind, fun U hU hW => zpre C hS hU hW⟩ rfl hn hl hst (lv_room hr8) hdg ⟨hR.2.2.1, hR.2.2.2⟩) hS.2.2 (fun q _ h => h) (fun q h => h) (fun r u t H1 locs1 ht hvm hw hB hz1 hk1 hS1 => ?_)
  subst hw
  rw [← ht] at hS1 ⊢
  exact kk _ _ ⟨hB.1, hB.2, hS1⟩
end ZR
