/-! frames: which cells a pure function may change -/
theorem zif_c {P : Prop} [Decidable P] {a b : zR} {q : Int32 × zH} (h : (if P then a else b) = some q) : (P ∧ a = some q) ∨ (¬ P ∧ b = some q) := by
  by_cases hp : P
  · exact Or.inl ⟨hp, (if_pos hp).symm.trans h⟩
  · exact Or.inr ⟨hp, (if_neg hp).symm.trans h⟩
theorem zif_n {P : Prop} [Decidable P] {a b : zR} {q : Int32 × zH} (h : (if P then a else b) = some q) : (¬ P ∧ b = some q) ∨ (P ∧ a = some q) := (zif_c h).symm
abbrev md_J0_checkIndex_df160 : List Nat := []
theorem m_J0_checkIndex_df160 : ∀ (h0 : zH) (x0 : Int32) (x1 : Int32) {q : Int32 × zH}, f_J0_checkIndex_df160 x0 x1 h0 = some q → ∀ c, c ∉ md_J0_checkIndex_df160 → q.2 c = h0 c := by
  intro h x0 x1 q hf c hc
  unfold f_J0_checkIndex_df160 at hf
  obtain ⟨r1, h1, er1, hf⟩ := zbd_some hf
  unfold f_J3_checkIndex_8e157 at er1
  rcases zif_c er1 with ⟨_, er1⟩ | ⟨_, er1⟩
  · cases er1
  · rcases zif_c er1 with ⟨_, er1⟩ | ⟨_, er1⟩
    · cases er1; cases hf; rfl
    · cases er1
section
abbrev md_X6_forget : List Nat := [22]
variable {q : Int32 × zH}
theorem m_X6_forget : ∀ (h0 : zH) {q : Int32 × zH}, f_X6_forget h0 = some q → ∀ c, c ∉ md_X6_forget → q.2 c = h0 c := by
  intro h q hf
  unfold f_X6_forget at hf
  have fr : ∀ c, c ∉ md_X6_forget → h c = h c := fun _ _ => rfl
  obtain ⟨h1, eh1, hf⟩ := zst_some hf
  have fr : ∀ c, c ∉ md_X6_forget → h1 c = h c := fun c hc9 => (congrFun eh1 c).trans ((zup_ne c (fun z => hc9 (by rw [z]; decide))).trans (fr c hc9))
  cases hf
  exact fr
end
section
abbrev md_X11_state : List Nat := [1, 22]
theorem sm_X11_state_X6_forget : ∀ c ∈ md_X6_forget, c ∈ md_X11_state := by decide
variable {q : Int32 × zH}
theorem m_X11_state : ∀ (h0 : zH) (x1 : Int32) {q : Int32 × zH}, f_X11_state x1 h0 = some q → ∀ c, c ∉ md_X11_state → q.2 c = h0 c := by
  intro h x1 q hf
  unfold f_X11_state at hf
  have fr : ∀ c, c ∉ md_X11_state → h c = h c := fun _ _ => rfl
  obtain ⟨y1, ey1, hf⟩ := zlt_some hf
  obtain ⟨h2, eh2, hf⟩ := zst_some hf
  have fr : ∀ c, c ∉ md_X11_state → h2 c = h c := fun c hc9 => (congrFun eh2 c).trans ((zup_ne c (fun z => hc9 (by rw [z]; decide))).trans (fr c hc9))
  obtain ⟨r3, h4, er3, hf⟩ := zbd_some hf
  have fr : ∀ c, c ∉ md_X11_state → h4 c = h c := fun c hc9 => (m_X6_forget _ er3 c (fun z => hc9 (sm_X11_state_X6_forget c z))).trans (fr c hc9)
  cases hf
  exact fr
end
section
abbrev md_X11_isBelow : List Nat := []
variable {q : Int32 × zH}
theorem m_X11_isBelow_13   : ∀ (h0 : zH), f_X11_isBelow_13  h0 = some q → ∀ c, c ∉ md_X11_isBelow → q.2 c = h0 c := by
  intro h hf
  unfold f_X11_isBelow_13 at hf
  have fr : ∀ c, c ∉ md_X11_isBelow → h c = h c := fun _ _ => rfl
  cases hf
  exact fr
theorem m_X11_isBelow : ∀ (h0 : zH) (x0 : Int32) (x1 : Int32) {q : Int32 × zH}, f_X11_isBelow x0 x1 h0 = some q → ∀ c, c ∉ md_X11_isBelow → q.2 c = h0 c := by
  intro h x0 x1 q hf
  unfold f_X11_isBelow at hf
  have fr : ∀ c, c ∉ md_X11_isBelow → h c = h c := fun _ _ => rfl
  rcases zif_c hf with ⟨hc, hf⟩ | ⟨hc, hf⟩
  · skip
    exact fun c hc9 => (m_X11_isBelow_13  _ hf c hc9).trans (fr c hc9)
  · skip
    rcases zif_c hf with ⟨hc, hf⟩ | ⟨hc, hf⟩
    · skip
      exact fun c hc9 => (m_X11_isBelow_13  _ hf c hc9).trans (fr c hc9)
    · skip
      cases hf
      exact fr
end
section
abbrev md_X3_add : List Nat := [2, 3, 4, 5, 6]
variable {q : Int32 × zH}
theorem m_X3_add_64 {k33 : Int32 → Int32 → Int32 → zH → zR} (hk33 : ∀ (h0 : zH) (x4 : Int32) (x5 : Int32) (x6 : Int32), k33 x4 x5 x6 h0 = some q → ∀ c, c ∉ md_X3_add → q.2 c = h0 c) : ∀ (h0 : zH) (x4 : Int32) (x5 : Int32) (x6 : Int32) (s0 : Int32) (s1 : Int32), f_X3_add_64 k33 x4 x5 x6 s0 s1 h0 = some q → ∀ c, c ∉ md_X3_add → q.2 c = h0 c := by
  intro h x4 x5 x6 s0 s1 hf
  unfold f_X3_add_64 at hf
  have fr : ∀ c, c ∉ md_X3_add → h c = h c := fun _ _ => rfl
  obtain ⟨hi, hf⟩ := zck_some hf
  obtain ⟨h6, eh6, hf⟩ := zst_some hf
  have fr : ∀ c, c ∉ md_X3_add → h6 c = h c := fun c hc9 => (congrFun eh6 c).trans ((zup_ne c (fun z => hc9 (by rw [z]; decide))).trans (fr c hc9))
  obtain ⟨y7, ey7, hf⟩ := zlt_some hf
  exact fun c hc9 => (hk33 _ _ _ _ hf c hc9).trans (fr c hc9)
theorem m_X3_add_33   : ∀ n, ∀ (h0 : zH) (x4 : Int32) (x5 : Int32) (x6 : Int32), f_X3_add_33  n x4 x5 x6 h0 = some q → ∀ c, c ∉ md_X3_add → q.2 c = h0 c := by
  intro n
  induction n with
  | zero => intro h x4 x5 x6 hf; cases hf
  | succ n ih =>
    intro h x4 x5 x6 hf
    rw [f_X3_add_33] at hf
    have fr : ∀ c, c ∉ md_X3_add → h c = h c := fun _ _ => rfl
    rcases zif_c hf with ⟨hc, hf⟩ | ⟨hc, hf⟩
    · skip
      obtain ⟨h5, eh5, hf⟩ := zst_some hf
      have fr : ∀ c, c ∉ md_X3_add → h5 c = h c := fun c hc9 => (congrFun eh5 c).trans ((zup_ne c (fun z => hc9 (by rw [z]; decide))).trans (fr c hc9))
      cases hf
      exact fr
    · skip
      rcases zif_n hf with ⟨hc, hf⟩ | ⟨hc, hf⟩
      · skip
        exact fun c hc9 => (m_X3_add_64 ih _ _ _ _ _ _ hf c hc9).trans (fr c hc9)
      · skip
        exact fun c hc9 => (m_X3_add_64 ih _ _ _ _ _ _ hf c hc9).trans (fr c hc9)
theorem m_X3_add : ∀ (h0 : zH) (x1 : Int32) (x2 : Int32) (x3 : Int32) (x4 : Int32) {q : Int32 × zH}, f_X3_add x1 x2 x3 x4 h0 = some q → ∀ c, c ∉ md_X3_add → q.2 c = h0 c := by
  intro h x1 x2 x3 x4 q hf
  unfold f_X3_add at hf
  have fr : ∀ c, c ∉ md_X3_add → h c = h c := fun _ _ => rfl
  obtain ⟨y1, ey1, hf⟩ := zlt_some hf
  obtain ⟨hi, hf⟩ := zck_some hf
  obtain ⟨h2, eh2, hf⟩ := zst_some hf
  have fr : ∀ c, c ∉ md_X3_add → h2 c = h c := fun c hc9 => (congrFun eh2 c).trans ((zup_ne c (fun z => hc9 (by rw [z]; decide))).trans (fr c hc9))
  obtain ⟨hi, hf⟩ := zck_some hf
  obtain ⟨h3, eh3, hf⟩ := zst_some hf
  have fr : ∀ c, c ∉ md_X3_add → h3 c = h c := fun c hc9 => (congrFun eh3 c).trans ((zup_ne c (fun z => hc9 (by rw [z]; decide))).trans (fr c hc9))
  obtain ⟨hi, hf⟩ := zck_some hf
  obtain ⟨h4, eh4, hf⟩ := zst_some hf
  have fr : ∀ c, c ∉ md_X3_add → h4 c = h c := fun c hc9 => (congrFun eh4 c).trans ((zup_ne c (fun z => hc9 (by rw [z]; decide))).trans (fr c hc9))
  exact fun c hc9 => (m_X3_add_33  zN _ _ _ _ hf c hc9).trans (fr c hc9)
end
section
abbrev md_X11_half : List Nat := [2, 3, 4, 5, 6, 22]
theorem sm_X11_half_X11_isBelow : ∀ c ∈ md_X11_isBelow, c ∈ md_X11_half := by decide
theorem sm_X11_half_X6_forget : ∀ c ∈ md_X6_forget, c ∈ md_X11_half := by decide
theorem sm_X11_half_X3_add : ∀ c ∈ md_X3_add, c ∈ md_X11_half := by decide
variable {q : Int32 × zH}
theorem m_X11_half_63   : ∀ (h0 : zH), f_X11_half_63  h0 = some q → ∀ c, c ∉ md_X11_half → q.2 c = h0 c := by
  intro h hf
  unfold f_X11_half_63 at hf
  have fr : ∀ c, c ∉ md_X11_half → h c = h c := fun _ _ => rfl
  cases hf
  exact fr
theorem m_X11_half_41   : ∀ (h0 : zH) (x1 : Int32) (x2 : Int32) (x3 : Int32) (x4 : Int32) (s0 : Int32), f_X11_half_41  x1 x2 x3 x4 s0 h0 = some q → ∀ c, c ∉ md_X11_half → q.2 c = h0 c := by
  intro h x1 x2 x3 x4 s0 hf
  unfold f_X11_half_41 at hf
  have fr : ∀ c, c ∉ md_X11_half → h c = h c := fun _ _ => rfl
  rcases zif_c hf with ⟨hc, hf⟩ | ⟨hc, hf⟩
  · skip
    exact fun c hc9 => (m_X11_half_63  _ hf c hc9).trans (fr c hc9)
  · skip
    rcases zif_c hf with ⟨hc, hf⟩ | ⟨hc, hf⟩
    · skip
      obtain ⟨r3, h4, er3, hf⟩ := zbd_some hf
      have fr : ∀ c, c ∉ md_X11_half → h4 c = h c := fun c hc9 => (m_X6_forget _ er3 c (fun z => hc9 (sm_X11_half_X6_forget c z))).trans (fr c hc9)
      obtain ⟨r5, h6, er5, hf⟩ := zbd_some hf
      have fr : ∀ c, c ∉ md_X11_half → h6 c = h c := fun c hc9 => (m_X3_add _ _ _ _ _ er5 c (fun z => hc9 (sm_X11_half_X3_add c z))).trans (fr c hc9)
      cases hf
      exact fr
    · skip
      exact fun c hc9 => (m_X11_half_63  _ hf c hc9).trans (fr c hc9)
theorem m_X11_half_40   : ∀ (h0 : zH) (x1 : Int32) (x2 : Int32) (x3 : Int32) (x4 : Int32), f_X11_half_40  x1 x2 x3 x4 h0 = some q → ∀ c, c ∉ md_X11_half → q.2 c = h0 c := by
  intro h x1 x2 x3 x4 hf
  unfold f_X11_half_40 at hf
  have fr : ∀ c, c ∉ md_X11_half → h c = h c := fun _ _ => rfl
  exact fun c hc9 => (m_X11_half_41  _ _ _ _ _ _ hf c hc9).trans (fr c hc9)
theorem m_X11_half : ∀ (h0 : zH) (x1 : Int32) (x2 : Int32) (x3 : Int32) (x4 : Int32) {q : Int32 × zH}, f_X11_half x1 x2 x3 x4 h0 = some q → ∀ c, c ∉ md_X11_half → q.2 c = h0 c := by
  intro h x1 x2 x3 x4 q hf
  unfold f_X11_half at hf
  have fr : ∀ c, c ∉ md_X11_half → h c = h c := fun _ _ => rfl
  obtain ⟨r1, h2, er1, hf⟩ := zbd_some hf
  have fr : ∀ c, c ∉ md_X11_half → h2 c = h c := fun c hc9 => (m_X11_isBelow _ _ _ er1 c (fun z => hc9 (sm_X11_half_X11_isBelow c z))).trans (fr c hc9)
  rcases zif_c hf with ⟨hc, hf⟩ | ⟨hc, hf⟩
  · skip
    exact fun c hc9 => (m_X11_half_40  _ _ _ _ _ hf c hc9).trans (fr c hc9)
  · skip
    obtain ⟨r7, h8, er7, hf⟩ := zbd_some hf
    have fr : ∀ c, c ∉ md_X11_half → h8 c = h c := fun c hc9 => (m_X11_isBelow _ _ _ er7 c (fun z => hc9 (sm_X11_half_X11_isBelow c z))).trans (fr c hc9)
    rcases zif_c hf with ⟨hc, hf⟩ | ⟨hc, hf⟩
    · skip
      exact fun c hc9 => (m_X11_half_40  _ _ _ _ _ hf c hc9).trans (fr c hc9)
    · skip
      obtain ⟨r9, h10, er9, hf⟩ := zbd_some hf
      have fr : ∀ c, c ∉ md_X11_half → h10 c = h c := fun c hc9 => (m_X11_isBelow _ _ _ er9 c (fun z => hc9 (sm_X11_half_X11_isBelow c z))).trans (fr c hc9)
      rcases zif_c hf with ⟨hc, hf⟩ | ⟨hc, hf⟩
      · skip
        exact fun c hc9 => (m_X11_half_40  _ _ _ _ _ hf c hc9).trans (fr c hc9)
      · skip
        obtain ⟨r11, h12, er11, hf⟩ := zbd_some hf
        have fr : ∀ c, c ∉ md_X11_half → h12 c = h c := fun c hc9 => (m_X11_isBelow _ _ _ er11 c (fun z => hc9 (sm_X11_half_X11_isBelow c z))).trans (fr c hc9)
        rcases zif_c hf with ⟨hc, hf⟩ | ⟨hc, hf⟩
        · skip
          exact fun c hc9 => (m_X11_half_40  _ _ _ _ _ hf c hc9).trans (fr c hc9)
        · skip
          exact fun c hc9 => (m_X11_half_41  _ _ _ _ _ _ hf c hc9).trans (fr c hc9)
end
section
abbrev md_X3_has : List Nat := []
theorem sm_X3_has_X11_isBelow : ∀ c ∈ md_X11_isBelow, c ∈ md_X3_has := by decide
variable {q : Int32 × zH}
theorem m_X3_has : ∀ (h0 : zH) (x1 : Int32) {q : Int32 × zH}, f_X3_has x1 h0 = some q → ∀ c, c ∉ md_X3_has → q.2 c = h0 c := by
  intro h x1 q hf
  unfold f_X3_has at hf
  have fr : ∀ c, c ∉ md_X3_has → h c = h c := fun _ _ => rfl
  obtain ⟨r1, h2, er1, hf⟩ := zbd_some hf
  have fr : ∀ c, c ∉ md_X3_has → h2 c = h c := fun c hc9 => (m_X11_isBelow _ _ _ er1 c (fun z => hc9 (sm_X3_has_X11_isBelow c z))).trans (fr c hc9)
  obtain ⟨hb, hf⟩ := zbo_some hf
  cases hf
  exact fr
end
section
abbrev md_X3_quartersOf : List Nat := []
variable {q : Int32 × zH}
theorem m_X3_quartersOf : ∀ (h0 : zH) (x1 : Int32) (x2 : Int32) {q : Int32 × zH}, f_X3_quartersOf x1 x2 h0 = some q → ∀ c, c ∉ md_X3_quartersOf → q.2 c = h0 c := by
  intro h x1 x2 q hf
  unfold f_X3_quartersOf at hf
  have fr : ∀ c, c ∉ md_X3_quartersOf → h c = h c := fun _ _ => rfl
  obtain ⟨hi, hf⟩ := zck_some hf
  cases hf
  exact fr
end
section
abbrev md_X3_move : List Nat := [6]
variable {q : Int32 × zH}
theorem m_X3_move : ∀ (h0 : zH) (x1 : Int32) (x2 : Int32) (x3 : Int32) (x4 : Int32) {q : Int32 × zH}, f_X3_move x1 x2 x3 x4 h0 = some q → ∀ c, c ∉ md_X3_move → q.2 c = h0 c := by
  intro h x1 x2 x3 x4 q hf
  unfold f_X3_move at hf
  have fr : ∀ c, c ∉ md_X3_move → h c = h c := fun _ _ => rfl
  obtain ⟨hi, hf⟩ := zck_some hf
  obtain ⟨hi, hf⟩ := zck_some hf
  obtain ⟨h1, eh1, hf⟩ := zst_some hf
  have fr : ∀ c, c ∉ md_X3_move → h1 c = h c := fun c hc9 => (congrFun eh1 c).trans ((zup_ne c (fun z => hc9 (by rw [z]; decide))).trans (fr c hc9))
  obtain ⟨hi, hf⟩ := zck_some hf
  obtain ⟨hi, hf⟩ := zck_some hf
  obtain ⟨h2, eh2, hf⟩ := zst_some hf
  have fr : ∀ c, c ∉ md_X3_move → h2 c = h c := fun c hc9 => (congrFun eh2 c).trans ((zup_ne c (fun z => hc9 (by rw [z]; decide))).trans (fr c hc9))
  cases hf
  exact fr
end
section
abbrev md_X11_give : List Nat := [6, 22]
theorem sm_X11_give_X3_has : ∀ c ∈ md_X3_has, c ∈ md_X11_give := by decide
theorem sm_X11_give_X3_quartersOf : ∀ c ∈ md_X3_quartersOf, c ∈ md_X11_give := by decide
theorem sm_X11_give_X3_move : ∀ c ∈ md_X3_move, c ∈ md_X11_give := by decide
theorem sm_X11_give_X6_forget : ∀ c ∈ md_X6_forget, c ∈ md_X11_give := by decide
theorem sm_X11_give_X11_isBelow : ∀ c ∈ md_X11_isBelow, c ∈ md_X11_give := by decide
variable {q : Int32 × zH}
theorem m_X11_give_72   : ∀ (h0 : zH), f_X11_give_72  h0 = some q → ∀ c, c ∉ md_X11_give → q.2 c = h0 c := by
  intro h hf
  unfold f_X11_give_72 at hf
  have fr : ∀ c, c ∉ md_X11_give → h c = h c := fun _ _ => rfl
  cases hf
  exact fr
theorem m_X11_give_44   : ∀ (h0 : zH) (x1 : Int32) (x2 : Int32) (x3 : Int32) (x4 : Int32) (s0 : Int32), f_X11_give_44  x1 x2 x3 x4 s0 h0 = some q → ∀ c, c ∉ md_X11_give → q.2 c = h0 c := by
  intro h x1 x2 x3 x4 s0 hf
  unfold f_X11_give_44 at hf
  have fr : ∀ c, c ∉ md_X11_give → h c = h c := fun _ _ => rfl
  rcases zif_c hf with ⟨hc, hf⟩ | ⟨hc, hf⟩
  · skip
    exact fun c hc9 => (m_X11_give_72  _ hf c hc9).trans (fr c hc9)
  · skip
    rcases zif_c hf with ⟨hc, hf⟩ | ⟨hc, hf⟩
    · skip
      exact fun c hc9 => (m_X11_give_72  _ hf c hc9).trans (fr c hc9)
    · skip
      obtain ⟨r3, h4, er3, hf⟩ := zbd_some hf
      have fr : ∀ c, c ∉ md_X11_give → h4 c = h c := fun c hc9 => (m_X3_quartersOf _ _ _ er3 c (fun z => hc9 (sm_X11_give_X3_quartersOf c z))).trans (fr c hc9)
      rcases zif_c hf with ⟨hc, hf⟩ | ⟨hc, hf⟩
      · skip
        obtain ⟨r5, h6, er5, hf⟩ := zbd_some hf
        have fr : ∀ c, c ∉ md_X11_give → h6 c = h c := fun c hc9 => (m_X3_move _ _ _ _ _ er5 c (fun z => hc9 (sm_X11_give_X3_move c z))).trans (fr c hc9)
        obtain ⟨r7, h8, er7, hf⟩ := zbd_some hf
        have fr : ∀ c, c ∉ md_X11_give → h8 c = h c := fun c hc9 => (m_X6_forget _ er7 c (fun z => hc9 (sm_X11_give_X6_forget c z))).trans (fr c hc9)
        cases hf
        exact fr
      · skip
        exact fun c hc9 => (m_X11_give_72  _ hf c hc9).trans (fr c hc9)
theorem m_X11_give_43   : ∀ (h0 : zH) (x1 : Int32) (x2 : Int32) (x3 : Int32) (x4 : Int32), f_X11_give_43  x1 x2 x3 x4 h0 = some q → ∀ c, c ∉ md_X11_give → q.2 c = h0 c := by
  intro h x1 x2 x3 x4 hf
  unfold f_X11_give_43 at hf
  have fr : ∀ c, c ∉ md_X11_give → h c = h c := fun _ _ => rfl
  exact fun c hc9 => (m_X11_give_44  _ _ _ _ _ _ hf c hc9).trans (fr c hc9)
theorem m_X11_give : ∀ (h0 : zH) (x1 : Int32) (x2 : Int32) (x3 : Int32) (x4 : Int32) {q : Int32 × zH}, f_X11_give x1 x2 x3 x4 h0 = some q → ∀ c, c ∉ md_X11_give → q.2 c = h0 c := by
  intro h x1 x2 x3 x4 q hf
  unfold f_X11_give at hf
  have fr : ∀ c, c ∉ md_X11_give → h c = h c := fun _ _ => rfl
  obtain ⟨r1, h2, er1, hf⟩ := zbd_some hf
  have fr : ∀ c, c ∉ md_X11_give → h2 c = h c := fun c hc9 => (m_X3_has _ _ er1 c (fun z => hc9 (sm_X11_give_X3_has c z))).trans (fr c hc9)
  rcases zif_c hf with ⟨hc, hf⟩ | ⟨hc, hf⟩
  · skip
    exact fun c hc9 => (m_X11_give_43  _ _ _ _ _ hf c hc9).trans (fr c hc9)
  · skip
    obtain ⟨r9, h10, er9, hf⟩ := zbd_some hf
    have fr : ∀ c, c ∉ md_X11_give → h10 c = h c := fun c hc9 => (m_X11_isBelow _ _ _ er9 c (fun z => hc9 (sm_X11_give_X11_isBelow c z))).trans (fr c hc9)
    rcases zif_c hf with ⟨hc, hf⟩ | ⟨hc, hf⟩
    · skip
      exact fun c hc9 => (m_X11_give_43  _ _ _ _ _ hf c hc9).trans (fr c hc9)
    · skip
      obtain ⟨r11, h12, er11, hf⟩ := zbd_some hf
      have fr : ∀ c, c ∉ md_X11_give → h12 c = h c := fun c hc9 => (m_X11_isBelow _ _ _ er11 c (fun z => hc9 (sm_X11_give_X11_isBelow c z))).trans (fr c hc9)
      rcases zif_c hf with ⟨hc, hf⟩ | ⟨hc, hf⟩
      · skip
        exact fun c hc9 => (m_X11_give_43  _ _ _ _ _ hf c hc9).trans (fr c hc9)
      · skip
        rcases zif_c hf with ⟨hc, hf⟩ | ⟨hc, hf⟩
        · skip
          exact fun c hc9 => (m_X11_give_43  _ _ _ _ _ hf c hc9).trans (fr c hc9)
        · skip
          exact fun c hc9 => (m_X11_give_44  _ _ _ _ _ _ hf c hc9).trans (fr c hc9)
end
section
abbrev md_X11_isIn : List Nat := []
variable {q : Int32 × zH}
theorem m_X11_isIn : ∀ (h0 : zH) (x0 : Int32) (x1 : Int32) {q : Int32 × zH}, f_X11_isIn x0 x1 h0 = some q → ∀ c, c ∉ md_X11_isIn → q.2 c = h0 c := by
  intro h x0 x1 q hf
  unfold f_X11_isIn at hf
  have fr : ∀ c, c ∉ md_X11_isIn → h c = h c := fun _ _ => rfl
  rcases zif_c hf with ⟨hc, hf⟩ | ⟨hc, hf⟩
  · skip
    cases hf
    exact fr
  · skip
    cases hf
    exact fr
end
section
abbrev md_X3_inherit : List Nat := [6]
theorem sm_X3_inherit_X3_quartersOf : ∀ c ∈ md_X3_quartersOf, c ∈ md_X3_inherit := by decide
theorem sm_X3_inherit_X11_isIn : ∀ c ∈ md_X11_isIn, c ∈ md_X3_inherit := by decide
theorem sm_X3_inherit_X3_move : ∀ c ∈ md_X3_move, c ∈ md_X3_inherit := by decide
variable {q : Int32 × zH}
theorem m_X3_inherit_62   : ∀ (h0 : zH) (x5 : Int32), f_X3_inherit_62  x5 h0 = some q → ∀ c, c ∉ md_X3_inherit → q.2 c = h0 c := by
  intro h x5 hf
  unfold f_X3_inherit_62 at hf
  have fr : ∀ c, c ∉ md_X3_inherit → h c = h c := fun _ _ => rfl
  cases hf
  exact fr
theorem m_X3_inherit_56 {k14 : Int32 → Int32 → Int32 → Int32 → Int32 → Int32 → zH → zR} (hk14 : ∀ (h0 : zH) (x1 : Int32) (x2 : Int32) (x3 : Int32) (x4 : Int32) (x5 : Int32) (x6 : Int32), k14 x1 x2 x3 x4 x5 x6 h0 = some q → ∀ c, c ∉ md_X3_inherit → q.2 c = h0 c) : ∀ (h0 : zH) (x1 : Int32) (x2 : Int32) (x3 : Int32) (x4 : Int32) (x5 : Int32) (x6 : Int32), f_X3_inherit_56 k14 x1 x2 x3 x4 x5 x6 h0 = some q → ∀ c, c ∉ md_X3_inherit → q.2 c = h0 c := by
  intro h x1 x2 x3 x4 x5 x6 hf
  unfold f_X3_inherit_56 at hf
  have fr : ∀ c, c ∉ md_X3_inherit → h c = h c := fun _ _ => rfl
  obtain ⟨y6, ey6, hf⟩ := zlt_some hf
  exact fun c hc9 => (hk14 _ _ _ _ _ _ _ hf c hc9).trans (fr c hc9)
theorem m_X3_inherit_14   : ∀ n, ∀ (h0 : zH) (x1 : Int32) (x2 : Int32) (x3 : Int32) (x4 : Int32) (x5 : Int32) (x6 : Int32), f_X3_inherit_14  n x1 x2 x3 x4 x5 x6 h0 = some q → ∀ c, c ∉ md_X3_inherit → q.2 c = h0 c := by
  intro n
  induction n with
  | zero => intro h x1 x2 x3 x4 x5 x6 hf; cases hf
  | succ n ih =>
    intro h x1 x2 x3 x4 x5 x6 hf
    rw [f_X3_inherit_14] at hf
    have fr : ∀ c, c ∉ md_X3_inherit → h c = h c := fun _ _ => rfl
    rcases zif_c hf with ⟨hc, hf⟩ | ⟨hc, hf⟩
    · skip
      exact fun c hc9 => (m_X3_inherit_62  _ _ hf c hc9).trans (fr c hc9)
    · skip
      rcases zif_c hf with ⟨hc, hf⟩ | ⟨hc, hf⟩
      · skip
        exact fun c hc9 => (m_X3_inherit_62  _ _ hf c hc9).trans (fr c hc9)
      · skip
        obtain ⟨y3, ey3, hf⟩ := zlt_some hf
        obtain ⟨r4, h5, er4, hf⟩ := zbd_some hf
        have fr : ∀ c, c ∉ md_X3_inherit → h5 c = h c := fun c hc9 => (m_X11_isIn _ _ _ er4 c (fun z => hc9 (sm_X3_inherit_X11_isIn c z))).trans (fr c hc9)
        rcases zif_c hf with ⟨hc, hf⟩ | ⟨hc, hf⟩
        · skip
          exact fun c hc9 => (m_X3_inherit_56 ih _ _ _ _ _ _ _ hf c hc9).trans (fr c hc9)
        · skip
          obtain ⟨r7, h8, er7, hf⟩ := zbd_some hf
          have fr : ∀ c, c ∉ md_X3_inherit → h8 c = h c := fun c hc9 => (m_X3_move _ _ _ _ _ er7 c (fun z => hc9 (sm_X3_inherit_X3_move c z))).trans (fr c hc9)
          obtain ⟨y9, ey9, hf⟩ := zlt_some hf
          exact fun c hc9 => (m_X3_inherit_56 ih _ _ _ _ _ _ _ hf c hc9).trans (fr c hc9)
theorem m_X3_inherit : ∀ (h0 : zH) (x1 : Int32) (x2 : Int32) (x3 : Int32) {q : Int32 × zH}, f_X3_inherit x1 x2 x3 h0 = some q → ∀ c, c ∉ md_X3_inherit → q.2 c = h0 c := by
  intro h x1 x2 x3 q hf
  unfold f_X3_inherit at hf
  have fr : ∀ c, c ∉ md_X3_inherit → h c = h c := fun _ _ => rfl
  obtain ⟨r1, h2, er1, hf⟩ := zbd_some hf
  have fr : ∀ c, c ∉ md_X3_inherit → h2 c = h c := fun c hc9 => (m_X3_quartersOf _ _ _ er1 c (fun z => hc9 (sm_X3_inherit_X3_quartersOf c z))).trans (fr c hc9)
  exact fun c hc9 => (m_X3_inherit_14  zN _ _ _ _ _ _ _ hf c hc9).trans (fr c hc9)
end
section
abbrev md_X11_heirs : List Nat := [6, 22]
theorem sm_X11_heirs_X11_isBelow : ∀ c ∈ md_X11_isBelow, c ∈ md_X11_heirs := by decide
theorem sm_X11_heirs_X11_isIn : ∀ c ∈ md_X11_isIn, c ∈ md_X11_heirs := by decide
theorem sm_X11_heirs_X6_forget : ∀ c ∈ md_X6_forget, c ∈ md_X11_heirs := by decide
theorem sm_X11_heirs_X3_inherit : ∀ c ∈ md_X3_inherit, c ∈ md_X11_heirs := by decide
variable {q : Int32 × zH}
theorem m_X11_heirs_37   : ∀ (h0 : zH), f_X11_heirs_37  h0 = some q → ∀ c, c ∉ md_X11_heirs → q.2 c = h0 c := by
  intro h hf
  unfold f_X11_heirs_37 at hf
  have fr : ∀ c, c ∉ md_X11_heirs → h c = h c := fun _ _ => rfl
  cases hf
  exact fr
theorem m_X11_heirs_45   : ∀ n, ∀ (h0 : zH) (x1 : Int32) (x2 : Int32) (x4 : Int32) (x5 : Int32), f_X11_heirs_45  n x1 x2 x4 x5 h0 = some q → ∀ c, c ∉ md_X11_heirs → q.2 c = h0 c := by
  intro n
  induction n with
  | zero => intro h x1 x2 x4 x5 hf; cases hf
  | succ n ih =>
    intro h x1 x2 x4 x5 hf
    rw [f_X11_heirs_45] at hf
    have fr : ∀ c, c ∉ md_X11_heirs → h c = h c := fun _ _ => rfl
    rcases zif_c hf with ⟨hc, hf⟩ | ⟨hc, hf⟩
    · skip
      obtain ⟨r5, h6, er5, hf⟩ := zbd_some hf
      have fr : ∀ c, c ∉ md_X11_heirs → h6 c = h c := fun c hc9 => (m_X6_forget _ er5 c (fun z => hc9 (sm_X11_heirs_X6_forget c z))).trans (fr c hc9)
      cases hf
      exact fr
    · skip
      obtain ⟨r7, h8, er7, hf⟩ := zbd_some hf
      have fr : ∀ c, c ∉ md_X11_heirs → h8 c = h c := fun c hc9 => (m_X3_inherit _ _ _ _ er7 c (fun z => hc9 (sm_X11_heirs_X3_inherit c z))).trans (fr c hc9)
      obtain ⟨y9, ey9, hf⟩ := zlt_some hf
      obtain ⟨y10, ey10, hf⟩ := zlt_some hf
      exact fun c hc9 => (ih _ _ _ _ _ hf c hc9).trans (fr c hc9)
theorem m_X11_heirs_24   : ∀ (h0 : zH) (x1 : Int32) (x2 : Int32) (s0 : Int32), f_X11_heirs_24  x1 x2 s0 h0 = some q → ∀ c, c ∉ md_X11_heirs → q.2 c = h0 c := by
  intro h x1 x2 s0 hf
  unfold f_X11_heirs_24 at hf
  have fr : ∀ c, c ∉ md_X11_heirs → h c = h c := fun _ _ => rfl
  rcases zif_c hf with ⟨hc, hf⟩ | ⟨hc, hf⟩
  · skip
    exact fun c hc9 => (m_X11_heirs_37  _ hf c hc9).trans (fr c hc9)
  · skip
    obtain ⟨r3, h4, er3, hf⟩ := zbd_some hf
    have fr : ∀ c, c ∉ md_X11_heirs → h4 c = h c := fun c hc9 => (m_X11_isIn _ _ _ er3 c (fun z => hc9 (sm_X11_heirs_X11_isIn c z))).trans (fr c hc9)
    rcases zif_c hf with ⟨hc, hf⟩ | ⟨hc, hf⟩
    · skip
      exact fun c hc9 => (m_X11_heirs_45  zN _ _ _ _ _ hf c hc9).trans (fr c hc9)
    · skip
      exact fun c hc9 => (m_X11_heirs_37  _ hf c hc9).trans (fr c hc9)
theorem m_X11_heirs_23   : ∀ (h0 : zH) (x1 : Int32) (x2 : Int32), f_X11_heirs_23  x1 x2 h0 = some q → ∀ c, c ∉ md_X11_heirs → q.2 c = h0 c := by
  intro h x1 x2 hf
  unfold f_X11_heirs_23 at hf
  have fr : ∀ c, c ∉ md_X11_heirs → h c = h c := fun _ _ => rfl
  exact fun c hc9 => (m_X11_heirs_24  _ _ _ _ hf c hc9).trans (fr c hc9)
theorem m_X11_heirs : ∀ (h0 : zH) (x1 : Int32) (x2 : Int32) {q : Int32 × zH}, f_X11_heirs x1 x2 h0 = some q → ∀ c, c ∉ md_X11_heirs → q.2 c = h0 c := by
  intro h x1 x2 q hf
  unfold f_X11_heirs at hf
  have fr : ∀ c, c ∉ md_X11_heirs → h c = h c := fun _ _ => rfl
  obtain ⟨r1, h2, er1, hf⟩ := zbd_some hf
  have fr : ∀ c, c ∉ md_X11_heirs → h2 c = h c := fun c hc9 => (m_X11_isBelow _ _ _ er1 c (fun z => hc9 (sm_X11_heirs_X11_isBelow c z))).trans (fr c hc9)
  rcases zif_c hf with ⟨hc, hf⟩ | ⟨hc, hf⟩
  · skip
    exact fun c hc9 => (m_X11_heirs_23  _ _ _ hf c hc9).trans (fr c hc9)
  · skip
    rcases zif_c hf with ⟨hc, hf⟩ | ⟨hc, hf⟩
    · skip
      exact fun c hc9 => (m_X11_heirs_23  _ _ _ hf c hc9).trans (fr c hc9)
    · skip
      rcases zif_c hf with ⟨hc, hf⟩ | ⟨hc, hf⟩
      · skip
        exact fun c hc9 => (m_X11_heirs_23  _ _ _ hf c hc9).trans (fr c hc9)
      · skip
        exact fun c hc9 => (m_X11_heirs_24  _ _ _ _ hf c hc9).trans (fr c hc9)
end
section
abbrev md_X4_quarrel : List Nat := [20]
variable {q : Int32 × zH}
theorem m_X4_quarrel_69   : ∀ (h0 : zH) (s0 : Int32) (s1 : Int32), f_X4_quarrel_69  s0 s1 h0 = some q → ∀ c, c ∉ md_X4_quarrel → q.2 c = h0 c := by
  intro h s0 s1 hf
  unfold f_X4_quarrel_69 at hf
  have fr : ∀ c, c ∉ md_X4_quarrel → h c = h c := fun _ _ => rfl
  obtain ⟨hi, hf⟩ := zck_some hf
  obtain ⟨h2, eh2, hf⟩ := zst_some hf
  have fr : ∀ c, c ∉ md_X4_quarrel → h2 c = h c := fun c hc9 => (congrFun eh2 c).trans ((zup_ne c (fun z => hc9 (by rw [z]; decide))).trans (fr c hc9))
  cases hf
  exact fr
theorem m_X4_quarrel_34   : ∀ (h0 : zH) (x1 : Int32) (x2 : Int32) (x3 : Int32) (s0 : Int32) (s1 : Int32), f_X4_quarrel_34  x1 x2 x3 s0 s1 h0 = some q → ∀ c, c ∉ md_X4_quarrel → q.2 c = h0 c := by
  intro h x1 x2 x3 s0 s1 hf
  unfold f_X4_quarrel_34 at hf
  have fr : ∀ c, c ∉ md_X4_quarrel → h c = h c := fun _ _ => rfl
  obtain ⟨hi, hf⟩ := zck_some hf
  obtain ⟨h1, eh1, hf⟩ := zst_some hf
  have fr : ∀ c, c ∉ md_X4_quarrel → h1 c = h c := fun c hc9 => (congrFun eh1 c).trans ((zup_ne c (fun z => hc9 (by rw [z]; decide))).trans (fr c hc9))
  rcases zif_c hf with ⟨hc, hf⟩ | ⟨hc, hf⟩
  · skip
    obtain ⟨hi, hf⟩ := zck_some hf
    exact fun c hc9 => (m_X4_quarrel_69  _ _ _ hf c hc9).trans (fr c hc9)
  · skip
    obtain ⟨hi, hf⟩ := zck_some hf
    exact fun c hc9 => (m_X4_quarrel_69  _ _ _ hf c hc9).trans (fr c hc9)
theorem m_X4_quarrel : ∀ (h0 : zH) (x1 : Int32) (x2 : Int32) (x3 : Int32) {q : Int32 × zH}, f_X4_quarrel x1 x2 x3 h0 = some q → ∀ c, c ∉ md_X4_quarrel → q.2 c = h0 c := by
  intro h x1 x2 x3 q hf
  unfold f_X4_quarrel at hf
  have fr : ∀ c, c ∉ md_X4_quarrel → h c = h c := fun _ _ => rfl
  rcases zif_c hf with ⟨hc, hf⟩ | ⟨hc, hf⟩
  · skip
    obtain ⟨hi, hf⟩ := zck_some hf
    exact fun c hc9 => (m_X4_quarrel_34  _ _ _ _ _ _ hf c hc9).trans (fr c hc9)
  · skip
    obtain ⟨hi, hf⟩ := zck_some hf
    exact fun c hc9 => (m_X4_quarrel_34  _ _ _ _ _ _ hf c hc9).trans (fr c hc9)
end
section
abbrev md_X11_feud : List Nat := [20, 22]
theorem sm_X11_feud_X11_isBelow : ∀ c ∈ md_X11_isBelow, c ∈ md_X11_feud := by decide
theorem sm_X11_feud_X4_quarrel : ∀ c ∈ md_X4_quarrel, c ∈ md_X11_feud := by decide
theorem sm_X11_feud_X6_forget : ∀ c ∈ md_X6_forget, c ∈ md_X11_feud := by decide
variable {q : Int32 × zH}
theorem m_X11_feud_23   : ∀ (h0 : zH), f_X11_feud_23  h0 = some q → ∀ c, c ∉ md_X11_feud → q.2 c = h0 c := by
  intro h hf
  unfold f_X11_feud_23 at hf
  have fr : ∀ c, c ∉ md_X11_feud → h c = h c := fun _ _ => rfl
  cases hf
  exact fr
theorem m_X11_feud : ∀ (h0 : zH) (x1 : Int32) (x2 : Int32) (x3 : Int32) {q : Int32 × zH}, f_X11_feud x1 x2 x3 h0 = some q → ∀ c, c ∉ md_X11_feud → q.2 c = h0 c := by
  intro h x1 x2 x3 q hf
  unfold f_X11_feud at hf
  have fr : ∀ c, c ∉ md_X11_feud → h c = h c := fun _ _ => rfl
  obtain ⟨r1, h2, er1, hf⟩ := zbd_some hf
  have fr : ∀ c, c ∉ md_X11_feud → h2 c = h c := fun c hc9 => (m_X11_isBelow _ _ _ er1 c (fun z => hc9 (sm_X11_feud_X11_isBelow c z))).trans (fr c hc9)
  rcases zif_c hf with ⟨hc, hf⟩ | ⟨hc, hf⟩
  · skip
    exact fun c hc9 => (m_X11_feud_23  _ hf c hc9).trans (fr c hc9)
  · skip
    obtain ⟨r3, h4, er3, hf⟩ := zbd_some hf
    have fr : ∀ c, c ∉ md_X11_feud → h4 c = h c := fun c hc9 => (m_X11_isBelow _ _ _ er3 c (fun z => hc9 (sm_X11_feud_X11_isBelow c z))).trans (fr c hc9)
    rcases zif_c hf with ⟨hc, hf⟩ | ⟨hc, hf⟩
    · skip
      exact fun c hc9 => (m_X11_feud_23  _ hf c hc9).trans (fr c hc9)
    · skip
      rcases zif_n hf with ⟨hc, hf⟩ | ⟨hc, hf⟩
      · skip
        obtain ⟨r5, h6, er5, hf⟩ := zbd_some hf
        have fr : ∀ c, c ∉ md_X11_feud → h6 c = h c := fun c hc9 => (m_X4_quarrel _ _ _ _ er5 c (fun z => hc9 (sm_X11_feud_X4_quarrel c z))).trans (fr c hc9)
        obtain ⟨r7, h8, er7, hf⟩ := zbd_some hf
        have fr : ∀ c, c ∉ md_X11_feud → h8 c = h c := fun c hc9 => (m_X6_forget _ er7 c (fun z => hc9 (sm_X11_feud_X6_forget c z))).trans (fr c hc9)
        cases hf
        exact fr
      · skip
        exact fun c hc9 => (m_X11_feud_23  _ hf c hc9).trans (fr c hc9)
end
section
abbrev md_X9_add : List Nat := [7, 8, 9]
variable {q : Int32 × zH}
theorem m_X9_add : ∀ (h0 : zH) (x1 : Int32) {q : Int32 × zH}, f_X9_add x1 h0 = some q → ∀ c, c ∉ md_X9_add → q.2 c = h0 c := by
  intro h x1 q hf
  unfold f_X9_add at hf
  have fr : ∀ c, c ∉ md_X9_add → h c = h c := fun _ _ => rfl
  obtain ⟨y1, ey1, hf⟩ := zlt_some hf
  obtain ⟨hi, hf⟩ := zck_some hf
  obtain ⟨h2, eh2, hf⟩ := zst_some hf
  have fr : ∀ c, c ∉ md_X9_add → h2 c = h c := fun c hc9 => (congrFun eh2 c).trans ((zup_ne c (fun z => hc9 (by rw [z]; decide))).trans (fr c hc9))
  obtain ⟨hi, hf⟩ := zck_some hf
  obtain ⟨h3, eh3, hf⟩ := zst_some hf
  have fr : ∀ c, c ∉ md_X9_add → h3 c = h c := fun c hc9 => (congrFun eh3 c).trans ((zup_ne c (fun z => hc9 (by rw [z]; decide))).trans (fr c hc9))
  obtain ⟨h4, eh4, hf⟩ := zst_some hf
  have fr : ∀ c, c ∉ md_X9_add → h4 c = h c := fun c hc9 => (congrFun eh4 c).trans ((zup_ne c (fun z => hc9 (by rw [z]; decide))).trans (fr c hc9))
  cases hf
  exact fr
end
section
abbrev md_X11_guest : List Nat := [7, 8, 9, 22]
theorem sm_X11_guest_X11_isBelow : ∀ c ∈ md_X11_isBelow, c ∈ md_X11_guest := by decide
theorem sm_X11_guest_X6_forget : ∀ c ∈ md_X6_forget, c ∈ md_X11_guest := by decide
theorem sm_X11_guest_X9_add : ∀ c ∈ md_X9_add, c ∈ md_X11_guest := by decide
variable {q : Int32 × zH}
theorem m_X11_guest_24   : ∀ (h0 : zH), f_X11_guest_24  h0 = some q → ∀ c, c ∉ md_X11_guest → q.2 c = h0 c := by
  intro h hf
  unfold f_X11_guest_24 at hf
  have fr : ∀ c, c ∉ md_X11_guest → h c = h c := fun _ _ => rfl
  cases hf
  exact fr
theorem m_X11_guest : ∀ (h0 : zH) (x1 : Int32) {q : Int32 × zH}, f_X11_guest x1 h0 = some q → ∀ c, c ∉ md_X11_guest → q.2 c = h0 c := by
  intro h x1 q hf
  unfold f_X11_guest at hf
  have fr : ∀ c, c ∉ md_X11_guest → h c = h c := fun _ _ => rfl
  obtain ⟨r1, h2, er1, hf⟩ := zbd_some hf
  have fr : ∀ c, c ∉ md_X11_guest → h2 c = h c := fun c hc9 => (m_X11_isBelow _ _ _ er1 c (fun z => hc9 (sm_X11_guest_X11_isBelow c z))).trans (fr c hc9)
  rcases zif_c hf with ⟨hc, hf⟩ | ⟨hc, hf⟩
  · skip
    exact fun c hc9 => (m_X11_guest_24  _ hf c hc9).trans (fr c hc9)
  · skip
    rcases zif_c hf with ⟨hc, hf⟩ | ⟨hc, hf⟩
    · skip
      obtain ⟨r3, h4, er3, hf⟩ := zbd_some hf
      have fr : ∀ c, c ∉ md_X11_guest → h4 c = h c := fun c hc9 => (m_X6_forget _ er3 c (fun z => hc9 (sm_X11_guest_X6_forget c z))).trans (fr c hc9)
      obtain ⟨r5, h6, er5, hf⟩ := zbd_some hf
      have fr : ∀ c, c ∉ md_X11_guest → h6 c = h c := fun c hc9 => (m_X9_add _ _ er5 c (fun z => hc9 (sm_X11_guest_X9_add c z))).trans (fr c hc9)
      cases hf
      exact fr
    · skip
      exact fun c hc9 => (m_X11_guest_24  _ hf c hc9).trans (fr c hc9)
end
section
abbrev md_X9_canSit : List Nat := []
theorem sm_X9_canSit_X11_isBelow : ∀ c ∈ md_X11_isBelow, c ∈ md_X9_canSit := by decide
variable {q : Int32 × zH}
theorem m_X9_canSit_55   : ∀ (h0 : zH), f_X9_canSit_55  h0 = some q → ∀ c, c ∉ md_X9_canSit → q.2 c = h0 c := by
  intro h hf
  unfold f_X9_canSit_55 at hf
  have fr : ∀ c, c ∉ md_X9_canSit → h c = h c := fun _ _ => rfl
  cases hf
  exact fr
theorem m_X9_canSit_51   : ∀ (h0 : zH), f_X9_canSit_51  h0 = some q → ∀ c, c ∉ md_X9_canSit → q.2 c = h0 c := by
  intro h hf
  unfold f_X9_canSit_51 at hf
  have fr : ∀ c, c ∉ md_X9_canSit → h c = h c := fun _ _ => rfl
  cases hf
  exact fr
theorem m_X9_canSit : ∀ (h0 : zH) (x1 : Int32) (x2 : Int32) {q : Int32 × zH}, f_X9_canSit x1 x2 h0 = some q → ∀ c, c ∉ md_X9_canSit → q.2 c = h0 c := by
  intro h x1 x2 q hf
  unfold f_X9_canSit at hf
  have fr : ∀ c, c ∉ md_X9_canSit → h c = h c := fun _ _ => rfl
  obtain ⟨r1, h2, er1, hf⟩ := zbd_some hf
  have fr : ∀ c, c ∉ md_X9_canSit → h2 c = h c := fun c hc9 => (m_X11_isBelow _ _ _ er1 c (fun z => hc9 (sm_X9_canSit_X11_isBelow c z))).trans (fr c hc9)
  rcases zif_n hf with ⟨hc, hf⟩ | ⟨hc, hf⟩
  · skip
    rcases zif_n hf with ⟨hc, hf⟩ | ⟨hc, hf⟩
    · skip
      obtain ⟨r3, h4, er3, hf⟩ := zbd_some hf
      have fr : ∀ c, c ∉ md_X9_canSit → h4 c = h c := fun c hc9 => (m_X11_isBelow _ _ _ er3 c (fun z => hc9 (sm_X9_canSit_X11_isBelow c z))).trans (fr c hc9)
      rcases zif_c hf with ⟨hc, hf⟩ | ⟨hc, hf⟩
      · skip
        exact fun c hc9 => (m_X9_canSit_55  _ hf c hc9).trans (fr c hc9)
      · skip
        obtain ⟨hi, hf⟩ := zck_some hf
        rcases zif_c hf with ⟨hc, hf⟩ | ⟨hc, hf⟩
        · skip
          exact fun c hc9 => (m_X9_canSit_51  _ hf c hc9).trans (fr c hc9)
        · skip
          obtain ⟨hi, hf⟩ := zck_some hf
          rcases zif_n hf with ⟨hc, hf⟩ | ⟨hc, hf⟩
          · skip
            exact fun c hc9 => (m_X9_canSit_55  _ hf c hc9).trans (fr c hc9)
          · skip
            exact fun c hc9 => (m_X9_canSit_51  _ hf c hc9).trans (fr c hc9)
    · skip
      cases hf
      exact fr
  · skip
    cases hf
    exact fr
end
section
abbrev md_X9_sit : List Nat := [9, 10]
variable {q : Int32 × zH}
theorem m_X9_sit_22   : ∀ (h0 : zH) (x1 : Int32) (x2 : Int32), f_X9_sit_22  x1 x2 h0 = some q → ∀ c, c ∉ md_X9_sit → q.2 c = h0 c := by
  intro h x1 x2 hf
  unfold f_X9_sit_22 at hf
  have fr : ∀ c, c ∉ md_X9_sit → h c = h c := fun _ _ => rfl
  obtain ⟨hi, hf⟩ := zck_some hf
  obtain ⟨h1, eh1, hf⟩ := zst_some hf
  have fr : ∀ c, c ∉ md_X9_sit → h1 c = h c := fun c hc9 => (congrFun eh1 c).trans ((zup_ne c (fun z => hc9 (by rw [z]; decide))).trans (fr c hc9))
  rcases zif_c hf with ⟨hc, hf⟩ | ⟨hc, hf⟩
  · skip
    cases hf
    exact fr
  · skip
    obtain ⟨hi, hf⟩ := zck_some hf
    obtain ⟨h2, eh2, hf⟩ := zst_some hf
    have fr : ∀ c, c ∉ md_X9_sit → h2 c = h c := fun c hc9 => (congrFun eh2 c).trans ((zup_ne c (fun z => hc9 (by rw [z]; decide))).trans (fr c hc9))
    cases hf
    exact fr
theorem m_X9_sit : ∀ (h0 : zH) (x1 : Int32) (x2 : Int32) {q : Int32 × zH}, f_X9_sit x1 x2 h0 = some q → ∀ c, c ∉ md_X9_sit → q.2 c = h0 c := by
  intro h x1 x2 q hf
  unfold f_X9_sit at hf
  have fr : ∀ c, c ∉ md_X9_sit → h c = h c := fun _ _ => rfl
  obtain ⟨hi, hf⟩ := zck_some hf
  rcases zif_c hf with ⟨hc, hf⟩ | ⟨hc, hf⟩
  · skip
    exact fun c hc9 => (m_X9_sit_22  _ _ _ hf c hc9).trans (fr c hc9)
  · skip
    obtain ⟨hi, hf⟩ := zck_some hf
    obtain ⟨hi, hf⟩ := zck_some hf
    obtain ⟨h3, eh3, hf⟩ := zst_some hf
    have fr : ∀ c, c ∉ md_X9_sit → h3 c = h c := fun c hc9 => (congrFun eh3 c).trans ((zup_ne c (fun z => hc9 (by rw [z]; decide))).trans (fr c hc9))
    exact fun c hc9 => (m_X9_sit_22  _ _ _ hf c hc9).trans (fr c hc9)
end
section
abbrev md_X11_seat : List Nat := [9, 10, 22]
theorem sm_X11_seat_X9_canSit : ∀ c ∈ md_X9_canSit, c ∈ md_X11_seat := by decide
theorem sm_X11_seat_X9_sit : ∀ c ∈ md_X9_sit, c ∈ md_X11_seat := by decide
theorem sm_X11_seat_X6_forget : ∀ c ∈ md_X6_forget, c ∈ md_X11_seat := by decide
variable {q : Int32 × zH}
theorem m_X11_seat : ∀ (h0 : zH) (x1 : Int32) (x2 : Int32) {q : Int32 × zH}, f_X11_seat x1 x2 h0 = some q → ∀ c, c ∉ md_X11_seat → q.2 c = h0 c := by
  intro h x1 x2 q hf
  unfold f_X11_seat at hf
  have fr : ∀ c, c ∉ md_X11_seat → h c = h c := fun _ _ => rfl
  obtain ⟨r1, h2, er1, hf⟩ := zbd_some hf
  have fr : ∀ c, c ∉ md_X11_seat → h2 c = h c := fun c hc9 => (m_X9_canSit _ _ _ er1 c (fun z => hc9 (sm_X11_seat_X9_canSit c z))).trans (fr c hc9)
  rcases zif_n hf with ⟨hc, hf⟩ | ⟨hc, hf⟩
  · skip
    obtain ⟨r3, h4, er3, hf⟩ := zbd_some hf
    have fr : ∀ c, c ∉ md_X11_seat → h4 c = h c := fun c hc9 => (m_X9_sit _ _ _ er3 c (fun z => hc9 (sm_X11_seat_X9_sit c z))).trans (fr c hc9)
    obtain ⟨r5, h6, er5, hf⟩ := zbd_some hf
    have fr : ∀ c, c ∉ md_X11_seat → h6 c = h c := fun c hc9 => (m_X6_forget _ er5 c (fun z => hc9 (sm_X11_seat_X6_forget c z))).trans (fr c hc9)
    cases hf
    exact fr
  · skip
    cases hf
    exact fr
end
section
abbrev md_X9_layFor : List Nat := [7, 9, 10]
variable {q : Int32 × zH}
theorem m_X9_layFor_28   : ∀ n, ∀ (h0 : zH) (x2 : Int32), f_X9_layFor_28  n x2 h0 = some q → ∀ c, c ∉ md_X9_layFor → q.2 c = h0 c := by
  intro n
  induction n with
  | zero => intro h x2 hf; cases hf
  | succ n ih =>
    intro h x2 hf
    rw [f_X9_layFor_28] at hf
    have fr : ∀ c, c ∉ md_X9_layFor → h c = h c := fun _ _ => rfl
    rcases zif_c hf with ⟨hc, hf⟩ | ⟨hc, hf⟩
    · skip
      cases hf
      exact fr
    · skip
      obtain ⟨hi, hf⟩ := zck_some hf
      obtain ⟨h2, eh2, hf⟩ := zst_some hf
      have fr : ∀ c, c ∉ md_X9_layFor → h2 c = h c := fun c hc9 => (congrFun eh2 c).trans ((zup_ne c (fun z => hc9 (by rw [z]; decide))).trans (fr c hc9))
      obtain ⟨y3, ey3, hf⟩ := zlt_some hf
      exact fun c hc9 => (ih _ _ hf c hc9).trans (fr c hc9)
theorem m_X9_layFor_7   : ∀ n, ∀ (h0 : zH) (x2 : Int32), f_X9_layFor_7  n x2 h0 = some q → ∀ c, c ∉ md_X9_layFor → q.2 c = h0 c := by
  intro n
  induction n with
  | zero => intro h x2 hf; cases hf
  | succ n ih =>
    intro h x2 hf
    rw [f_X9_layFor_7] at hf
    have fr : ∀ c, c ∉ md_X9_layFor → h c = h c := fun _ _ => rfl
    rcases zif_c hf with ⟨hc, hf⟩ | ⟨hc, hf⟩
    · skip
      exact fun c hc9 => (m_X9_layFor_28  zN _ _ hf c hc9).trans (fr c hc9)
    · skip
      obtain ⟨hi, hf⟩ := zck_some hf
      obtain ⟨h4, eh4, hf⟩ := zst_some hf
      have fr : ∀ c, c ∉ md_X9_layFor → h4 c = h c := fun c hc9 => (congrFun eh4 c).trans ((zup_ne c (fun z => hc9 (by rw [z]; decide))).trans (fr c hc9))
      obtain ⟨y5, ey5, hf⟩ := zlt_some hf
      exact fun c hc9 => (ih _ _ hf c hc9).trans (fr c hc9)
theorem m_X9_layFor : ∀ (h0 : zH) (x1 : Int32) {q : Int32 × zH}, f_X9_layFor x1 h0 = some q → ∀ c, c ∉ md_X9_layFor → q.2 c = h0 c := by
  intro h x1 q hf
  unfold f_X9_layFor at hf
  have fr : ∀ c, c ∉ md_X9_layFor → h c = h c := fun _ _ => rfl
  obtain ⟨h1, eh1, hf⟩ := zst_some hf
  have fr : ∀ c, c ∉ md_X9_layFor → h1 c = h c := fun c hc9 => (congrFun eh1 c).trans ((zup_ne c (fun z => hc9 (by rw [z]; decide))).trans (fr c hc9))
  exact fun c hc9 => (m_X9_layFor_7  zN _ _ hf c hc9).trans (fr c hc9)
end
section
abbrev md_X11_set : List Nat := [1, 7, 9, 10, 22]
theorem sm_X11_set_X6_forget : ∀ c ∈ md_X6_forget, c ∈ md_X11_set := by decide
theorem sm_X11_set_X9_layFor : ∀ c ∈ md_X9_layFor, c ∈ md_X11_set := by decide
variable {q : Int32 × zH}
theorem m_X11_set_82   : ∀ (h0 : zH), f_X11_set_82  h0 = some q → ∀ c, c ∉ md_X11_set → q.2 c = h0 c := by
  intro h hf
  unfold f_X11_set_82 at hf
  have fr : ∀ c, c ∉ md_X11_set → h c = h c := fun _ _ => rfl
  cases hf
  exact fr
theorem m_X11_set_84   : ∀ (h0 : zH), f_X11_set_84  h0 = some q → ∀ c, c ∉ md_X11_set → q.2 c = h0 c := by
  intro h hf
  unfold f_X11_set_84 at hf
  have fr : ∀ c, c ∉ md_X11_set → h c = h c := fun _ _ => rfl
  obtain ⟨r2, h3, er2, hf⟩ := zbd_some hf
  have fr : ∀ c, c ∉ md_X11_set → h3 c = h c := fun c hc9 => (m_X6_forget _ er2 c (fun z => hc9 (sm_X11_set_X6_forget c z))).trans (fr c hc9)
  cases hf
  exact fr
theorem m_X11_set_55   : ∀ (h0 : zH) (x1 : Int32) (x2 : Int32), f_X11_set_55  x1 x2 h0 = some q → ∀ c, c ∉ md_X11_set → q.2 c = h0 c := by
  intro h x1 x2 hf
  unfold f_X11_set_55 at hf
  have fr : ∀ c, c ∉ md_X11_set → h c = h c := fun _ _ => rfl
  rcases zif_n hf with ⟨hc, hf⟩ | ⟨hc, hf⟩
  · skip
    exact fun c hc9 => (m_X11_set_82  _ hf c hc9).trans (fr c hc9)
  · skip
    rcases zif_c hf with ⟨hc, hf⟩ | ⟨hc, hf⟩
    · skip
      exact fun c hc9 => (m_X11_set_82  _ hf c hc9).trans (fr c hc9)
    · skip
      rcases zif_c hf with ⟨hc, hf⟩ | ⟨hc, hf⟩
      · skip
        exact fun c hc9 => (m_X11_set_82  _ hf c hc9).trans (fr c hc9)
      · skip
        obtain ⟨h1, eh1, hf⟩ := zst_some hf
        have fr : ∀ c, c ∉ md_X11_set → h1 c = h c := fun c hc9 => (congrFun eh1 c).trans ((zup_ne c (fun z => hc9 (by rw [z]; decide))).trans (fr c hc9))
        exact fun c hc9 => (m_X11_set_84  _ hf c hc9).trans (fr c hc9)
theorem m_X11_set_29   : ∀ (h0 : zH) (x1 : Int32) (x2 : Int32), f_X11_set_29  x1 x2 h0 = some q → ∀ c, c ∉ md_X11_set → q.2 c = h0 c := by
  intro h x1 x2 hf
  unfold f_X11_set_29 at hf
  have fr : ∀ c, c ∉ md_X11_set → h c = h c := fun _ _ => rfl
  rcases zif_n hf with ⟨hc, hf⟩ | ⟨hc, hf⟩
  · skip
    exact fun c hc9 => (m_X11_set_55  _ _ _ hf c hc9).trans (fr c hc9)
  · skip
    rcases zif_c hf with ⟨hc, hf⟩ | ⟨hc, hf⟩
    · skip
      exact fun c hc9 => (m_X11_set_55  _ _ _ hf c hc9).trans (fr c hc9)
    · skip
      rcases zif_c hf with ⟨hc, hf⟩ | ⟨hc, hf⟩
      · skip
        exact fun c hc9 => (m_X11_set_55  _ _ _ hf c hc9).trans (fr c hc9)
      · skip
        obtain ⟨h4, eh4, hf⟩ := zst_some hf
        have fr : ∀ c, c ∉ md_X11_set → h4 c = h c := fun c hc9 => (congrFun eh4 c).trans ((zup_ne c (fun z => hc9 (by rw [z]; decide))).trans (fr c hc9))
        exact fun c hc9 => (m_X11_set_84  _ hf c hc9).trans (fr c hc9)
theorem m_X11_set : ∀ (h0 : zH) (x1 : Int32) (x2 : Int32) {q : Int32 × zH}, f_X11_set x1 x2 h0 = some q → ∀ c, c ∉ md_X11_set → q.2 c = h0 c := by
  intro h x1 x2 q hf
  unfold f_X11_set at hf
  have fr : ∀ c, c ∉ md_X11_set → h c = h c := fun _ _ => rfl
  rcases zif_n hf with ⟨hc, hf⟩ | ⟨hc, hf⟩
  · skip
    exact fun c hc9 => (m_X11_set_29  _ _ _ hf c hc9).trans (fr c hc9)
  · skip
    rcases zif_c hf with ⟨hc, hf⟩ | ⟨hc, hf⟩
    · skip
      exact fun c hc9 => (m_X11_set_29  _ _ _ hf c hc9).trans (fr c hc9)
    · skip
      rcases zif_c hf with ⟨hc, hf⟩ | ⟨hc, hf⟩
      · skip
        exact fun c hc9 => (m_X11_set_29  _ _ _ hf c hc9).trans (fr c hc9)
      · skip
        obtain ⟨r5, h6, er5, hf⟩ := zbd_some hf
        have fr : ∀ c, c ∉ md_X11_set → h6 c = h c := fun c hc9 => (m_X9_layFor _ _ er5 c (fun z => hc9 (sm_X11_set_X9_layFor c z))).trans (fr c hc9)
        exact fun c hc9 => (m_X11_set_84  _ hf c hc9).trans (fr c hc9)
end
section
abbrev md_X7_hasRoom : List Nat := []
variable {q : Int32 × zH}
theorem m_X7_hasRoom : ∀ (h0 : zH) (x1 : Int32) {q : Int32 × zH}, f_X7_hasRoom x1 h0 = some q → ∀ c, c ∉ md_X7_hasRoom → q.2 c = h0 c := by
  intro h x1 q hf
  unfold f_X7_hasRoom at hf
  have fr : ∀ c, c ∉ md_X7_hasRoom → h c = h c := fun _ _ => rfl
  rcases zif_c hf with ⟨hc, hf⟩ | ⟨hc, hf⟩
  · skip
    cases hf
    exact fr
  · skip
    cases hf
    exact fr
end
section
abbrev md_X7_put : List Nat := [29, 30]
variable {q : Int32 × zH}
theorem m_X7_put_3   : ∀ n, ∀ (h0 : zH) (x1 : Int32) (x2 : Int32), f_X7_put_3  n x1 x2 h0 = some q → ∀ c, c ∉ md_X7_put → q.2 c = h0 c := by
  intro n
  induction n with
  | zero => intro h x1 x2 hf; cases hf
  | succ n ih =>
    intro h x1 x2 hf
    rw [f_X7_put_3] at hf
    have fr : ∀ c, c ∉ md_X7_put → h c = h c := fun _ _ => rfl
    rcases zif_c hf with ⟨hc, hf⟩ | ⟨hc, hf⟩
    · skip
      cases hf
      exact fr
    · skip
      rcases zif_c hf with ⟨hc, hf⟩ | ⟨hc, hf⟩
      · skip
        cases hf
        exact fr
      · skip
        obtain ⟨hi, hf⟩ := zck_some hf
        obtain ⟨h1, eh1, hf⟩ := zst_some hf
        have fr : ∀ c, c ∉ md_X7_put → h1 c = h c := fun c hc9 => (congrFun eh1 c).trans ((zup_ne c (fun z => hc9 (by rw [z]; decide))).trans (fr c hc9))
        obtain ⟨h2, eh2, hf⟩ := zst_some hf
        have fr : ∀ c, c ∉ md_X7_put → h2 c = h c := fun c hc9 => (congrFun eh2 c).trans ((zup_ne c (fun z => hc9 (by rw [z]; decide))).trans (fr c hc9))
        obtain ⟨y3, ey3, hf⟩ := zlt_some hf
        exact fun c hc9 => (ih _ _ _ hf c hc9).trans (fr c hc9)
theorem m_X7_put : ∀ (h0 : zH) (x1 : Int32) {q : Int32 × zH}, f_X7_put x1 h0 = some q → ∀ c, c ∉ md_X7_put → q.2 c = h0 c := by
  intro h x1 q hf
  unfold f_X7_put at hf
  have fr : ∀ c, c ∉ md_X7_put → h c = h c := fun _ _ => rfl
  exact fun c hc9 => (m_X7_put_3  zN _ _ _ hf c hc9).trans (fr c hc9)
end
section
abbrev md_X11_feed : List Nat := [29, 30]
theorem sm_X11_feed_X7_hasRoom : ∀ c ∈ md_X7_hasRoom, c ∈ md_X11_feed := by decide
theorem sm_X11_feed_X7_put : ∀ c ∈ md_X7_put, c ∈ md_X11_feed := by decide
variable {q : Int32 × zH}
theorem m_X11_feed : ∀ (h0 : zH) (x1 : Int32) (x2 : Int32) (x3 : Int32) (x4 : Int32) (x5 : Int32) {q : Int32 × zH}, f_X11_feed x1 x2 x3 x4 x5 h0 = some q → ∀ c, c ∉ md_X11_feed → q.2 c = h0 c := by
  intro h x1 x2 x3 x4 x5 q hf
  unfold f_X11_feed at hf
  have fr : ∀ c, c ∉ md_X11_feed → h c = h c := fun _ _ => rfl
  obtain ⟨r1, h2, er1, hf⟩ := zbd_some hf
  have fr : ∀ c, c ∉ md_X11_feed → h2 c = h c := fun c hc9 => (m_X7_hasRoom _ _ er1 c (fun z => hc9 (sm_X11_feed_X7_hasRoom c z))).trans (fr c hc9)
  rcases zif_n hf with ⟨hc, hf⟩ | ⟨hc, hf⟩
  · skip
    obtain ⟨r3, h4, er3, hf⟩ := zbd_some hf
    have fr : ∀ c, c ∉ md_X11_feed → h4 c = h c := fun c hc9 => (m_X7_put _ _ er3 c (fun z => hc9 (sm_X11_feed_X7_put c z))).trans (fr c hc9)
    obtain ⟨r5, h6, er5, hf⟩ := zbd_some hf
    have fr : ∀ c, c ∉ md_X11_feed → h6 c = h c := fun c hc9 => (m_X7_put _ _ er5 c (fun z => hc9 (sm_X11_feed_X7_put c z))).trans (fr c hc9)
    obtain ⟨r7, h8, er7, hf⟩ := zbd_some hf
    have fr : ∀ c, c ∉ md_X11_feed → h8 c = h c := fun c hc9 => (m_X7_put _ _ er7 c (fun z => hc9 (sm_X11_feed_X7_put c z))).trans (fr c hc9)
    obtain ⟨r9, h10, er9, hf⟩ := zbd_some hf
    have fr : ∀ c, c ∉ md_X11_feed → h10 c = h c := fun c hc9 => (m_X7_put _ _ er9 c (fun z => hc9 (sm_X11_feed_X7_put c z))).trans (fr c hc9)
    obtain ⟨r11, h12, er11, hf⟩ := zbd_some hf
    have fr : ∀ c, c ∉ md_X11_feed → h12 c = h c := fun c hc9 => (m_X7_put _ _ er11 c (fun z => hc9 (sm_X11_feed_X7_put c z))).trans (fr c hc9)
    cases hf
    exact fr
  · skip
    cases hf
    exact fr
end
section
abbrev md_X11_end : List Nat := [29]
variable {q : Int32 × zH}
theorem m_X11_end_15   : ∀ (h0 : zH), f_X11_end_15  h0 = some q → ∀ c, c ∉ md_X11_end → q.2 c = h0 c := by
  intro h hf
  unfold f_X11_end_15 at hf
  have fr : ∀ c, c ∉ md_X11_end → h c = h c := fun _ _ => rfl
  cases hf
  exact fr
theorem m_X11_end : ∀ (h0 : zH) (x1 : Int32) {q : Int32 × zH}, f_X11_end x1 h0 = some q → ∀ c, c ∉ md_X11_end → q.2 c = h0 c := by
  intro h x1 q hf
  unfold f_X11_end at hf
  have fr : ∀ c, c ∉ md_X11_end → h c = h c := fun _ _ => rfl
  rcases zif_c hf with ⟨hc, hf⟩ | ⟨hc, hf⟩
  · skip
    exact fun c hc9 => (m_X11_end_15  _ hf c hc9).trans (fr c hc9)
  · skip
    rcases zif_c hf with ⟨hc, hf⟩ | ⟨hc, hf⟩
    · skip
      obtain ⟨h1, eh1, hf⟩ := zst_some hf
      have fr : ∀ c, c ∉ md_X11_end → h1 c = h c := fun c hc9 => (congrFun eh1 c).trans ((zup_ne c (fun z => hc9 (by rw [z]; decide))).trans (fr c hc9))
      cases hf
      exact fr
    · skip
      exact fun c hc9 => (m_X11_end_15  _ hf c hc9).trans (fr c hc9)
end
section
abbrev md_X11_fault : List Nat := []
variable {q : Int32 × zH}
theorem m_X11_fault : ∀ (h0 : zH) (x1 : Int32) {q : Int32 × zH}, f_X11_fault x1 h0 = some q → ∀ c, c ∉ md_X11_fault → q.2 c = h0 c := by
  intro h x1 q hf
  unfold f_X11_fault at hf
  have fr : ∀ c, c ∉ md_X11_fault → h c = h c := fun _ _ => rfl
  rcases zif_n hf with ⟨hc, hf⟩ | ⟨hc, hf⟩
  · skip
    rcases zif_n hf with ⟨hc, hf⟩ | ⟨hc, hf⟩
    · skip
      cases hf
      exact fr
    · skip
      cases hf
      exact fr
  · skip
    cases hf
    exact fr
end
section
abbrev md_X11_of : List Nat := []
theorem sm_X11_of_X3_has : ∀ c ∈ md_X3_has, c ∈ md_X11_of := by decide
theorem sm_X11_of_X3_quartersOf : ∀ c ∈ md_X3_quartersOf, c ∈ md_X11_of := by decide
variable {q : Int32 × zH}
theorem m_X11_of_113   : ∀ (h0 : zH), f_X11_of_113  h0 = some q → ∀ c, c ∉ md_X11_of → q.2 c = h0 c := by
  intro h hf
  unfold f_X11_of_113 at hf
  have fr : ∀ c, c ∉ md_X11_of → h c = h c := fun _ _ => rfl
  cases hf
  exact fr
theorem m_X11_of : ∀ (h0 : zH) (x1 : Int32) (x2 : Int32) {q : Int32 × zH}, f_X11_of x1 x2 h0 = some q → ∀ c, c ∉ md_X11_of → q.2 c = h0 c := by
  intro h x1 x2 q hf
  unfold f_X11_of at hf
  have fr : ∀ c, c ∉ md_X11_of → h c = h c := fun _ _ => rfl
  obtain ⟨r1, h2, er1, hf⟩ := zbd_some hf
  have fr : ∀ c, c ∉ md_X11_of → h2 c = h c := fun c hc9 => (m_X3_has _ _ er1 c (fun z => hc9 (sm_X11_of_X3_has c z))).trans (fr c hc9)
  rcases zif_n hf with ⟨hc, hf⟩ | ⟨hc, hf⟩
  · skip
    by_cases hc0 : x2 = (0 : Int32)
    · have hf := zif_t hc0 hf
      obtain ⟨hi, hf⟩ := zck_some hf
      cases hf
      exact fr
    have hf := zif_f hc0 hf
    by_cases hc1 : x2 = (1 : Int32)
    · have hf := zif_t hc1 hf
      obtain ⟨hi, hf⟩ := zck_some hf
      cases hf
      exact fr
    have hf := zif_f hc1 hf
    by_cases hc2 : x2 = (2 : Int32)
    · have hf := zif_t hc2 hf
      obtain ⟨hi, hf⟩ := zck_some hf
      cases hf
      exact fr
    have hf := zif_f hc2 hf
    rcases zif_c hf with ⟨hc, hf⟩ | ⟨hc, hf⟩
    · skip
      exact fun c hc9 => (m_X11_of_113  _ hf c hc9).trans (fr c hc9)
    · skip
      rcases zif_c hf with ⟨hc, hf⟩ | ⟨hc, hf⟩
      · skip
        exact fun c hc9 => (m_X11_of_113  _ hf c hc9).trans (fr c hc9)
      · skip
        obtain ⟨r3, h4, er3, hf⟩ := zbd_some hf
        have fr : ∀ c, c ∉ md_X11_of → h4 c = h c := fun c hc9 => (m_X3_quartersOf _ _ _ er3 c (fun z => hc9 (sm_X11_of_X3_quartersOf c z))).trans (fr c hc9)
        cases hf
        exact fr
  · skip
    cases hf
    exact fr
end
section
abbrev md_X11_who : List Nat := []
theorem sm_X11_who_X11_isBelow : ∀ c ∈ md_X11_isBelow, c ∈ md_X11_who := by decide
variable {q : Int32 × zH}
theorem m_X11_who_28   : ∀ (h0 : zH), f_X11_who_28  h0 = some q → ∀ c, c ∉ md_X11_who → q.2 c = h0 c := by
  intro h hf
  unfold f_X11_who_28 at hf
  have fr : ∀ c, c ∉ md_X11_who → h c = h c := fun _ _ => rfl
  cases hf
  exact fr
theorem m_X11_who : ∀ (h0 : zH) (x1 : Int32) (x2 : Int32) {q : Int32 × zH}, f_X11_who x1 x2 h0 = some q → ∀ c, c ∉ md_X11_who → q.2 c = h0 c := by
  intro h x1 x2 q hf
  unfold f_X11_who at hf
  have fr : ∀ c, c ∉ md_X11_who → h c = h c := fun _ _ => rfl
  obtain ⟨r1, h2, er1, hf⟩ := zbd_some hf
  have fr : ∀ c, c ∉ md_X11_who → h2 c = h c := fun c hc9 => (m_X11_isBelow _ _ _ er1 c (fun z => hc9 (sm_X11_who_X11_isBelow c z))).trans (fr c hc9)
  rcases zif_c hf with ⟨hc, hf⟩ | ⟨hc, hf⟩
  · skip
    exact fun c hc9 => (m_X11_who_28  _ hf c hc9).trans (fr c hc9)
  · skip
    rcases zif_c hf with ⟨hc, hf⟩ | ⟨hc, hf⟩
    · skip
      exact fun c hc9 => (m_X11_who_28  _ hf c hc9).trans (fr c hc9)
    · skip
      rcases zif_c hf with ⟨hc, hf⟩ | ⟨hc, hf⟩
      · skip
        rcases zif_n hf with ⟨hc, hf⟩ | ⟨hc, hf⟩
        · skip
          obtain ⟨hi, hf⟩ := zck_some hf
          cases hf
          exact fr
        · skip
          obtain ⟨hi, hf⟩ := zck_some hf
          cases hf
          exact fr
      · skip
        exact fun c hc9 => (m_X11_who_28  _ hf c hc9).trans (fr c hc9)
end
section
abbrev md_X3_isOn : List Nat := []
theorem sm_X3_isOn_X3_has : ∀ c ∈ md_X3_has, c ∈ md_X3_isOn := by decide
variable {q : Int32 × zH}
theorem m_X3_isOn_22   : ∀ (h0 : zH), f_X3_isOn_22  h0 = some q → ∀ c, c ∉ md_X3_isOn → q.2 c = h0 c := by
  intro h hf
  unfold f_X3_isOn_22 at hf
  have fr : ∀ c, c ∉ md_X3_isOn → h c = h c := fun _ _ => rfl
  cases hf
  exact fr
theorem m_X3_isOn : ∀ (h0 : zH) (x1 : Int32) (x2 : Int32) {q : Int32 × zH}, f_X3_isOn x1 x2 h0 = some q → ∀ c, c ∉ md_X3_isOn → q.2 c = h0 c := by
  intro h x1 x2 q hf
  unfold f_X3_isOn at hf
  have fr : ∀ c, c ∉ md_X3_isOn → h c = h c := fun _ _ => rfl
  obtain ⟨r1, h2, er1, hf⟩ := zbd_some hf
  have fr : ∀ c, c ∉ md_X3_isOn → h2 c = h c := fun c hc9 => (m_X3_has _ _ er1 c (fun z => hc9 (sm_X3_isOn_X3_has c z))).trans (fr c hc9)
  rcases zif_c hf with ⟨hc, hf⟩ | ⟨hc, hf⟩
  · skip
    exact fun c hc9 => (m_X3_isOn_22  _ hf c hc9).trans (fr c hc9)
  · skip
    obtain ⟨hi, hf⟩ := zck_some hf
    rcases zif_n hf with ⟨hc, hf⟩ | ⟨hc, hf⟩
    · skip
      exact fun c hc9 => (m_X3_isOn_22  _ hf c hc9).trans (fr c hc9)
    · skip
      cases hf
      exact fr
end
section
abbrev md_X11_arePair : List Nat := []
theorem sm_X11_arePair_X3_isOn : ∀ c ∈ md_X3_isOn, c ∈ md_X11_arePair := by decide
variable {q : Int32 × zH}
theorem m_X11_arePair_34   : ∀ (h0 : zH), f_X11_arePair_34  h0 = some q → ∀ c, c ∉ md_X11_arePair → q.2 c = h0 c := by
  intro h hf
  unfold f_X11_arePair_34 at hf
  have fr : ∀ c, c ∉ md_X11_arePair → h c = h c := fun _ _ => rfl
  cases hf
  exact fr
theorem m_X11_arePair : ∀ (h0 : zH) (x1 : Int32) (x2 : Int32) {q : Int32 × zH}, f_X11_arePair x1 x2 h0 = some q → ∀ c, c ∉ md_X11_arePair → q.2 c = h0 c := by
  intro h x1 x2 q hf
  unfold f_X11_arePair at hf
  have fr : ∀ c, c ∉ md_X11_arePair → h c = h c := fun _ _ => rfl
  obtain ⟨r1, h2, er1, hf⟩ := zbd_some hf
  have fr : ∀ c, c ∉ md_X11_arePair → h2 c = h c := fun c hc9 => (m_X3_isOn _ _ _ er1 c (fun z => hc9 (sm_X11_arePair_X3_isOn c z))).trans (fr c hc9)
  rcases zif_c hf with ⟨hc, hf⟩ | ⟨hc, hf⟩
  · skip
    exact fun c hc9 => (m_X11_arePair_34  _ hf c hc9).trans (fr c hc9)
  · skip
    obtain ⟨r3, h4, er3, hf⟩ := zbd_some hf
    have fr : ∀ c, c ∉ md_X11_arePair → h4 c = h c := fun c hc9 => (m_X3_isOn _ _ _ er3 c (fun z => hc9 (sm_X11_arePair_X3_isOn c z))).trans (fr c hc9)
    rcases zif_c hf with ⟨hc, hf⟩ | ⟨hc, hf⟩
    · skip
      exact fun c hc9 => (m_X11_arePair_34  _ hf c hc9).trans (fr c hc9)
    · skip
      cases hf
      exact fr
end
section
abbrev md_X11_pairOf : List Nat := []
variable {q : Int32 × zH}
theorem m_X11_pairOf : ∀ (h0 : zH) (x0 : Int32) (x1 : Int32) {q : Int32 × zH}, f_X11_pairOf x0 x1 h0 = some q → ∀ c, c ∉ md_X11_pairOf → q.2 c = h0 c := by
  intro h x0 x1 q hf
  unfold f_X11_pairOf at hf
  have fr : ∀ c, c ∉ md_X11_pairOf → h c = h c := fun _ _ => rfl
  cases hf
  exact fr
end
section
abbrev md_X11_told : List Nat := []
theorem sm_X11_told_X11_arePair : ∀ c ∈ md_X11_arePair, c ∈ md_X11_told := by decide
theorem sm_X11_told_X11_pairOf : ∀ c ∈ md_X11_pairOf, c ∈ md_X11_told := by decide
variable {q : Int32 × zH}
theorem m_X11_told : ∀ (h0 : zH) (x1 : Int32) (x2 : Int32) {q : Int32 × zH}, f_X11_told x1 x2 h0 = some q → ∀ c, c ∉ md_X11_told → q.2 c = h0 c := by
  intro h x1 x2 q hf
  unfold f_X11_told at hf
  have fr : ∀ c, c ∉ md_X11_told → h c = h c := fun _ _ => rfl
  obtain ⟨r1, h2, er1, hf⟩ := zbd_some hf
  have fr : ∀ c, c ∉ md_X11_told → h2 c = h c := fun c hc9 => (m_X11_arePair _ _ _ er1 c (fun z => hc9 (sm_X11_told_X11_arePair c z))).trans (fr c hc9)
  rcases zif_c hf with ⟨hc, hf⟩ | ⟨hc, hf⟩
  · skip
    cases hf
    exact fr
  · skip
    obtain ⟨r3, h4, er3, hf⟩ := zbd_some hf
    have fr : ∀ c, c ∉ md_X11_told → h4 c = h c := fun c hc9 => (m_X11_pairOf _ _ _ er3 c (fun z => hc9 (sm_X11_told_X11_pairOf c z))).trans (fr c hc9)
    obtain ⟨hi, hf⟩ := zck_some hf
    cases hf
    exact fr
end
section
abbrev md_X11_book : List Nat := []
theorem sm_X11_book_X11_isBelow : ∀ c ∈ md_X11_isBelow, c ∈ md_X11_book := by decide
variable {q : Int32 × zH}
theorem m_X11_book_31   : ∀ (h0 : zH) (x1 : Int32) (x2 : Int32) (s0 : Int32), f_X11_book_31  x1 x2 s0 h0 = some q → ∀ c, c ∉ md_X11_book → q.2 c = h0 c := by
  intro h x1 x2 s0 hf
  unfold f_X11_book_31 at hf
  have fr : ∀ c, c ∉ md_X11_book → h c = h c := fun _ _ => rfl
  rcases zif_c hf with ⟨hc, hf⟩ | ⟨hc, hf⟩
  · skip
    cases hf
    exact fr
  · skip
    obtain ⟨hi, hf⟩ := zck_some hf
    cases hf
    exact fr
theorem m_X11_book_30   : ∀ (h0 : zH) (x1 : Int32) (x2 : Int32), f_X11_book_30  x1 x2 h0 = some q → ∀ c, c ∉ md_X11_book → q.2 c = h0 c := by
  intro h x1 x2 hf
  unfold f_X11_book_30 at hf
  have fr : ∀ c, c ∉ md_X11_book → h c = h c := fun _ _ => rfl
  exact fun c hc9 => (m_X11_book_31  _ _ _ _ hf c hc9).trans (fr c hc9)
theorem m_X11_book : ∀ (h0 : zH) (x1 : Int32) (x2 : Int32) {q : Int32 × zH}, f_X11_book x1 x2 h0 = some q → ∀ c, c ∉ md_X11_book → q.2 c = h0 c := by
  intro h x1 x2 q hf
  unfold f_X11_book at hf
  have fr : ∀ c, c ∉ md_X11_book → h c = h c := fun _ _ => rfl
  obtain ⟨r1, h2, er1, hf⟩ := zbd_some hf
  have fr : ∀ c, c ∉ md_X11_book → h2 c = h c := fun c hc9 => (m_X11_isBelow _ _ _ er1 c (fun z => hc9 (sm_X11_book_X11_isBelow c z))).trans (fr c hc9)
  rcases zif_c hf with ⟨hc, hf⟩ | ⟨hc, hf⟩
  · skip
    exact fun c hc9 => (m_X11_book_30  _ _ _ hf c hc9).trans (fr c hc9)
  · skip
    obtain ⟨r3, h4, er3, hf⟩ := zbd_some hf
    have fr : ∀ c, c ∉ md_X11_book → h4 c = h c := fun c hc9 => (m_X11_isBelow _ _ _ er3 c (fun z => hc9 (sm_X11_book_X11_isBelow c z))).trans (fr c hc9)
    rcases zif_c hf with ⟨hc, hf⟩ | ⟨hc, hf⟩
    · skip
      exact fun c hc9 => (m_X11_book_30  _ _ _ hf c hc9).trans (fr c hc9)
    · skip
      exact fun c hc9 => (m_X11_book_31  _ _ _ _ hf c hc9).trans (fr c hc9)
end
section
abbrev md_X11_fame : List Nat := []
theorem sm_X11_fame_X11_isBelow : ∀ c ∈ md_X11_isBelow, c ∈ md_X11_fame := by decide
variable {q : Int32 × zH}
theorem m_X11_fame : ∀ (h0 : zH) (x1 : Int32) {q : Int32 × zH}, f_X11_fame x1 h0 = some q → ∀ c, c ∉ md_X11_fame → q.2 c = h0 c := by
  intro h x1 q hf
  unfold f_X11_fame at hf
  have fr : ∀ c, c ∉ md_X11_fame → h c = h c := fun _ _ => rfl
  obtain ⟨r1, h2, er1, hf⟩ := zbd_some hf
  have fr : ∀ c, c ∉ md_X11_fame → h2 c = h c := fun c hc9 => (m_X11_isBelow _ _ _ er1 c (fun z => hc9 (sm_X11_fame_X11_isBelow c z))).trans (fr c hc9)
  rcases zif_c hf with ⟨hc, hf⟩ | ⟨hc, hf⟩
  · skip
    cases hf
    exact fr
  · skip
    obtain ⟨hi, hf⟩ := zck_some hf
    cases hf
    exact fr
end
section
abbrev md_X3_isLike : List Nat := []
theorem sm_X3_isLike_X3_quartersOf : ∀ c ∈ md_X3_quartersOf, c ∈ md_X3_isLike := by decide
variable {q : Int32 × zH}
theorem m_X3_isLike_40   : ∀ (h0 : zH), f_X3_isLike_40  h0 = some q → ∀ c, c ∉ md_X3_isLike → q.2 c = h0 c := by
  intro h hf
  unfold f_X3_isLike_40 at hf
  have fr : ∀ c, c ∉ md_X3_isLike → h c = h c := fun _ _ => rfl
  cases hf
  exact fr
theorem m_X3_isLike_74 {k45 : Int32 → Int32 → Int32 → zH → zR} (hk45 : ∀ (h0 : zH) (x1 : Int32) (x2 : Int32) (x4 : Int32), k45 x1 x2 x4 h0 = some q → ∀ c, c ∉ md_X3_isLike → q.2 c = h0 c) : ∀ (h0 : zH) (x1 : Int32) (x2 : Int32) (x4 : Int32), f_X3_isLike_74 k45 x1 x2 x4 h0 = some q → ∀ c, c ∉ md_X3_isLike → q.2 c = h0 c := by
  intro h x1 x2 x4 hf
  unfold f_X3_isLike_74 at hf
  have fr : ∀ c, c ∉ md_X3_isLike → h c = h c := fun _ _ => rfl
  obtain ⟨y3, ey3, hf⟩ := zlt_some hf
  exact fun c hc9 => (hk45 _ _ _ _ hf c hc9).trans (fr c hc9)
theorem m_X3_isLike_45   : ∀ n, ∀ (h0 : zH) (x1 : Int32) (x2 : Int32) (x4 : Int32), f_X3_isLike_45  n x1 x2 x4 h0 = some q → ∀ c, c ∉ md_X3_isLike → q.2 c = h0 c := by
  intro n
  induction n with
  | zero => intro h x1 x2 x4 hf; cases hf
  | succ n ih =>
    intro h x1 x2 x4 hf
    rw [f_X3_isLike_45] at hf
    have fr : ∀ c, c ∉ md_X3_isLike → h c = h c := fun _ _ => rfl
    rcases zif_c hf with ⟨hc, hf⟩ | ⟨hc, hf⟩
    · skip
      cases hf
      exact fr
    · skip
      obtain ⟨r1, h2, er1, hf⟩ := zbd_some hf
      have fr : ∀ c, c ∉ md_X3_isLike → h2 c = h c := fun c hc9 => (m_X3_quartersOf _ _ _ er1 c (fun z => hc9 (sm_X3_isLike_X3_quartersOf c z))).trans (fr c hc9)
      rcases zif_c hf with ⟨hc, hf⟩ | ⟨hc, hf⟩
      · skip
        exact fun c hc9 => (m_X3_isLike_74 ih _ _ _ _ hf c hc9).trans (fr c hc9)
      · skip
        obtain ⟨r4, h5, er4, hf⟩ := zbd_some hf
        have fr : ∀ c, c ∉ md_X3_isLike → h5 c = h c := fun c hc9 => (m_X3_quartersOf _ _ _ er4 c (fun z => hc9 (sm_X3_isLike_X3_quartersOf c z))).trans (fr c hc9)
        rcases zif_n hf with ⟨hc, hf⟩ | ⟨hc, hf⟩
        · skip
          exact fun c hc9 => (m_X3_isLike_74 ih _ _ _ _ hf c hc9).trans (fr c hc9)
        · skip
          cases hf
          exact fr
theorem m_X3_isLike : ∀ (h0 : zH) (x1 : Int32) (x2 : Int32) (x3 : Int32) {q : Int32 × zH}, f_X3_isLike x1 x2 x3 h0 = some q → ∀ c, c ∉ md_X3_isLike → q.2 c = h0 c := by
  intro h x1 x2 x3 q hf
  unfold f_X3_isLike at hf
  have fr : ∀ c, c ∉ md_X3_isLike → h c = h c := fun _ _ => rfl
  rcases zif_c hf with ⟨hc, hf⟩ | ⟨hc, hf⟩
  · skip
    exact fun c hc9 => (m_X3_isLike_40  _ hf c hc9).trans (fr c hc9)
  · skip
    obtain ⟨hi, hf⟩ := zck_some hf
    obtain ⟨hi, hf⟩ := zck_some hf
    rcases zif_n hf with ⟨hc, hf⟩ | ⟨hc, hf⟩
    · skip
      exact fun c hc9 => (m_X3_isLike_40  _ hf c hc9).trans (fr c hc9)
    · skip
      obtain ⟨hi, hf⟩ := zck_some hf
      obtain ⟨hi, hf⟩ := zck_some hf
      rcases zif_c hf with ⟨hc, hf⟩ | ⟨hc, hf⟩
      · skip
        exact fun c hc9 => (m_X3_isLike_45  zN _ _ _ _ hf c hc9).trans (fr c hc9)
      · skip
        exact fun c hc9 => (m_X3_isLike_40  _ hf c hc9).trans (fr c hc9)
end
section
abbrev md_X11_like : List Nat := []
theorem sm_X11_like_X3_has : ∀ c ∈ md_X3_has, c ∈ md_X11_like := by decide
theorem sm_X11_like_X11_isBelow : ∀ c ∈ md_X11_isBelow, c ∈ md_X11_like := by decide
theorem sm_X11_like_X3_isLike : ∀ c ∈ md_X3_isLike, c ∈ md_X11_like := by decide
variable {q : Int32 × zH}
theorem m_X11_like_23   : ∀ (h0 : zH), f_X11_like_23  h0 = some q → ∀ c, c ∉ md_X11_like → q.2 c = h0 c := by
  intro h hf
  unfold f_X11_like_23 at hf
  have fr : ∀ c, c ∉ md_X11_like → h c = h c := fun _ _ => rfl
  cases hf
  exact fr
theorem m_X11_like_69 {k30 : Int32 → Int32 → Int32 → Int32 → zH → zR} (hk30 : ∀ (h0 : zH) (x1 : Int32) (x2 : Int32) (x3 : Int32) (x4 : Int32), k30 x1 x2 x3 x4 h0 = some q → ∀ c, c ∉ md_X11_like → q.2 c = h0 c) : ∀ (h0 : zH) (x1 : Int32) (x2 : Int32) (x3 : Int32) (x4 : Int32), f_X11_like_69 k30 x1 x2 x3 x4 h0 = some q → ∀ c, c ∉ md_X11_like → q.2 c = h0 c := by
  intro h x1 x2 x3 x4 hf
  unfold f_X11_like_69 at hf
  have fr : ∀ c, c ∉ md_X11_like → h c = h c := fun _ _ => rfl
  obtain ⟨y7, ey7, hf⟩ := zlt_some hf
  exact fun c hc9 => (hk30 _ _ _ _ _ hf c hc9).trans (fr c hc9)
theorem m_X11_like_30   : ∀ n, ∀ (h0 : zH) (x1 : Int32) (x2 : Int32) (x3 : Int32) (x4 : Int32), f_X11_like_30  n x1 x2 x3 x4 h0 = some q → ∀ c, c ∉ md_X11_like → q.2 c = h0 c := by
  intro n
  induction n with
  | zero => intro h x1 x2 x3 x4 hf; cases hf
  | succ n ih =>
    intro h x1 x2 x3 x4 hf
    rw [f_X11_like_30] at hf
    have fr : ∀ c, c ∉ md_X11_like → h c = h c := fun _ _ => rfl
    rcases zif_c hf with ⟨hc, hf⟩ | ⟨hc, hf⟩
    · skip
      cases hf
      exact fr
    · skip
      obtain ⟨r5, h6, er5, hf⟩ := zbd_some hf
      have fr : ∀ c, c ∉ md_X11_like → h6 c = h c := fun c hc9 => (m_X3_isLike _ _ _ _ er5 c (fun z => hc9 (sm_X11_like_X3_isLike c z))).trans (fr c hc9)
      rcases zif_c hf with ⟨hc, hf⟩ | ⟨hc, hf⟩
      · skip
        exact fun c hc9 => (m_X11_like_69 ih _ _ _ _ _ hf c hc9).trans (fr c hc9)
      · skip
        obtain ⟨y8, ey8, hf⟩ := zlt_some hf
        exact fun c hc9 => (m_X11_like_69 ih _ _ _ _ _ hf c hc9).trans (fr c hc9)
theorem m_X11_like : ∀ (h0 : zH) (x1 : Int32) (x2 : Int32) {q : Int32 × zH}, f_X11_like x1 x2 h0 = some q → ∀ c, c ∉ md_X11_like → q.2 c = h0 c := by
  intro h x1 x2 q hf
  unfold f_X11_like at hf
  have fr : ∀ c, c ∉ md_X11_like → h c = h c := fun _ _ => rfl
  obtain ⟨r1, h2, er1, hf⟩ := zbd_some hf
  have fr : ∀ c, c ∉ md_X11_like → h2 c = h c := fun c hc9 => (m_X3_has _ _ er1 c (fun z => hc9 (sm_X11_like_X3_has c z))).trans (fr c hc9)
  rcases zif_c hf with ⟨hc, hf⟩ | ⟨hc, hf⟩
  · skip
    exact fun c hc9 => (m_X11_like_23  _ hf c hc9).trans (fr c hc9)
  · skip
    obtain ⟨r3, h4, er3, hf⟩ := zbd_some hf
    have fr : ∀ c, c ∉ md_X11_like → h4 c = h c := fun c hc9 => (m_X11_isBelow _ _ _ er3 c (fun z => hc9 (sm_X11_like_X11_isBelow c z))).trans (fr c hc9)
    rcases zif_n hf with ⟨hc, hf⟩ | ⟨hc, hf⟩
    · skip
      exact fun c hc9 => (m_X11_like_30  zN _ _ _ _ _ hf c hc9).trans (fr c hc9)
    · skip
      exact fun c hc9 => (m_X11_like_23  _ hf c hc9).trans (fr c hc9)
end
section
abbrev md_X6_goBack_r1 : List Nat := [1, 11, 12, 13, 14, 22]
variable {q : Int32 × zH}
theorem m_X6_goBack_r1_26   : ∀ n, ∀ (h0 : zH) (x3 : Int32), f_X6_goBack_r1_26  n x3 h0 = some q → ∀ c, c ∉ md_X6_goBack_r1 → q.2 c = h0 c := by
  intro n
  induction n with
  | zero => intro h x3 hf; cases hf
  | succ n ih =>
    intro h x3 hf
    rw [f_X6_goBack_r1_26] at hf
    have fr : ∀ c, c ∉ md_X6_goBack_r1 → h c = h c := fun _ _ => rfl
    rcases zif_c hf with ⟨hc, hf⟩ | ⟨hc, hf⟩
    · skip
      obtain ⟨hi, hf⟩ := zcc_some hf
      obtain ⟨h2, eh2, hf⟩ := zst_some hf
      have fr : ∀ c, c ∉ md_X6_goBack_r1 → h2 c = h c := fun c hc9 => (congrFun eh2 c).trans ((zcp_ne c (fun z => hc9 (by rw [z]; decide))).trans (fr c hc9))
      obtain ⟨hi, hf⟩ := zck_some hf
      obtain ⟨h3, eh3, hf⟩ := zst_some hf
      have fr : ∀ c, c ∉ md_X6_goBack_r1 → h3 c = h c := fun c hc9 => (congrFun eh3 c).trans ((zup_ne c (fun z => hc9 (by rw [z]; decide))).trans (fr c hc9))
      obtain ⟨h4, eh4, hf⟩ := zst_some hf
      have fr : ∀ c, c ∉ md_X6_goBack_r1 → h4 c = h c := fun c hc9 => (congrFun eh4 c).trans ((zup_ne c (fun z => hc9 (by rw [z]; decide))).trans (fr c hc9))
      obtain ⟨hi, hf⟩ := zck_some hf
      obtain ⟨h5, eh5, hf⟩ := zst_some hf
      have fr : ∀ c, c ∉ md_X6_goBack_r1 → h5 c = h c := fun c hc9 => (congrFun eh5 c).trans ((zup_ne c (fun z => hc9 (by rw [z]; decide))).trans (fr c hc9))
      obtain ⟨h6, eh6, hf⟩ := zst_some hf
      have fr : ∀ c, c ∉ md_X6_goBack_r1 → h6 c = h c := fun c hc9 => (congrFun eh6 c).trans ((zup_ne c (fun z => hc9 (by rw [z]; decide))).trans (fr c hc9))
      obtain ⟨h7, eh7, hf⟩ := zst_some hf
      have fr : ∀ c, c ∉ md_X6_goBack_r1 → h7 c = h c := fun c hc9 => (congrFun eh7 c).trans ((zup_ne c (fun z => hc9 (by rw [z]; decide))).trans (fr c hc9))
      cases hf
      exact fr
    · skip
      obtain ⟨hi, hf⟩ := zck_some hf
      obtain ⟨y8, ey8, hf⟩ := zlt_some hf
      obtain ⟨hi, hf⟩ := zck_some hf
      obtain ⟨hi, hf⟩ := zck_some hf
      obtain ⟨h9, eh9, hf⟩ := zst_some hf
      have fr : ∀ c, c ∉ md_X6_goBack_r1 → h9 c = h c := fun c hc9 => (congrFun eh9 c).trans ((zup_ne c (fun z => hc9 (by rw [z]; decide))).trans (fr c hc9))
      obtain ⟨hi, hf⟩ := zck_some hf
      obtain ⟨hi, hf⟩ := zck_some hf
      obtain ⟨h10, eh10, hf⟩ := zst_some hf
      have fr : ∀ c, c ∉ md_X6_goBack_r1 → h10 c = h c := fun c hc9 => (congrFun eh10 c).trans ((zup_ne c (fun z => hc9 (by rw [z]; decide))).trans (fr c hc9))
      obtain ⟨y11, ey11, hf⟩ := zlt_some hf
      exact fun c hc9 => (ih _ _ hf c hc9).trans (fr c hc9)
theorem m_X6_goBack_r1 : ∀ (h0 : zH) {q : Int32 × zH}, f_X6_goBack_r1 h0 = some q → ∀ c, c ∉ md_X6_goBack_r1 → q.2 c = h0 c := by
  intro h q hf
  unfold f_X6_goBack_r1 at hf
  have fr : ∀ c, c ∉ md_X6_goBack_r1 → h c = h c := fun _ _ => rfl
  rcases zif_n hf with ⟨hc, hf⟩ | ⟨hc, hf⟩
  · skip
    obtain ⟨hi, hf⟩ := zck_some hf
    obtain ⟨y1, ey1, hf⟩ := zlt_some hf
    exact fun c hc9 => (m_X6_goBack_r1_26  zN _ _ hf c hc9).trans (fr c hc9)
  · skip
    cases hf
    exact fr
end
section
abbrev md_X11_undo : List Nat := [1, 11, 12, 13, 14, 22]
theorem sm_X11_undo_X6_goBack_r1 : ∀ c ∈ md_X6_goBack_r1, c ∈ md_X11_undo := by decide
variable {q : Int32 × zH}
theorem m_X11_undo : ∀ (h0 : zH) {q : Int32 × zH}, f_X11_undo h0 = some q → ∀ c, c ∉ md_X11_undo → q.2 c = h0 c := by
  intro h q hf
  unfold f_X11_undo at hf
  have fr : ∀ c, c ∉ md_X11_undo → h c = h c := fun _ _ => rfl
  obtain ⟨r1, h2, er1, hf⟩ := zbd_some hf
  have fr : ∀ c, c ∉ md_X11_undo → h2 c = h c := fun c hc9 => (m_X6_goBack_r1 _ er1 c (fun z => hc9 (sm_X11_undo_X6_goBack_r1 c z))).trans (fr c hc9)
  obtain ⟨hb, hf⟩ := zbo_some hf
  cases hf
  exact fr
end
section
abbrev md_X11_lookInRows : List Nat := []
variable {q : Int32 × zH}
theorem m_X11_lookInRows_66   : ∀ (h0 : zH), f_X11_lookInRows_66  h0 = some q → ∀ c, c ∉ md_X11_lookInRows → q.2 c = h0 c := by
  intro h hf
  unfold f_X11_lookInRows_66 at hf
  have fr : ∀ c, c ∉ md_X11_lookInRows → h c = h c := fun _ _ => rfl
  cases hf
  exact fr
theorem m_X11_lookInRows_39   : ∀ (h0 : zH) (x1 : Int32), f_X11_lookInRows_39  x1 h0 = some q → ∀ c, c ∉ md_X11_lookInRows → q.2 c = h0 c := by
  intro h x1 hf
  unfold f_X11_lookInRows_39 at hf
  have fr : ∀ c, c ∉ md_X11_lookInRows → h c = h c := fun _ _ => rfl
  rcases zif_c hf with ⟨hc, hf⟩ | ⟨hc, hf⟩
  · skip
    exact fun c hc9 => (m_X11_lookInRows_66  _ hf c hc9).trans (fr c hc9)
  · skip
    rcases zif_c hf with ⟨hc, hf⟩ | ⟨hc, hf⟩
    · skip
      exact fun c hc9 => (m_X11_lookInRows_66  _ hf c hc9).trans (fr c hc9)
    · skip
      obtain ⟨hi, hf⟩ := zck_some hf
      cases hf
      exact fr
theorem m_X11_lookInRows : ∀ (h0 : zH) (x1 : Int32) {q : Int32 × zH}, f_X11_lookInRows x1 h0 = some q → ∀ c, c ∉ md_X11_lookInRows → q.2 c = h0 c := by
  intro h x1 q hf
  unfold f_X11_lookInRows at hf
  have fr : ∀ c, c ∉ md_X11_lookInRows → h c = h c := fun _ _ => rfl
  rcases zif_c hf with ⟨hc, hf⟩ | ⟨hc, hf⟩
  · skip
    exact fun c hc9 => (m_X11_lookInRows_39  _ _ hf c hc9).trans (fr c hc9)
  · skip
    rcases zif_c hf with ⟨hc, hf⟩ | ⟨hc, hf⟩
    · skip
      exact fun c hc9 => (m_X11_lookInRows_39  _ _ hf c hc9).trans (fr c hc9)
    · skip
      obtain ⟨hi, hf⟩ := zck_some hf
      cases hf
      exact fr
end
section
abbrev md_X11_look : List Nat := []
theorem sm_X11_look_X11_lookInRows : ∀ c ∈ md_X11_lookInRows, c ∈ md_X11_look := by decide
variable {q : Int32 × zH}
theorem m_X11_look : ∀ (h0 : zH) (x1 : Int32) {q : Int32 × zH}, f_X11_look x1 h0 = some q → ∀ c, c ∉ md_X11_look → q.2 c = h0 c := by
  intro h x1 q hf
  unfold f_X11_look at hf
  have fr : ∀ c, c ∉ md_X11_look → h c = h c := fun _ _ => rfl
  by_cases hc0 : x1 = (0 : Int32)
  · have hf := zif_t hc0 hf
    cases hf
    exact fr
  have hf := zif_f hc0 hf
  by_cases hc1 : x1 = (1 : Int32)
  · have hf := zif_t hc1 hf
    cases hf
    exact fr
  have hf := zif_f hc1 hf
  by_cases hc2 : x1 = (2 : Int32)
  · have hf := zif_t hc2 hf
    cases hf
    exact fr
  have hf := zif_f hc2 hf
  by_cases hc3 : x1 = (3 : Int32)
  · have hf := zif_t hc3 hf
    cases hf
    exact fr
  have hf := zif_f hc3 hf
  by_cases hc4 : x1 = (4 : Int32)
  · have hf := zif_t hc4 hf
    cases hf
    exact fr
  have hf := zif_f hc4 hf
  by_cases hc5 : x1 = (5 : Int32)
  · have hf := zif_t hc5 hf
    cases hf
    exact fr
  have hf := zif_f hc5 hf
  by_cases hc6 : x1 = (6 : Int32)
  · have hf := zif_t hc6 hf
    cases hf
    exact fr
  have hf := zif_f hc6 hf
  by_cases hc7 : x1 = (7 : Int32)
  · have hf := zif_t hc7 hf
    cases hf
    exact fr
  have hf := zif_f hc7 hf
  by_cases hc8 : x1 = (8 : Int32)
  · have hf := zif_t hc8 hf
    cases hf
    exact fr
  have hf := zif_f hc8 hf
  by_cases hc9 : x1 = (9 : Int32)
  · have hf := zif_t hc9 hf
    cases hf
    exact fr
  have hf := zif_f hc9 hf
  obtain ⟨r1, h2, er1, hf⟩ := zbd_some hf
  have fr : ∀ c, c ∉ md_X11_look → h2 c = h c := fun c hc9 => (m_X11_lookInRows _ _ er1 c (fun z => hc9 (sm_X11_look_X11_lookInRows c z))).trans (fr c hc9)
  cases hf
  exact fr
end
section
abbrev md_X5_joined : List Nat := []
variable {q : Int32 × zH}
theorem m_X5_joined_149   : ∀ (h0 : zH), f_X5_joined_149  h0 = some q → ∀ c, c ∉ md_X5_joined → q.2 c = h0 c := by
  intro h hf
  unfold f_X5_joined_149 at hf
  have fr : ∀ c, c ∉ md_X5_joined → h c = h c := fun _ _ => rfl
  cases hf
  exact fr
theorem m_X5_joined : ∀ (h0 : zH) (x0 : Int32) (x1 : Int32) (x2 : Int32) {q : Int32 × zH}, f_X5_joined x0 x1 x2 h0 = some q → ∀ c, c ∉ md_X5_joined → q.2 c = h0 c := by
  intro h x0 x1 x2 q hf
  unfold f_X5_joined at hf
  have fr : ∀ c, c ∉ md_X5_joined → h c = h c := fun _ _ => rfl
  by_cases hc5 : x0 = (5 : Int32)
  · have hf := zif_t hc5 hf
    cases hf
    exact fr
  have hf := zif_f hc5 hf
  by_cases hc6 : x0 = (6 : Int32)
  · have hf := zif_t hc6 hf
    cases hf
    exact fr
  have hf := zif_f hc6 hf
  by_cases hc7 : x0 = (7 : Int32)
  · have hf := zif_t hc7 hf
    exact fun c hc9 => (m_X5_joined_149  _ hf c hc9).trans (fr c hc9)
  have hf := zif_f hc7 hf
  by_cases hc8 : x0 = (8 : Int32)
  · have hf := zif_t hc8 hf
    exact fun c hc9 => (m_X5_joined_149  _ hf c hc9).trans (fr c hc9)
  have hf := zif_f hc8 hf
  by_cases hc9 : x0 = (9 : Int32)
  · have hf := zif_t hc9 hf
    exact fun c hc9 => (m_X5_joined_149  _ hf c hc9).trans (fr c hc9)
  have hf := zif_f hc9 hf
  by_cases hc10 : x0 = (10 : Int32)
  · have hf := zif_t hc10 hf
    exact fun c hc9 => (m_X5_joined_149  _ hf c hc9).trans (fr c hc9)
  have hf := zif_f hc10 hf
  by_cases hc11 : x0 = (11 : Int32)
  · have hf := zif_t hc11 hf
    exact fun c hc9 => (m_X5_joined_149  _ hf c hc9).trans (fr c hc9)
  have hf := zif_f hc11 hf
  by_cases hc12 : x0 = (12 : Int32)
  · have hf := zif_t hc12 hf
    exact fun c hc9 => (m_X5_joined_149  _ hf c hc9).trans (fr c hc9)
  have hf := zif_f hc12 hf
  by_cases hc13 : x0 = (13 : Int32)
  · have hf := zif_t hc13 hf
    exact fun c hc9 => (m_X5_joined_149  _ hf c hc9).trans (fr c hc9)
  have hf := zif_f hc13 hf
  by_cases hc14 : x0 = (14 : Int32)
  · have hf := zif_t hc14 hf
    exact fun c hc9 => (m_X5_joined_149  _ hf c hc9).trans (fr c hc9)
  have hf := zif_f hc14 hf
  by_cases hc15 : x0 = (15 : Int32)
  · have hf := zif_t hc15 hf
    exact fun c hc9 => (m_X5_joined_149  _ hf c hc9).trans (fr c hc9)
  have hf := zif_f hc15 hf
  by_cases hc16 : x0 = (16 : Int32)
  · have hf := zif_t hc16 hf
    cases hf
    exact fr
  have hf := zif_f hc16 hf
  by_cases hc17 : x0 = (17 : Int32)
  · have hf := zif_t hc17 hf
    cases hf
    exact fr
  have hf := zif_f hc17 hf
  by_cases hc18 : x0 = (18 : Int32)
  · have hf := zif_t hc18 hf
    cases hf
    exact fr
  have hf := zif_f hc18 hf
  by_cases hc19 : x0 = (19 : Int32)
  · have hf := zif_t hc19 hf
    exact fun c hc9 => (m_X5_joined_149  _ hf c hc9).trans (fr c hc9)
  have hf := zif_f hc19 hf
  by_cases hc20 : x0 = (20 : Int32)
  · have hf := zif_t hc20 hf
    exact fun c hc9 => (m_X5_joined_149  _ hf c hc9).trans (fr c hc9)
  have hf := zif_f hc20 hf
  by_cases hc21 : x0 = (21 : Int32)
  · have hf := zif_t hc21 hf
    exact fun c hc9 => (m_X5_joined_149  _ hf c hc9).trans (fr c hc9)
  have hf := zif_f hc21 hf
  by_cases hc22 : x0 = (22 : Int32)
  · have hf := zif_t hc22 hf
    rcases zif_c hf with ⟨hc, hf⟩ | ⟨hc, hf⟩
    · skip
      cases hf
      exact fr
    · skip
      cases hf
      exact fr
  have hf := zif_f hc22 hf
  by_cases hc23 : x0 = (23 : Int32)
  · have hf := zif_t hc23 hf
    rcases zif_n hf with ⟨hc, hf⟩ | ⟨hc, hf⟩
    · skip
      cases hf
      exact fr
    · skip
      cases hf
      exact fr
  have hf := zif_f hc23 hf
  by_cases hc24 : x0 = (24 : Int32)
  · have hf := zif_t hc24 hf
    rcases zif_c hf with ⟨hc, hf⟩ | ⟨hc, hf⟩
    · skip
      cases hf
      exact fr
    · skip
      cases hf
      exact fr
  have hf := zif_f hc24 hf
  exact fun c hc9 => (m_X5_joined_149  _ hf c hc9).trans (fr c hc9)
end
section
abbrev md_X5_valueOf_r21 : List Nat := [19]
theorem sm_X5_valueOf_r21_X5_joined : ∀ c ∈ md_X5_joined, c ∈ md_X5_valueOf_r21 := by decide
variable {q : Int32 × zH}
theorem m_X5_valueOf_r21_23   : ∀ (h0 : zH), f_X5_valueOf_r21_23  h0 = some q → ∀ c, c ∉ md_X5_valueOf_r21 → q.2 c = h0 c := by
  intro h hf
  unfold f_X5_valueOf_r21_23 at hf
  have fr : ∀ c, c ∉ md_X5_valueOf_r21 → h c = h c := fun _ _ => rfl
  cases hf
  exact fr
theorem m_X5_valueOf_r21_261 {k4 : Int32 → Int32 → zH → zR} (hk4 : ∀ (h0 : zH) (x2 : Int32) (x3 : Int32), k4 x2 x3 h0 = some q → ∀ c, c ∉ md_X5_valueOf_r21 → q.2 c = h0 c) : ∀ (h0 : zH) (x2 : Int32) (x3 : Int32), f_X5_valueOf_r21_261 k4 x2 x3 h0 = some q → ∀ c, c ∉ md_X5_valueOf_r21 → q.2 c = h0 c := by
  intro h x2 x3 hf
  unfold f_X5_valueOf_r21_261 at hf
  have fr : ∀ c, c ∉ md_X5_valueOf_r21 → h c = h c := fun _ _ => rfl
  obtain ⟨y6, ey6, hf⟩ := zlt_some hf
  exact fun c hc9 => (hk4 _ _ _ hf c hc9).trans (fr c hc9)
theorem m_X5_valueOf_r21_160 {k4 : Int32 → Int32 → zH → zR} (hk4 : ∀ (h0 : zH) (x2 : Int32) (x3 : Int32), k4 x2 x3 h0 = some q → ∀ c, c ∉ md_X5_valueOf_r21 → q.2 c = h0 c) : ∀ (h0 : zH) (x2 : Int32) (x3 : Int32) (s0 : Int32) (s1 : Int32), f_X5_valueOf_r21_160 k4 x2 x3 s0 s1 h0 = some q → ∀ c, c ∉ md_X5_valueOf_r21 → q.2 c = h0 c := by
  intro h x2 x3 s0 s1 hf
  unfold f_X5_valueOf_r21_160 at hf
  have fr : ∀ c, c ∉ md_X5_valueOf_r21 → h c = h c := fun _ _ => rfl
  obtain ⟨hi, hf⟩ := zck_some hf
  obtain ⟨h7, eh7, hf⟩ := zst_some hf
  have fr : ∀ c, c ∉ md_X5_valueOf_r21 → h7 c = h c := fun c hc9 => (congrFun eh7 c).trans ((zup_ne c (fun z => hc9 (by rw [z]; decide))).trans (fr c hc9))
  exact fun c hc9 => (m_X5_valueOf_r21_261 hk4 _ _ _ hf c hc9).trans (fr c hc9)
theorem m_X5_valueOf_r21_90 {k4 : Int32 → Int32 → zH → zR} (hk4 : ∀ (h0 : zH) (x2 : Int32) (x3 : Int32), k4 x2 x3 h0 = some q → ∀ c, c ∉ md_X5_valueOf_r21 → q.2 c = h0 c) : ∀ (h0 : zH) (x2 : Int32) (x3 : Int32) (x4 : Int32), f_X5_valueOf_r21_90 k4 x2 x3 x4 h0 = some q → ∀ c, c ∉ md_X5_valueOf_r21 → q.2 c = h0 c := by
  intro h x2 x3 x4 hf
  unfold f_X5_valueOf_r21_90 at hf
  have fr : ∀ c, c ∉ md_X5_valueOf_r21 → h c = h c := fun _ _ => rfl
  rcases zif_n hf with ⟨hc, hf⟩ | ⟨hc, hf⟩
  · skip
    rcases zif_n hf with ⟨hc, hf⟩ | ⟨hc, hf⟩
    · skip
      rcases zif_n hf with ⟨hc, hf⟩ | ⟨hc, hf⟩
      · skip
        rcases zif_n hf with ⟨hc, hf⟩ | ⟨hc, hf⟩
        · skip
          obtain ⟨y2, ey2, hf⟩ := zlt_some hf
          obtain ⟨hi, hf⟩ := zck_some hf
          obtain ⟨hi, hf⟩ := zck_some hf
          obtain ⟨r3, h4, er3, hf⟩ := zbd_some hf
          have fr : ∀ c, c ∉ md_X5_valueOf_r21 → h4 c = h c := fun c hc9 => (m_X5_joined _ _ _ _ er3 c (fun z => hc9 (sm_X5_valueOf_r21_X5_joined c z))).trans (fr c hc9)
          obtain ⟨hi, hf⟩ := zck_some hf
          obtain ⟨h5, eh5, hf⟩ := zst_some hf
          have fr : ∀ c, c ∉ md_X5_valueOf_r21 → h5 c = h c := fun c hc9 => (congrFun eh5 c).trans ((zup_ne c (fun z => hc9 (by rw [z]; decide))).trans (fr c hc9))
          exact fun c hc9 => (m_X5_valueOf_r21_261 hk4 _ _ _ hf c hc9).trans (fr c hc9)
        · skip
          obtain ⟨hi, hf⟩ := zck_some hf
          rcases zif_c hf with ⟨hc, hf⟩ | ⟨hc, hf⟩
          · skip
            exact fun c hc9 => (m_X5_valueOf_r21_261 hk4 _ _ _ hf c hc9).trans (fr c hc9)
          · skip
            obtain ⟨hi, hf⟩ := zck_some hf
            cases hf
            exact fr
      · skip
        obtain ⟨hi, hf⟩ := zck_some hf
        cases hf
        exact fr
    · skip
      obtain ⟨hi, hf⟩ := zck_some hf
      rcases zif_c hf with ⟨hc, hf⟩ | ⟨hc, hf⟩
      · skip
        exact fun c hc9 => (m_X5_valueOf_r21_160 hk4 _ _ _ _ _ hf c hc9).trans (fr c hc9)
      · skip
        obtain ⟨hi, hf⟩ := zck_some hf
        obtain ⟨hi, hf⟩ := zck_some hf
        obtain ⟨hz, hf⟩ := znz_some hf
        exact fun c hc9 => (m_X5_valueOf_r21_160 hk4 _ _ _ _ _ hf c hc9).trans (fr c hc9)
  · skip
    obtain ⟨hi, hf⟩ := zck_some hf
    obtain ⟨hi, hf⟩ := zck_some hf
    obtain ⟨h8, eh8, hf⟩ := zst_some hf
    have fr : ∀ c, c ∉ md_X5_valueOf_r21 → h8 c = h c := fun c hc9 => (congrFun eh8 c).trans ((zup_ne c (fun z => hc9 (by rw [z]; decide))).trans (fr c hc9))
    exact fun c hc9 => (m_X5_valueOf_r21_261 hk4 _ _ _ hf c hc9).trans (fr c hc9)
theorem m_X5_valueOf_r21_4   : ∀ n, ∀ (h0 : zH) (x2 : Int32) (x3 : Int32), f_X5_valueOf_r21_4  n x2 x3 h0 = some q → ∀ c, c ∉ md_X5_valueOf_r21 → q.2 c = h0 c := by
  intro n
  induction n with
  | zero => intro h x2 x3 hf; cases hf
  | succ n ih =>
    intro h x2 x3 hf
    rw [f_X5_valueOf_r21_4] at hf
    have fr : ∀ c, c ∉ md_X5_valueOf_r21 → h c = h c := fun _ _ => rfl
    rcases zif_c hf with ⟨hc, hf⟩ | ⟨hc, hf⟩
    · skip
      cases hf
      exact fr
    · skip
      rcases zif_c hf with ⟨hc, hf⟩ | ⟨hc, hf⟩
      · skip
        exact fun c hc9 => (m_X5_valueOf_r21_23  _ hf c hc9).trans (fr c hc9)
      · skip
        rcases zif_c hf with ⟨hc, hf⟩ | ⟨hc, hf⟩
        · skip
          obtain ⟨hi, hf⟩ := zck_some hf
          obtain ⟨y1, ey1, hf⟩ := zlt_some hf
          rcases zif_n hf with ⟨hc, hf⟩ | ⟨hc, hf⟩
          · skip
            rcases zif_c hf with ⟨hc, hf⟩ | ⟨hc, hf⟩
            · skip
              exact fun c hc9 => (m_X5_valueOf_r21_90 ih _ _ _ _ hf c hc9).trans (fr c hc9)
            · skip
              rcases zif_c hf with ⟨hc, hf⟩ | ⟨hc, hf⟩
              · skip
                exact fun c hc9 => (m_X5_valueOf_r21_90 ih _ _ _ _ hf c hc9).trans (fr c hc9)
              · skip
                obtain ⟨hi, hf⟩ := zck_some hf
                obtain ⟨hi, hf⟩ := zck_some hf
                obtain ⟨h9, eh9, hf⟩ := zst_some hf
                have fr : ∀ c, c ∉ md_X5_valueOf_r21 → h9 c = h c := fun c hc9 => (congrFun eh9 c).trans ((zup_ne c (fun z => hc9 (by rw [z]; decide))).trans (fr c hc9))
                obtain ⟨y10, ey10, hf⟩ := zlt_some hf
                exact fun c hc9 => (m_X5_valueOf_r21_261 ih _ _ _ hf c hc9).trans (fr c hc9)
          · skip
            obtain ⟨hi, hf⟩ := zck_some hf
            obtain ⟨hi, hf⟩ := zck_some hf
            obtain ⟨h11, eh11, hf⟩ := zst_some hf
            have fr : ∀ c, c ∉ md_X5_valueOf_r21 → h11 c = h c := fun c hc9 => (congrFun eh11 c).trans ((zup_ne c (fun z => hc9 (by rw [z]; decide))).trans (fr c hc9))
            obtain ⟨y12, ey12, hf⟩ := zlt_some hf
            exact fun c hc9 => (m_X5_valueOf_r21_261 ih _ _ _ hf c hc9).trans (fr c hc9)
        · skip
          exact fun c hc9 => (m_X5_valueOf_r21_23  _ hf c hc9).trans (fr c hc9)
theorem m_X5_valueOf_r21 : ∀ (h0 : zH) {q : Int32 × zH}, f_X5_valueOf_r21 h0 = some q → ∀ c, c ∉ md_X5_valueOf_r21 → q.2 c = h0 c := by
  intro h q hf
  unfold f_X5_valueOf_r21 at hf
  have fr : ∀ c, c ∉ md_X5_valueOf_r21 → h c = h c := fun _ _ => rfl
  exact fun c hc9 => (m_X5_valueOf_r21_4  zN _ _ _ hf c hc9).trans (fr c hc9)
end
section
abbrev md_X4_laughOf : List Nat := [19, 21]
theorem sm_X4_laughOf_X11_pairOf : ∀ c ∈ md_X11_pairOf, c ∈ md_X4_laughOf := by decide
theorem sm_X4_laughOf_X5_valueOf_r21 : ∀ c ∈ md_X5_valueOf_r21, c ∈ md_X4_laughOf := by decide
variable {q : Int32 × zH}
theorem m_X4_laughOf_137   : ∀ (h0 : zH) (x1 : Int32) (s0 : Int32) (s1 : Int32), f_X4_laughOf_137  x1 s0 s1 h0 = some q → ∀ c, c ∉ md_X4_laughOf → q.2 c = h0 c := by
  intro h x1 s0 s1 hf
  unfold f_X4_laughOf_137 at hf
  have fr : ∀ c, c ∉ md_X4_laughOf → h c = h c := fun _ _ => rfl
  obtain ⟨hi, hf⟩ := zck_some hf
  obtain ⟨h8, eh8, hf⟩ := zst_some hf
  have fr : ∀ c, c ∉ md_X4_laughOf → h8 c = h c := fun c hc9 => (congrFun eh8 c).trans ((zup_ne c (fun z => hc9 (by rw [z]; decide))).trans (fr c hc9))
  obtain ⟨h9, eh9, hf⟩ := zst_some hf
  have fr : ∀ c, c ∉ md_X4_laughOf → h9 c = h c := fun c hc9 => (congrFun eh9 c).trans ((zup_ne c (fun z => hc9 (by rw [z]; decide))).trans (fr c hc9))
  obtain ⟨hi, hf⟩ := zck_some hf
  obtain ⟨h10, eh10, hf⟩ := zst_some hf
  have fr : ∀ c, c ∉ md_X4_laughOf → h10 c = h c := fun c hc9 => (congrFun eh10 c).trans ((zup_ne c (fun z => hc9 (by rw [z]; decide))).trans (fr c hc9))
  obtain ⟨r11, h12, er11, hf⟩ := zbd_some hf
  have fr : ∀ c, c ∉ md_X4_laughOf → h12 c = h c := fun c hc9 => (m_X5_valueOf_r21 _ er11 c (fun z => hc9 (sm_X4_laughOf_X5_valueOf_r21 c z))).trans (fr c hc9)
  cases hf
  exact fr
theorem m_X4_laughOf_110   : ∀ (h0 : zH) (x1 : Int32) (x5 : Int32) (x6 : Int32) (s0 : Int32) (s1 : Int32), f_X4_laughOf_110  x1 x5 x6 s0 s1 h0 = some q → ∀ c, c ∉ md_X4_laughOf → q.2 c = h0 c := by
  intro h x1 x5 x6 s0 s1 hf
  unfold f_X4_laughOf_110 at hf
  have fr : ∀ c, c ∉ md_X4_laughOf → h c = h c := fun _ _ => rfl
  obtain ⟨hi, hf⟩ := zck_some hf
  obtain ⟨h6, eh6, hf⟩ := zst_some hf
  have fr : ∀ c, c ∉ md_X4_laughOf → h6 c = h c := fun c hc9 => (congrFun eh6 c).trans ((zup_ne c (fun z => hc9 (by rw [z]; decide))).trans (fr c hc9))
  obtain ⟨h7, eh7, hf⟩ := zst_some hf
  have fr : ∀ c, c ∉ md_X4_laughOf → h7 c = h c := fun c hc9 => (congrFun eh7 c).trans ((zup_ne c (fun z => hc9 (by rw [z]; decide))).trans (fr c hc9))
  rcases zif_n hf with ⟨hc, hf⟩ | ⟨hc, hf⟩
  · skip
    exact fun c hc9 => (m_X4_laughOf_137  _ _ _ _ hf c hc9).trans (fr c hc9)
  · skip
    exact fun c hc9 => (m_X4_laughOf_137  _ _ _ _ hf c hc9).trans (fr c hc9)
theorem m_X4_laughOf_47   : ∀ (h0 : zH) (x1 : Int32) (x2 : Int32) (x5 : Int32) (s0 : Int32), f_X4_laughOf_47  x1 x2 x5 s0 h0 = some q → ∀ c, c ∉ md_X4_laughOf → q.2 c = h0 c := by
  intro h x1 x2 x5 s0 hf
  unfold f_X4_laughOf_47 at hf
  have fr : ∀ c, c ∉ md_X4_laughOf → h c = h c := fun _ _ => rfl
  obtain ⟨hi, hf⟩ := zck_some hf
  obtain ⟨h4, eh4, hf⟩ := zst_some hf
  have fr : ∀ c, c ∉ md_X4_laughOf → h4 c = h c := fun c hc9 => (congrFun eh4 c).trans ((zup_ne c (fun z => hc9 (by rw [z]; decide))).trans (fr c hc9))
  obtain ⟨hi, hf⟩ := zck_some hf
  obtain ⟨h5, eh5, hf⟩ := zst_some hf
  have fr : ∀ c, c ∉ md_X4_laughOf → h5 c = h c := fun c hc9 => (congrFun eh5 c).trans ((zup_ne c (fun z => hc9 (by rw [z]; decide))).trans (fr c hc9))
  obtain ⟨hi, hf⟩ := zck_some hf
  obtain ⟨hi, hf⟩ := zck_some hf
  rcases zif_n hf with ⟨hc, hf⟩ | ⟨hc, hf⟩
  · skip
    exact fun c hc9 => (m_X4_laughOf_110  _ _ _ _ _ _ hf c hc9).trans (fr c hc9)
  · skip
    exact fun c hc9 => (m_X4_laughOf_110  _ _ _ _ _ _ hf c hc9).trans (fr c hc9)
theorem m_X4_laughOf : ∀ (h0 : zH) (x1 : Int32) (x2 : Int32) (x3 : Int32) {q : Int32 × zH}, f_X4_laughOf x1 x2 x3 h0 = some q → ∀ c, c ∉ md_X4_laughOf → q.2 c = h0 c := by
  intro h x1 x2 x3 q hf
  unfold f_X4_laughOf at hf
  have fr : ∀ c, c ∉ md_X4_laughOf → h c = h c := fun _ _ => rfl
  obtain ⟨r1, h2, er1, hf⟩ := zbd_some hf
  have fr : ∀ c, c ∉ md_X4_laughOf → h2 c = h c := fun c hc9 => (m_X11_pairOf _ _ _ er1 c (fun z => hc9 (sm_X4_laughOf_X11_pairOf c z))).trans (fr c hc9)
  obtain ⟨hi, hf⟩ := zck_some hf
  obtain ⟨y3, ey3, hf⟩ := zlt_some hf
  rcases zif_c hf with ⟨hc, hf⟩ | ⟨hc, hf⟩
  · skip
    obtain ⟨hi, hf⟩ := zck_some hf
    exact fun c hc9 => (m_X4_laughOf_47  _ _ _ _ _ hf c hc9).trans (fr c hc9)
  · skip
    exact fun c hc9 => (m_X4_laughOf_47  _ _ _ _ _ hf c hc9).trans (fr c hc9)
end
section
abbrev md_X11_laugh : List Nat := [19, 21]
theorem sm_X11_laugh_X11_arePair : ∀ c ∈ md_X11_arePair, c ∈ md_X11_laugh := by decide
theorem sm_X11_laugh_X4_laughOf : ∀ c ∈ md_X4_laughOf, c ∈ md_X11_laugh := by decide
variable {q : Int32 × zH}
theorem m_X11_laugh : ∀ (h0 : zH) (x1 : Int32) (x2 : Int32) {q : Int32 × zH}, f_X11_laugh x1 x2 h0 = some q → ∀ c, c ∉ md_X11_laugh → q.2 c = h0 c := by
  intro h x1 x2 q hf
  unfold f_X11_laugh at hf
  have fr : ∀ c, c ∉ md_X11_laugh → h c = h c := fun _ _ => rfl
  obtain ⟨r1, h2, er1, hf⟩ := zbd_some hf
  have fr : ∀ c, c ∉ md_X11_laugh → h2 c = h c := fun c hc9 => (m_X11_arePair _ _ _ er1 c (fun z => hc9 (sm_X11_laugh_X11_arePair c z))).trans (fr c hc9)
  rcases zif_c hf with ⟨hc, hf⟩ | ⟨hc, hf⟩
  · skip
    cases hf
    exact fr
  · skip
    obtain ⟨r3, h4, er3, hf⟩ := zbd_some hf
    have fr : ∀ c, c ∉ md_X11_laugh → h4 c = h c := fun c hc9 => (m_X4_laughOf _ _ _ _ er3 c (fun z => hc9 (sm_X11_laugh_X4_laughOf c z))).trans (fr c hc9)
    cases hf
    exact fr
end
section
abbrev md_X3_setOn : List Nat := []
variable {q : Int32 × zH}
theorem m_X3_setOn_28 {k4 : Int32 → Int32 → Int32 → zH → zR} (hk4 : ∀ (h0 : zH) (x1 : Int32) (x2 : Int32) (x3 : Int32), k4 x1 x2 x3 h0 = some q → ∀ c, c ∉ md_X3_setOn → q.2 c = h0 c) : ∀ (h0 : zH) (x1 : Int32) (x2 : Int32) (x3 : Int32), f_X3_setOn_28 k4 x1 x2 x3 h0 = some q → ∀ c, c ∉ md_X3_setOn → q.2 c = h0 c := by
  intro h x1 x2 x3 hf
  unfold f_X3_setOn_28 at hf
  have fr : ∀ c, c ∉ md_X3_setOn → h c = h c := fun _ _ => rfl
  obtain ⟨y1, ey1, hf⟩ := zlt_some hf
  exact fun c hc9 => (hk4 _ _ _ _ hf c hc9).trans (fr c hc9)
theorem m_X3_setOn_4   : ∀ n, ∀ (h0 : zH) (x1 : Int32) (x2 : Int32) (x3 : Int32), f_X3_setOn_4  n x1 x2 x3 h0 = some q → ∀ c, c ∉ md_X3_setOn → q.2 c = h0 c := by
  intro n
  induction n with
  | zero => intro h x1 x2 x3 hf; cases hf
  | succ n ih =>
    intro h x1 x2 x3 hf
    rw [f_X3_setOn_4] at hf
    have fr : ∀ c, c ∉ md_X3_setOn → h c = h c := fun _ _ => rfl
    rcases zif_c hf with ⟨hc, hf⟩ | ⟨hc, hf⟩
    · skip
      cases hf
      exact fr
    · skip
      obtain ⟨hi, hf⟩ := zck_some hf
      rcases zif_n hf with ⟨hc, hf⟩ | ⟨hc, hf⟩
      · skip
        exact fun c hc9 => (m_X3_setOn_28 ih _ _ _ _ hf c hc9).trans (fr c hc9)
      · skip
        obtain ⟨y2, ey2, hf⟩ := zlt_some hf
        exact fun c hc9 => (m_X3_setOn_28 ih _ _ _ _ hf c hc9).trans (fr c hc9)
theorem m_X3_setOn : ∀ (h0 : zH) (x1 : Int32) {q : Int32 × zH}, f_X3_setOn x1 h0 = some q → ∀ c, c ∉ md_X3_setOn → q.2 c = h0 c := by
  intro h x1 q hf
  unfold f_X3_setOn at hf
  have fr : ∀ c, c ∉ md_X3_setOn → h c = h c := fun _ _ => rfl
  exact fun c hc9 => (m_X3_setOn_4  zN _ _ _ _ hf c hc9).trans (fr c hc9)
end
section
abbrev md_X1_tellable : List Nat := []
theorem sm_X1_tellable_X3_quartersOf : ∀ c ∈ md_X3_quartersOf, c ∈ md_X1_tellable := by decide
variable {q : Int32 × zH}
theorem m_X1_tellable_77 {k5 : Int32 → Int32 → Int32 → Int32 → zH → zR} (hk5 : ∀ (h0 : zH) (x1 : Int32) (x2 : Int32) (x3 : Int32) (x4 : Int32), k5 x1 x2 x3 x4 h0 = some q → ∀ c, c ∉ md_X1_tellable → q.2 c = h0 c) : ∀ (h0 : zH) (x1 : Int32) (x2 : Int32) (x3 : Int32) (x4 : Int32), f_X1_tellable_77 k5 x1 x2 x3 x4 h0 = some q → ∀ c, c ∉ md_X1_tellable → q.2 c = h0 c := by
  intro h x1 x2 x3 x4 hf
  unfold f_X1_tellable_77 at hf
  have fr : ∀ c, c ∉ md_X1_tellable → h c = h c := fun _ _ => rfl
  obtain ⟨y3, ey3, hf⟩ := zlt_some hf
  exact fun c hc9 => (hk5 _ _ _ _ _ hf c hc9).trans (fr c hc9)
theorem m_X1_tellable_58 {k5 : Int32 → Int32 → Int32 → Int32 → zH → zR} (hk5 : ∀ (h0 : zH) (x1 : Int32) (x2 : Int32) (x3 : Int32) (x4 : Int32), k5 x1 x2 x3 x4 h0 = some q → ∀ c, c ∉ md_X1_tellable → q.2 c = h0 c) : ∀ (h0 : zH) (x1 : Int32) (x2 : Int32) (x3 : Int32) (x4 : Int32) (x5 : Int32), f_X1_tellable_58 k5 x1 x2 x3 x4 x5 h0 = some q → ∀ c, c ∉ md_X1_tellable → q.2 c = h0 c := by
  intro h x1 x2 x3 x4 x5 hf
  unfold f_X1_tellable_58 at hf
  have fr : ∀ c, c ∉ md_X1_tellable → h c = h c := fun _ _ => rfl
  rcases zif_c hf with ⟨hc, hf⟩ | ⟨hc, hf⟩
  · skip
    exact fun c hc9 => (m_X1_tellable_77 hk5 _ _ _ _ _ hf c hc9).trans (fr c hc9)
  · skip
    obtain ⟨y4, ey4, hf⟩ := zlt_some hf
    exact fun c hc9 => (m_X1_tellable_77 hk5 _ _ _ _ _ hf c hc9).trans (fr c hc9)
theorem m_X1_tellable_5   : ∀ n, ∀ (h0 : zH) (x1 : Int32) (x2 : Int32) (x3 : Int32) (x4 : Int32), f_X1_tellable_5  n x1 x2 x3 x4 h0 = some q → ∀ c, c ∉ md_X1_tellable → q.2 c = h0 c := by
  intro n
  induction n with
  | zero => intro h x1 x2 x3 x4 hf; cases hf
  | succ n ih =>
    intro h x1 x2 x3 x4 hf
    rw [f_X1_tellable_5] at hf
    have fr : ∀ c, c ∉ md_X1_tellable → h c = h c := fun _ _ => rfl
    rcases zif_c hf with ⟨hc, hf⟩ | ⟨hc, hf⟩
    · skip
      cases hf
      exact fr
    · skip
      obtain ⟨r1, h2, er1, hf⟩ := zbd_some hf
      have fr : ∀ c, c ∉ md_X1_tellable → h2 c = h c := fun c hc9 => (m_X3_quartersOf _ _ _ er1 c (fun z => hc9 (sm_X1_tellable_X3_quartersOf c z))).trans (fr c hc9)
      rcases zif_c hf with ⟨hc, hf⟩ | ⟨hc, hf⟩
      · skip
        exact fun c hc9 => (m_X1_tellable_58 ih _ _ _ _ _ _ hf c hc9).trans (fr c hc9)
      · skip
        obtain ⟨r5, h6, er5, hf⟩ := zbd_some hf
        have fr : ∀ c, c ∉ md_X1_tellable → h6 c = h c := fun c hc9 => (m_X3_quartersOf _ _ _ er5 c (fun z => hc9 (sm_X1_tellable_X3_quartersOf c z))).trans (fr c hc9)
        obtain ⟨y7, ey7, hf⟩ := zlt_some hf
        exact fun c hc9 => (m_X1_tellable_58 ih _ _ _ _ _ _ hf c hc9).trans (fr c hc9)
theorem m_X1_tellable : ∀ (h0 : zH) (x1 : Int32) (x2 : Int32) {q : Int32 × zH}, f_X1_tellable x1 x2 h0 = some q → ∀ c, c ∉ md_X1_tellable → q.2 c = h0 c := by
  intro h x1 x2 q hf
  unfold f_X1_tellable at hf
  have fr : ∀ c, c ∉ md_X1_tellable → h c = h c := fun _ _ => rfl
  exact fun c hc9 => (m_X1_tellable_5  zN _ _ _ _ _ hf c hc9).trans (fr c hc9)
end
section
abbrev md_X1_begin : List Nat := [38, 39, 41]
theorem sm_X1_begin_X3_setOn : ∀ c ∈ md_X3_setOn, c ∈ md_X1_begin := by decide
theorem sm_X1_begin_X1_tellable : ∀ c ∈ md_X1_tellable, c ∈ md_X1_begin := by decide
variable {q : Int32 × zH}
theorem m_X1_begin_54   : ∀ n, ∀ (h0 : zH) (x1 : Int32), f_X1_begin_54  n x1 h0 = some q → ∀ c, c ∉ md_X1_begin → q.2 c = h0 c := by
  intro n
  induction n with
  | zero => intro h x1 hf; cases hf
  | succ n ih =>
    intro h x1 hf
    rw [f_X1_begin_54] at hf
    have fr : ∀ c, c ∉ md_X1_begin → h c = h c := fun _ _ => rfl
    rcases zif_c hf with ⟨hc, hf⟩ | ⟨hc, hf⟩
    · skip
      cases hf
      exact fr
    · skip
      obtain ⟨r7, h8, er7, hf⟩ := zbd_some hf
      have fr : ∀ c, c ∉ md_X1_begin → h8 c = h c := fun c hc9 => (m_X1_tellable _ _ _ er7 c (fun z => hc9 (sm_X1_begin_X1_tellable c z))).trans (fr c hc9)
      obtain ⟨hi, hf⟩ := zck_some hf
      obtain ⟨h9, eh9, hf⟩ := zst_some hf
      have fr : ∀ c, c ∉ md_X1_begin → h9 c = h c := fun c hc9 => (congrFun eh9 c).trans ((zup_ne c (fun z => hc9 (by rw [z]; decide))).trans (fr c hc9))
      obtain ⟨y10, ey10, hf⟩ := zlt_some hf
      exact fun c hc9 => (ih _ _ hf c hc9).trans (fr c hc9)
theorem m_X1_begin_2   : ∀ n, ∀ (h0 : zH) (x1 : Int32), f_X1_begin_2  n x1 h0 = some q → ∀ c, c ∉ md_X1_begin → q.2 c = h0 c := by
  intro n
  induction n with
  | zero => intro h x1 hf; cases hf
  | succ n ih =>
    intro h x1 hf
    rw [f_X1_begin_2] at hf
    have fr : ∀ c, c ∉ md_X1_begin → h c = h c := fun _ _ => rfl
    rcases zif_c hf with ⟨hc, hf⟩ | ⟨hc, hf⟩
    · skip
      obtain ⟨r1, h2, er1, hf⟩ := zbd_some hf
      have fr : ∀ c, c ∉ md_X1_begin → h2 c = h c := fun c hc9 => (m_X3_setOn _ _ er1 c (fun z => hc9 (sm_X1_begin_X3_setOn c z))).trans (fr c hc9)
      obtain ⟨h3, eh3, hf⟩ := zst_some hf
      have fr : ∀ c, c ∉ md_X1_begin → h3 c = h c := fun c hc9 => (congrFun eh3 c).trans ((zup_ne c (fun z => hc9 (by rw [z]; decide))).trans (fr c hc9))
      obtain ⟨r4, h5, er4, hf⟩ := zbd_some hf
      have fr : ∀ c, c ∉ md_X1_begin → h5 c = h c := fun c hc9 => (m_X3_setOn _ _ er4 c (fun z => hc9 (sm_X1_begin_X3_setOn c z))).trans (fr c hc9)
      obtain ⟨h6, eh6, hf⟩ := zst_some hf
      have fr : ∀ c, c ∉ md_X1_begin → h6 c = h c := fun c hc9 => (congrFun eh6 c).trans ((zup_ne c (fun z => hc9 (by rw [z]; decide))).trans (fr c hc9))
      exact fun c hc9 => (m_X1_begin_54  zN _ _ hf c hc9).trans (fr c hc9)
    · skip
      obtain ⟨hi, hf⟩ := zck_some hf
      obtain ⟨h11, eh11, hf⟩ := zst_some hf
      have fr : ∀ c, c ∉ md_X1_begin → h11 c = h c := fun c hc9 => (congrFun eh11 c).trans ((zup_ne c (fun z => hc9 (by rw [z]; decide))).trans (fr c hc9))
      obtain ⟨y12, ey12, hf⟩ := zlt_some hf
      exact fun c hc9 => (ih _ _ hf c hc9).trans (fr c hc9)
theorem m_X1_begin : ∀ (h0 : zH) {q : Int32 × zH}, f_X1_begin h0 = some q → ∀ c, c ∉ md_X1_begin → q.2 c = h0 c := by
  intro h q hf
  unfold f_X1_begin at hf
  have fr : ∀ c, c ∉ md_X1_begin → h c = h c := fun _ _ => rfl
  exact fun c hc9 => (m_X1_begin_2  zN _ _ hf c hc9).trans (fr c hc9)
end
section
abbrev md_X9_beside : List Nat := []
variable {q : Int32 × zH}
theorem m_X9_beside : ∀ (h0 : zH) (x1 : Int32) {q : Int32 × zH}, f_X9_beside x1 h0 = some q → ∀ c, c ∉ md_X9_beside → q.2 c = h0 c := by
  intro h x1 q hf
  unfold f_X9_beside at hf
  have fr : ∀ c, c ∉ md_X9_beside → h c = h c := fun _ _ => rfl
  rcases zif_c hf with ⟨hc, hf⟩ | ⟨hc, hf⟩
  · skip
    cases hf
    exact fr
  · skip
    cases hf
    exact fr
end
section
abbrev md_X1_partnersOf : List Nat := []
theorem sm_X1_partnersOf_X11_isIn : ∀ c ∈ md_X11_isIn, c ∈ md_X1_partnersOf := by decide
variable {q : Int32 × zH}
theorem m_X1_partnersOf_39   : ∀ (h0 : zH) (s0 : Int32) (s1 : Int32), f_X1_partnersOf_39  s0 s1 h0 = some q → ∀ c, c ∉ md_X1_partnersOf → q.2 c = h0 c := by
  intro h s0 s1 hf
  unfold f_X1_partnersOf_39 at hf
  have fr : ∀ c, c ∉ md_X1_partnersOf → h c = h c := fun _ _ => rfl
  cases hf
  exact fr
theorem m_X1_partnersOf_26   : ∀ (h0 : zH) (x1 : Int32) (x2 : Int32) (x3 : Int32) (s0 : Int32), f_X1_partnersOf_26  x1 x2 x3 s0 h0 = some q → ∀ c, c ∉ md_X1_partnersOf → q.2 c = h0 c := by
  intro h x1 x2 x3 s0 hf
  unfold f_X1_partnersOf_26 at hf
  have fr : ∀ c, c ∉ md_X1_partnersOf → h c = h c := fun _ _ => rfl
  obtain ⟨r5, h6, er5, hf⟩ := zbd_some hf
  have fr : ∀ c, c ∉ md_X1_partnersOf → h6 c = h c := fun c hc9 => (m_X11_isIn _ _ _ er5 c (fun z => hc9 (sm_X1_partnersOf_X11_isIn c z))).trans (fr c hc9)
  rcases zif_c hf with ⟨hc, hf⟩ | ⟨hc, hf⟩
  · skip
    exact fun c hc9 => (m_X1_partnersOf_39  _ _ _ hf c hc9).trans (fr c hc9)
  · skip
    exact fun c hc9 => (m_X1_partnersOf_39  _ _ _ hf c hc9).trans (fr c hc9)
theorem m_X1_partnersOf : ∀ (h0 : zH) (x1 : Int32) (x2 : Int32) (x3 : Int32) {q : Int32 × zH}, f_X1_partnersOf x1 x2 x3 h0 = some q → ∀ c, c ∉ md_X1_partnersOf → q.2 c = h0 c := by
  intro h x1 x2 x3 q hf
  unfold f_X1_partnersOf at hf
  have fr : ∀ c, c ∉ md_X1_partnersOf → h c = h c := fun _ _ => rfl
  obtain ⟨r1, h2, er1, hf⟩ := zbd_some hf
  have fr : ∀ c, c ∉ md_X1_partnersOf → h2 c = h c := fun c hc9 => (m_X11_isIn _ _ _ er1 c (fun z => hc9 (sm_X1_partnersOf_X11_isIn c z))).trans (fr c hc9)
  rcases zif_n hf with ⟨hc, hf⟩ | ⟨hc, hf⟩
  · skip
    obtain ⟨r3, h4, er3, hf⟩ := zbd_some hf
    have fr : ∀ c, c ∉ md_X1_partnersOf → h4 c = h c := fun c hc9 => (m_X11_isIn _ _ _ er3 c (fun z => hc9 (sm_X1_partnersOf_X11_isIn c z))).trans (fr c hc9)
    rcases zif_c hf with ⟨hc, hf⟩ | ⟨hc, hf⟩
    · skip
      exact fun c hc9 => (m_X1_partnersOf_26  _ _ _ _ _ hf c hc9).trans (fr c hc9)
    · skip
      exact fun c hc9 => (m_X1_partnersOf_26  _ _ _ _ _ hf c hc9).trans (fr c hc9)
  · skip
    cases hf
    exact fr
end
section
abbrev md_X1_findOf : List Nat := [19, 21, 38, 39]
theorem sm_X1_findOf_X11_isIn : ∀ c ∈ md_X11_isIn, c ∈ md_X1_findOf := by decide
theorem sm_X1_findOf_X1_partnersOf : ∀ c ∈ md_X1_partnersOf, c ∈ md_X1_findOf := by decide
theorem sm_X1_findOf_X11_pairOf : ∀ c ∈ md_X11_pairOf, c ∈ md_X1_findOf := by decide
theorem sm_X1_findOf_X4_laughOf : ∀ c ∈ md_X4_laughOf, c ∈ md_X1_findOf := by decide
variable {q : Int32 × zH}
theorem m_X1_findOf_26   : ∀ (h0 : zH), f_X1_findOf_26  h0 = some q → ∀ c, c ∉ md_X1_findOf → q.2 c = h0 c := by
  intro h hf
  unfold f_X1_findOf_26 at hf
  have fr : ∀ c, c ∉ md_X1_findOf → h c = h c := fun _ _ => rfl
  cases hf
  exact fr
theorem m_X1_findOf_180 {k42 : Int32 → Int32 → Int32 → Int32 → zH → zR} (hk42 : ∀ (h0 : zH) (x1 : Int32) (x2 : Int32) (x3 : Int32) (x4 : Int32), k42 x1 x2 x3 x4 h0 = some q → ∀ c, c ∉ md_X1_findOf → q.2 c = h0 c) : ∀ (h0 : zH) (x1 : Int32) (x2 : Int32) (x3 : Int32) (x4 : Int32), f_X1_findOf_180 k42 x1 x2 x3 x4 h0 = some q → ∀ c, c ∉ md_X1_findOf → q.2 c = h0 c := by
  intro h x1 x2 x3 x4 hf
  unfold f_X1_findOf_180 at hf
  have fr : ∀ c, c ∉ md_X1_findOf → h c = h c := fun _ _ => rfl
  obtain ⟨y7, ey7, hf⟩ := zlt_some hf
  exact fun c hc9 => (hk42 _ _ _ _ _ hf c hc9).trans (fr c hc9)
theorem m_X1_findOf_174 {k42 : Int32 → Int32 → Int32 → Int32 → zH → zR} {k71 : Int32 → Int32 → Int32 → Int32 → Int32 → Int32 → zH → zR} (hk42 : ∀ (h0 : zH) (x1 : Int32) (x2 : Int32) (x3 : Int32) (x4 : Int32), k42 x1 x2 x3 x4 h0 = some q → ∀ c, c ∉ md_X1_findOf → q.2 c = h0 c) (hk71 : ∀ (h0 : zH) (x1 : Int32) (x2 : Int32) (x3 : Int32) (x4 : Int32) (x5 : Int32) (x6 : Int32), k71 x1 x2 x3 x4 x5 x6 h0 = some q → ∀ c, c ∉ md_X1_findOf → q.2 c = h0 c) : ∀ (h0 : zH) (x1 : Int32) (x2 : Int32) (x3 : Int32) (x4 : Int32) (x5 : Int32) (x6 : Int32), f_X1_findOf_174 k42 k71 x1 x2 x3 x4 x5 x6 h0 = some q → ∀ c, c ∉ md_X1_findOf → q.2 c = h0 c := by
  intro h x1 x2 x3 x4 x5 x6 hf
  unfold f_X1_findOf_174 at hf
  have fr : ∀ c, c ∉ md_X1_findOf → h c = h c := fun _ _ => rfl
  obtain ⟨y10, ey10, hf⟩ := zlt_some hf
  exact fun c hc9 => (hk71 _ _ _ _ _ _ _ hf c hc9).trans (fr c hc9)
theorem m_X1_findOf_137 {k42 : Int32 → Int32 → Int32 → Int32 → zH → zR} {k71 : Int32 → Int32 → Int32 → Int32 → Int32 → Int32 → zH → zR} (hk42 : ∀ (h0 : zH) (x1 : Int32) (x2 : Int32) (x3 : Int32) (x4 : Int32), k42 x1 x2 x3 x4 h0 = some q → ∀ c, c ∉ md_X1_findOf → q.2 c = h0 c) (hk71 : ∀ (h0 : zH) (x1 : Int32) (x2 : Int32) (x3 : Int32) (x4 : Int32) (x5 : Int32) (x6 : Int32), k71 x1 x2 x3 x4 x5 x6 h0 = some q → ∀ c, c ∉ md_X1_findOf → q.2 c = h0 c) : ∀ (h0 : zH) (x1 : Int32) (x2 : Int32) (x3 : Int32) (x4 : Int32) (x5 : Int32) (x6 : Int32) (x7 : Int32), f_X1_findOf_137 k42 k71 x1 x2 x3 x4 x5 x6 x7 h0 = some q → ∀ c, c ∉ md_X1_findOf → q.2 c = h0 c := by
  intro h x1 x2 x3 x4 x5 x6 x7 hf
  unfold f_X1_findOf_137 at hf
  have fr : ∀ c, c ∉ md_X1_findOf → h c = h c := fun _ _ => rfl
  obtain ⟨hi, hf⟩ := zck_some hf
  rcases zif_c hf with ⟨hc, hf⟩ | ⟨hc, hf⟩
  · skip
    exact fun c hc9 => (m_X1_findOf_174 hk42 hk71 _ _ _ _ _ _ _ hf c hc9).trans (fr c hc9)
  · skip
    obtain ⟨hi, hf⟩ := zck_some hf
    obtain ⟨h13, eh13, hf⟩ := zst_some hf
    have fr : ∀ c, c ∉ md_X1_findOf → h13 c = h c := fun c hc9 => (congrFun eh13 c).trans ((zup_ne c (fun z => hc9 (by rw [z]; decide))).trans (fr c hc9))
    obtain ⟨h14, eh14, hf⟩ := zst_some hf
    have fr : ∀ c, c ∉ md_X1_findOf → h14 c = h c := fun c hc9 => (congrFun eh14 c).trans ((zup_ne c (fun z => hc9 (by rw [z]; decide))).trans (fr c hc9))
    obtain ⟨h15, eh15, hf⟩ := zst_some hf
    have fr : ∀ c, c ∉ md_X1_findOf → h15 c = h c := fun c hc9 => (congrFun eh15 c).trans ((zup_ne c (fun z => hc9 (by rw [z]; decide))).trans (fr c hc9))
    exact fun c hc9 => (m_X1_findOf_174 hk42 hk71 _ _ _ _ _ _ _ hf c hc9).trans (fr c hc9)
theorem m_X1_findOf_71 {k42 : Int32 → Int32 → Int32 → Int32 → zH → zR} (hk42 : ∀ (h0 : zH) (x1 : Int32) (x2 : Int32) (x3 : Int32) (x4 : Int32), k42 x1 x2 x3 x4 h0 = some q → ∀ c, c ∉ md_X1_findOf → q.2 c = h0 c) : ∀ n, ∀ (h0 : zH) (x1 : Int32) (x2 : Int32) (x3 : Int32) (x4 : Int32) (x5 : Int32) (x6 : Int32), f_X1_findOf_71 k42 n x1 x2 x3 x4 x5 x6 h0 = some q → ∀ c, c ∉ md_X1_findOf → q.2 c = h0 c := by
  intro n
  induction n with
  | zero => intro h x1 x2 x3 x4 x5 x6 hf; cases hf
  | succ n ih =>
    intro h x1 x2 x3 x4 x5 x6 hf
    rw [f_X1_findOf_71] at hf
    have fr : ∀ c, c ∉ md_X1_findOf → h c = h c := fun _ _ => rfl
    rcases zif_c hf with ⟨hc, hf⟩ | ⟨hc, hf⟩
    · skip
      exact fun c hc9 => (m_X1_findOf_180 hk42 _ _ _ _ _ hf c hc9).trans (fr c hc9)
    · skip
      rcases zif_c hf with ⟨hc, hf⟩ | ⟨hc, hf⟩
      · skip
        exact fun c hc9 => (m_X1_findOf_180 hk42 _ _ _ _ _ hf c hc9).trans (fr c hc9)
      · skip
        obtain ⟨r8, h9, er8, hf⟩ := zbd_some hf
        have fr : ∀ c, c ∉ md_X1_findOf → h9 c = h c := fun c hc9 => (m_X11_isIn _ _ _ er8 c (fun z => hc9 (sm_X1_findOf_X11_isIn c z))).trans (fr c hc9)
        rcases zif_c hf with ⟨hc, hf⟩ | ⟨hc, hf⟩
        · skip
          exact fun c hc9 => (m_X1_findOf_174 hk42 ih _ _ _ _ _ _ _ hf c hc9).trans (fr c hc9)
        · skip
          obtain ⟨r11, h12, er11, hf⟩ := zbd_some hf
          have fr : ∀ c, c ∉ md_X1_findOf → h12 c = h c := fun c hc9 => (m_X11_pairOf _ _ _ er11 c (fun z => hc9 (sm_X1_findOf_X11_pairOf c z))).trans (fr c hc9)
          obtain ⟨hi, hf⟩ := zck_some hf
          rcases zif_n hf with ⟨hc, hf⟩ | ⟨hc, hf⟩
          · skip
            exact fun c hc9 => (m_X1_findOf_137 hk42 ih _ _ _ _ _ _ _ _ hf c hc9).trans (fr c hc9)
          · skip
            obtain ⟨hi, hf⟩ := zck_some hf
            obtain ⟨r16, h17, er16, hf⟩ := zbd_some hf
            have fr : ∀ c, c ∉ md_X1_findOf → h17 c = h c := fun c hc9 => (m_X4_laughOf _ _ _ _ er16 c (fun z => hc9 (sm_X1_findOf_X4_laughOf c z))).trans (fr c hc9)
            obtain ⟨hi, hf⟩ := zck_some hf
            obtain ⟨h18, eh18, hf⟩ := zst_some hf
            have fr : ∀ c, c ∉ md_X1_findOf → h18 c = h c := fun c hc9 => (congrFun eh18 c).trans ((zup_ne c (fun z => hc9 (by rw [z]; decide))).trans (fr c hc9))
            exact fun c hc9 => (m_X1_findOf_137 hk42 ih _ _ _ _ _ _ _ _ hf c hc9).trans (fr c hc9)
theorem m_X1_findOf_42   : ∀ n, ∀ (h0 : zH) (x1 : Int32) (x2 : Int32) (x3 : Int32) (x4 : Int32), f_X1_findOf_42  n x1 x2 x3 x4 h0 = some q → ∀ c, c ∉ md_X1_findOf → q.2 c = h0 c := by
  intro n
  induction n with
  | zero => intro h x1 x2 x3 x4 hf; cases hf
  | succ n ih =>
    intro h x1 x2 x3 x4 hf
    rw [f_X1_findOf_42] at hf
    have fr : ∀ c, c ∉ md_X1_findOf → h c = h c := fun _ _ => rfl
    rcases zif_c hf with ⟨hc, hf⟩ | ⟨hc, hf⟩
    · skip
      rcases zif_c hf with ⟨hc, hf⟩ | ⟨hc, hf⟩
      · skip
        cases hf
        exact fr
      · skip
        cases hf
        exact fr
    · skip
      obtain ⟨hi, hf⟩ := zck_some hf
      obtain ⟨hi, hf⟩ := zck_some hf
      obtain ⟨r5, h6, er5, hf⟩ := zbd_some hf
      have fr : ∀ c, c ∉ md_X1_findOf → h6 c = h c := fun c hc9 => (m_X1_partnersOf _ _ _ _ er5 c (fun z => hc9 (sm_X1_findOf_X1_partnersOf c z))).trans (fr c hc9)
      exact fun c hc9 => (m_X1_findOf_71 ih zN _ _ _ _ _ _ _ hf c hc9).trans (fr c hc9)
theorem m_X1_findOf : ∀ (h0 : zH) (x1 : Int32) (x2 : Int32) {q : Int32 × zH}, f_X1_findOf x1 x2 h0 = some q → ∀ c, c ∉ md_X1_findOf → q.2 c = h0 c := by
  intro h x1 x2 q hf
  unfold f_X1_findOf at hf
  have fr : ∀ c, c ∉ md_X1_findOf → h c = h c := fun _ _ => rfl
  obtain ⟨h1, eh1, hf⟩ := zst_some hf
  have fr : ∀ c, c ∉ md_X1_findOf → h1 c = h c := fun c hc9 => (congrFun eh1 c).trans ((zup_ne c (fun z => hc9 (by rw [z]; decide))).trans (fr c hc9))
  rcases zif_c hf with ⟨hc, hf⟩ | ⟨hc, hf⟩
  · skip
    exact fun c hc9 => (m_X1_findOf_26  _ hf c hc9).trans (fr c hc9)
  · skip
    obtain ⟨hi, hf⟩ := zck_some hf
    obtain ⟨r2, h3, er2, hf⟩ := zbd_some hf
    have fr : ∀ c, c ∉ md_X1_findOf → h3 c = h c := fun c hc9 => (m_X11_isIn _ _ _ er2 c (fun z => hc9 (sm_X1_findOf_X11_isIn c z))).trans (fr c hc9)
    rcases zif_c hf with ⟨hc, hf⟩ | ⟨hc, hf⟩
    · skip
      obtain ⟨y4, ey4, hf⟩ := zlt_some hf
      exact fun c hc9 => (m_X1_findOf_42  zN _ _ _ _ _ hf c hc9).trans (fr c hc9)
    · skip
      exact fun c hc9 => (m_X1_findOf_26  _ hf c hc9).trans (fr c hc9)
end
section
abbrev md_X1_findBetween : List Nat := [19, 21, 38, 39]
theorem sm_X1_findBetween_X1_findOf : ∀ c ∈ md_X1_findOf, c ∈ md_X1_findBetween := by decide
theorem sm_X1_findBetween_X11_isIn : ∀ c ∈ md_X11_isIn, c ∈ md_X1_findBetween := by decide
variable {q : Int32 × zH}
theorem m_X1_findBetween_10   : ∀ (h0 : zH), f_X1_findBetween_10  h0 = some q → ∀ c, c ∉ md_X1_findBetween → q.2 c = h0 c := by
  intro h hf
  unfold f_X1_findBetween_10 at hf
  have fr : ∀ c, c ∉ md_X1_findBetween → h c = h c := fun _ _ => rfl
  cases hf
  exact fr
theorem m_X1_findBetween_116   : ∀ (h0 : zH) (s0 : Int32), f_X1_findBetween_116  s0 h0 = some q → ∀ c, c ∉ md_X1_findBetween → q.2 c = h0 c := by
  intro h s0 hf
  unfold f_X1_findBetween_116 at hf
  have fr : ∀ c, c ∉ md_X1_findBetween → h c = h c := fun _ _ => rfl
  obtain ⟨h8, eh8, hf⟩ := zst_some hf
  have fr : ∀ c, c ∉ md_X1_findBetween → h8 c = h c := fun c hc9 => (congrFun eh8 c).trans ((zup_ne c (fun z => hc9 (by rw [z]; decide))).trans (fr c hc9))
  cases hf
  exact fr
theorem m_X1_findBetween_102   : ∀ (h0 : zH) (x1 : Int32) (x2 : Int32) (x5 : Int32) (s0 : Int32), f_X1_findBetween_102  x1 x2 x5 s0 h0 = some q → ∀ c, c ∉ md_X1_findBetween → q.2 c = h0 c := by
  intro h x1 x2 x5 s0 hf
  unfold f_X1_findBetween_102 at hf
  have fr : ∀ c, c ∉ md_X1_findBetween → h c = h c := fun _ _ => rfl
  obtain ⟨h7, eh7, hf⟩ := zst_some hf
  have fr : ∀ c, c ∉ md_X1_findBetween → h7 c = h c := fun c hc9 => (congrFun eh7 c).trans ((zup_ne c (fun z => hc9 (by rw [z]; decide))).trans (fr c hc9))
  rcases zif_c hf with ⟨hc, hf⟩ | ⟨hc, hf⟩
  · skip
    exact fun c hc9 => (m_X1_findBetween_116  _ _ hf c hc9).trans (fr c hc9)
  · skip
    exact fun c hc9 => (m_X1_findBetween_116  _ _ hf c hc9).trans (fr c hc9)
theorem m_X1_findBetween_89   : ∀ (h0 : zH) (x1 : Int32) (x2 : Int32) (s0 : Int32), f_X1_findBetween_89  x1 x2 s0 h0 = some q → ∀ c, c ∉ md_X1_findBetween → q.2 c = h0 c := by
  intro h x1 x2 s0 hf
  unfold f_X1_findBetween_89 at hf
  have fr : ∀ c, c ∉ md_X1_findBetween → h c = h c := fun _ _ => rfl
  rcases zif_c hf with ⟨hc, hf⟩ | ⟨hc, hf⟩
  · skip
    exact fun c hc9 => (m_X1_findBetween_102  _ _ _ _ _ hf c hc9).trans (fr c hc9)
  · skip
    exact fun c hc9 => (m_X1_findBetween_102  _ _ _ _ _ hf c hc9).trans (fr c hc9)
theorem m_X1_findBetween_88   : ∀ (h0 : zH) (x1 : Int32) (x2 : Int32), f_X1_findBetween_88  x1 x2 h0 = some q → ∀ c, c ∉ md_X1_findBetween → q.2 c = h0 c := by
  intro h x1 x2 hf
  unfold f_X1_findBetween_88 at hf
  have fr : ∀ c, c ∉ md_X1_findBetween → h c = h c := fun _ _ => rfl
  exact fun c hc9 => (m_X1_findBetween_89  _ _ _ _ hf c hc9).trans (fr c hc9)
theorem m_X1_findBetween : ∀ (h0 : zH) (x1 : Int32) (x2 : Int32) {q : Int32 × zH}, f_X1_findBetween x1 x2 h0 = some q → ∀ c, c ∉ md_X1_findBetween → q.2 c = h0 c := by
  intro h x1 x2 q hf
  unfold f_X1_findBetween at hf
  have fr : ∀ c, c ∉ md_X1_findBetween → h c = h c := fun _ _ => rfl
  rcases zif_c hf with ⟨hc, hf⟩ | ⟨hc, hf⟩
  · skip
    exact fun c hc9 => (m_X1_findBetween_10  _ hf c hc9).trans (fr c hc9)
  · skip
    rcases zif_n hf with ⟨hc, hf⟩ | ⟨hc, hf⟩
    · skip
      obtain ⟨hi, hf⟩ := zck_some hf
      obtain ⟨y1, ey1, hf⟩ := zlt_some hf
      obtain ⟨hi, hf⟩ := zck_some hf
      obtain ⟨y2, ey2, hf⟩ := zlt_some hf
      obtain ⟨r3, h4, er3, hf⟩ := zbd_some hf
      have fr : ∀ c, c ∉ md_X1_findBetween → h4 c = h c := fun c hc9 => (m_X1_findOf _ _ _ er3 c (fun z => hc9 (sm_X1_findBetween_X1_findOf c z))).trans (fr c hc9)
      rcases zif_n hf with ⟨hc, hf⟩ | ⟨hc, hf⟩
      · skip
        obtain ⟨hi, hf⟩ := zck_some hf
        obtain ⟨r5, h6, er5, hf⟩ := zbd_some hf
        have fr : ∀ c, c ∉ md_X1_findBetween → h6 c = h c := fun c hc9 => (m_X11_isIn _ _ _ er5 c (fun z => hc9 (sm_X1_findBetween_X11_isIn c z))).trans (fr c hc9)
        rcases zif_c hf with ⟨hc, hf⟩ | ⟨hc, hf⟩
        · skip
          exact fun c hc9 => (m_X1_findBetween_88  _ _ _ hf c hc9).trans (fr c hc9)
        · skip
          obtain ⟨hi, hf⟩ := zck_some hf
          obtain ⟨r9, h10, er9, hf⟩ := zbd_some hf
          have fr : ∀ c, c ∉ md_X1_findBetween → h10 c = h c := fun c hc9 => (m_X11_isIn _ _ _ er9 c (fun z => hc9 (sm_X1_findBetween_X11_isIn c z))).trans (fr c hc9)
          rcases zif_c hf with ⟨hc, hf⟩ | ⟨hc, hf⟩
          · skip
            exact fun c hc9 => (m_X1_findBetween_88  _ _ _ hf c hc9).trans (fr c hc9)
          · skip
            exact fun c hc9 => (m_X1_findBetween_89  _ _ _ _ hf c hc9).trans (fr c hc9)
      · skip
        cases hf
        exact fr
    · skip
      exact fun c hc9 => (m_X1_findBetween_10  _ hf c hc9).trans (fr c hc9)
end
section
abbrev md_X11_telling : List Nat := [19, 21, 38, 39, 41]
theorem sm_X11_telling_X11_isBelow : ∀ c ∈ md_X11_isBelow, c ∈ md_X11_telling := by decide
theorem sm_X11_telling_X1_begin : ∀ c ∈ md_X1_begin, c ∈ md_X11_telling := by decide
theorem sm_X11_telling_X9_beside : ∀ c ∈ md_X9_beside, c ∈ md_X11_telling := by decide
theorem sm_X11_telling_X1_findBetween : ∀ c ∈ md_X1_findBetween, c ∈ md_X11_telling := by decide
variable {q : Int32 × zH}
theorem m_X11_telling : ∀ (h0 : zH) (x1 : Int32) (x2 : Int32) {q : Int32 × zH}, f_X11_telling x1 x2 h0 = some q → ∀ c, c ∉ md_X11_telling → q.2 c = h0 c := by
  intro h x1 x2 q hf
  unfold f_X11_telling at hf
  have fr : ∀ c, c ∉ md_X11_telling → h c = h c := fun _ _ => rfl
  obtain ⟨r1, h2, er1, hf⟩ := zbd_some hf
  have fr : ∀ c, c ∉ md_X11_telling → h2 c = h c := fun c hc9 => (m_X11_isBelow _ _ _ er1 c (fun z => hc9 (sm_X11_telling_X11_isBelow c z))).trans (fr c hc9)
  rcases zif_n hf with ⟨hc, hf⟩ | ⟨hc, hf⟩
  · skip
    obtain ⟨r3, h4, er3, hf⟩ := zbd_some hf
    have fr : ∀ c, c ∉ md_X11_telling → h4 c = h c := fun c hc9 => (m_X1_begin _ er3 c (fun z => hc9 (sm_X11_telling_X1_begin c z))).trans (fr c hc9)
    obtain ⟨hi, hf⟩ := zck_some hf
    obtain ⟨r5, h6, er5, hf⟩ := zbd_some hf
    have fr : ∀ c, c ∉ md_X11_telling → h6 c = h c := fun c hc9 => (m_X9_beside _ _ er5 c (fun z => hc9 (sm_X11_telling_X9_beside c z))).trans (fr c hc9)
    obtain ⟨hi, hf⟩ := zck_some hf
    obtain ⟨r7, h8, er7, hf⟩ := zbd_some hf
    have fr : ∀ c, c ∉ md_X11_telling → h8 c = h c := fun c hc9 => (m_X1_findBetween _ _ _ er7 c (fun z => hc9 (sm_X11_telling_X1_findBetween c z))).trans (fr c hc9)
    rcases zif_n hf with ⟨hc, hf⟩ | ⟨hc, hf⟩
    · skip
      by_cases hc0 : x2 = (0 : Int32)
      · have hf := zif_t hc0 hf
        cases hf
        exact fr
      have hf := zif_f hc0 hf
      by_cases hc1 : x2 = (1 : Int32)
      · have hf := zif_t hc1 hf
        cases hf
        exact fr
      have hf := zif_f hc1 hf
      by_cases hc2 : x2 = (2 : Int32)
      · have hf := zif_t hc2 hf
        cases hf
        exact fr
      have hf := zif_f hc2 hf
      by_cases hc3 : x2 = (3 : Int32)
      · have hf := zif_t hc3 hf
        cases hf
        exact fr
      have hf := zif_f hc3 hf
      cases hf
      exact fr
    · skip
      cases hf
      exact fr
  · skip
    cases hf
    exact fr
end
section
abbrev md_X1_untell : List Nat := [38, 39, 40]
variable {q : Int32 × zH}
theorem m_X1_untell : ∀ (h0 : zH) {q : Int32 × zH}, f_X1_untell h0 = some q → ∀ c, c ∉ md_X1_untell → q.2 c = h0 c := by
  intro h q hf
  unfold f_X1_untell at hf
  have fr : ∀ c, c ∉ md_X1_untell → h c = h c := fun _ _ => rfl
  rcases zif_c hf with ⟨hc, hf⟩ | ⟨hc, hf⟩
  · skip
    cases hf
    exact fr
  · skip
    obtain ⟨h1, eh1, hf⟩ := zst_some hf
    have fr : ∀ c, c ∉ md_X1_untell → h1 c = h c := fun c hc9 => (congrFun eh1 c).trans ((zup_ne c (fun z => hc9 (by rw [z]; decide))).trans (fr c hc9))
    obtain ⟨hi, hf⟩ := zck_some hf
    obtain ⟨y2, ey2, hf⟩ := zlt_some hf
    obtain ⟨hi, hf⟩ := zck_some hf
    obtain ⟨hi, hf⟩ := zck_some hf
    obtain ⟨h3, eh3, hf⟩ := zst_some hf
    have fr : ∀ c, c ∉ md_X1_untell → h3 c = h c := fun c hc9 => (congrFun eh3 c).trans ((zup_ne c (fun z => hc9 (by rw [z]; decide))).trans (fr c hc9))
    obtain ⟨hi, hf⟩ := zck_some hf
    obtain ⟨hi, hf⟩ := zck_some hf
    obtain ⟨h4, eh4, hf⟩ := zst_some hf
    have fr : ∀ c, c ∉ md_X1_untell → h4 c = h c := fun c hc9 => (congrFun eh4 c).trans ((zup_ne c (fun z => hc9 (by rw [z]; decide))).trans (fr c hc9))
    cases hf
    exact fr
end
section
abbrev md_X1_tellBetween : List Nat := [19, 21, 38, 39, 40, 42, 43]
theorem sm_X1_tellBetween_X1_findOf : ∀ c ∈ md_X1_findOf, c ∈ md_X1_tellBetween := by decide
theorem sm_X1_tellBetween_X11_pairOf : ∀ c ∈ md_X11_pairOf, c ∈ md_X1_tellBetween := by decide
variable {q : Int32 × zH}
theorem m_X1_tellBetween_19   : ∀ (h0 : zH), f_X1_tellBetween_19  h0 = some q → ∀ c, c ∉ md_X1_tellBetween → q.2 c = h0 c := by
  intro h hf
  unfold f_X1_tellBetween_19 at hf
  have fr : ∀ c, c ∉ md_X1_tellBetween → h c = h c := fun _ _ => rfl
  cases hf
  exact fr
theorem m_X1_tellBetween : ∀ (h0 : zH) (x1 : Int32) (x2 : Int32) {q : Int32 × zH}, f_X1_tellBetween x1 x2 h0 = some q → ∀ c, c ∉ md_X1_tellBetween → q.2 c = h0 c := by
  intro h x1 x2 q hf
  unfold f_X1_tellBetween at hf
  have fr : ∀ c, c ∉ md_X1_tellBetween → h c = h c := fun _ _ => rfl
  rcases zif_c hf with ⟨hc, hf⟩ | ⟨hc, hf⟩
  · skip
    exact fun c hc9 => (m_X1_tellBetween_19  _ hf c hc9).trans (fr c hc9)
  · skip
    rcases zif_c hf with ⟨hc, hf⟩ | ⟨hc, hf⟩
    · skip
      exact fun c hc9 => (m_X1_tellBetween_19  _ hf c hc9).trans (fr c hc9)
    · skip
      rcases zif_n hf with ⟨hc, hf⟩ | ⟨hc, hf⟩
      · skip
        obtain ⟨hi, hf⟩ := zck_some hf
        obtain ⟨hi, hf⟩ := zck_some hf
        obtain ⟨r1, h2, er1, hf⟩ := zbd_some hf
        have fr : ∀ c, c ∉ md_X1_tellBetween → h2 c = h c := fun c hc9 => (m_X1_findOf _ _ _ er1 c (fun z => hc9 (sm_X1_tellBetween_X1_findOf c z))).trans (fr c hc9)
        rcases zif_n hf with ⟨hc, hf⟩ | ⟨hc, hf⟩
        · skip
          obtain ⟨r3, h4, er3, hf⟩ := zbd_some hf
          have fr : ∀ c, c ∉ md_X1_tellBetween → h4 c = h c := fun c hc9 => (m_X11_pairOf _ _ _ er3 c (fun z => hc9 (sm_X1_tellBetween_X11_pairOf c z))).trans (fr c hc9)
          obtain ⟨hi, hf⟩ := zck_some hf
          obtain ⟨h5, eh5, hf⟩ := zst_some hf
          have fr : ∀ c, c ∉ md_X1_tellBetween → h5 c = h c := fun c hc9 => (congrFun eh5 c).trans ((zup_ne c (fun z => hc9 (by rw [z]; decide))).trans (fr c hc9))
          obtain ⟨hi, hf⟩ := zck_some hf
          obtain ⟨h6, eh6, hf⟩ := zst_some hf
          have fr : ∀ c, c ∉ md_X1_tellBetween → h6 c = h c := fun c hc9 => (congrFun eh6 c).trans ((zup_ne c (fun z => hc9 (by rw [z]; decide))).trans (fr c hc9))
          obtain ⟨h7, eh7, hf⟩ := zst_some hf
          have fr : ∀ c, c ∉ md_X1_tellBetween → h7 c = h c := fun c hc9 => (congrFun eh7 c).trans ((zup_ne c (fun z => hc9 (by rw [z]; decide))).trans (fr c hc9))
          obtain ⟨hi, hf⟩ := zck_some hf
          obtain ⟨hi, hf⟩ := zck_some hf
          obtain ⟨h8, eh8, hf⟩ := zst_some hf
          have fr : ∀ c, c ∉ md_X1_tellBetween → h8 c = h c := fun c hc9 => (congrFun eh8 c).trans ((zup_ne c (fun z => hc9 (by rw [z]; decide))).trans (fr c hc9))
          obtain ⟨hi, hf⟩ := zck_some hf
          obtain ⟨h9, eh9, hf⟩ := zst_some hf
          have fr : ∀ c, c ∉ md_X1_tellBetween → h9 c = h c := fun c hc9 => (congrFun eh9 c).trans ((zup_ne c (fun z => hc9 (by rw [z]; decide))).trans (fr c hc9))
          cases hf
          exact fr
        · skip
          cases hf
          exact fr
      · skip
        exact fun c hc9 => (m_X1_tellBetween_19  _ hf c hc9).trans (fr c hc9)
end
section
abbrev md_X1_merryOf_r10 : List Nat := [19, 21, 38, 39, 40, 42, 43]
theorem sm_X1_merryOf_r10_X1_untell : ∀ c ∈ md_X1_untell, c ∈ md_X1_merryOf_r10 := by decide
theorem sm_X1_merryOf_r10_X1_tellBetween : ∀ c ∈ md_X1_tellBetween, c ∈ md_X1_merryOf_r10 := by decide
variable {q : Int32 × zH}
theorem m_X1_merryOf_r10_49   : ∀ n, ∀ (h0 : zH) (x2 : Int32) (x3 : Int32) (x4 : Int32), f_X1_merryOf_r10_49  n x2 x3 x4 h0 = some q → ∀ c, c ∉ md_X1_merryOf_r10 → q.2 c = h0 c := by
  intro n
  induction n with
  | zero => intro h x2 x3 x4 hf; cases hf
  | succ n ih =>
    intro h x2 x3 x4 hf
    rw [f_X1_merryOf_r10_49] at hf
    have fr : ∀ c, c ∉ md_X1_merryOf_r10 → h c = h c := fun _ _ => rfl
    rcases zif_c hf with ⟨hc, hf⟩ | ⟨hc, hf⟩
    · skip
      cases hf
      exact fr
    · skip
      obtain ⟨r1, h2, er1, hf⟩ := zbd_some hf
      have fr : ∀ c, c ∉ md_X1_merryOf_r10 → h2 c = h c := fun c hc9 => (m_X1_untell _ er1 c (fun z => hc9 (sm_X1_merryOf_r10_X1_untell c z))).trans (fr c hc9)
      obtain ⟨y3, ey3, hf⟩ := zlt_some hf
      exact fun c hc9 => (ih _ _ _ _ hf c hc9).trans (fr c hc9)
theorem m_X1_merryOf_r10_34 {k5 : Int32 → Int32 → Int32 → zH → zR} (hk5 : ∀ (h0 : zH) (x2 : Int32) (x3 : Int32) (x4 : Int32), k5 x2 x3 x4 h0 = some q → ∀ c, c ∉ md_X1_merryOf_r10 → q.2 c = h0 c) : ∀ (h0 : zH) (x2 : Int32) (x4 : Int32) (s0 : Int32) (s2 : Int32) (s4 : Int32), f_X1_merryOf_r10_34 k5 x2 x4 s0 s2 s4 h0 = some q → ∀ c, c ∉ md_X1_merryOf_r10 → q.2 c = h0 c := by
  intro h x2 x4 s0 s2 s4 hf
  unfold f_X1_merryOf_r10_34 at hf
  have fr : ∀ c, c ∉ md_X1_merryOf_r10 → h c = h c := fun _ _ => rfl
  obtain ⟨hi, hf⟩ := zck_some hf
  obtain ⟨r4, h5, er4, hf⟩ := zbd_some hf
  have fr : ∀ c, c ∉ md_X1_merryOf_r10 → h5 c = h c := fun c hc9 => (m_X1_tellBetween _ _ _ er4 c (fun z => hc9 (sm_X1_merryOf_r10_X1_tellBetween c z))).trans (fr c hc9)
  obtain ⟨y6, ey6, hf⟩ := zlt_some hf
  obtain ⟨y7, ey7, hf⟩ := zlt_some hf
  exact fun c hc9 => (hk5 _ _ _ _ hf c hc9).trans (fr c hc9)
theorem m_X1_merryOf_r10_5   : ∀ n, ∀ (h0 : zH) (x2 : Int32) (x3 : Int32) (x4 : Int32), f_X1_merryOf_r10_5  n x2 x3 x4 h0 = some q → ∀ c, c ∉ md_X1_merryOf_r10 → q.2 c = h0 c := by
  intro n
  induction n with
  | zero => intro h x2 x3 x4 hf; cases hf
  | succ n ih =>
    intro h x2 x3 x4 hf
    rw [f_X1_merryOf_r10_5] at hf
    have fr : ∀ c, c ∉ md_X1_merryOf_r10 → h c = h c := fun _ _ => rfl
    rcases zif_c hf with ⟨hc, hf⟩ | ⟨hc, hf⟩
    · skip
      exact fun c hc9 => (m_X1_merryOf_r10_49  zN _ _ _ _ hf c hc9).trans (fr c hc9)
    · skip
      obtain ⟨hi, hf⟩ := zck_some hf
      rcases zif_c hf with ⟨hc, hf⟩ | ⟨hc, hf⟩
      · skip
        exact fun c hc9 => (m_X1_merryOf_r10_34 ih _ _ _ _ _ _ hf c hc9).trans (fr c hc9)
      · skip
        exact fun c hc9 => (m_X1_merryOf_r10_34 ih _ _ _ _ _ _ hf c hc9).trans (fr c hc9)
theorem m_X1_merryOf_r10 : ∀ (h0 : zH) (x2 : Int32) {q : Int32 × zH}, f_X1_merryOf_r10 x2 h0 = some q → ∀ c, c ∉ md_X1_merryOf_r10 → q.2 c = h0 c := by
  intro h x2 q hf
  unfold f_X1_merryOf_r10 at hf
  have fr : ∀ c, c ∉ md_X1_merryOf_r10 → h c = h c := fun _ _ => rfl
  exact fun c hc9 => (m_X1_merryOf_r10_5  zN _ _ _ _ hf c hc9).trans (fr c hc9)
end
section
abbrev md_X11_merry : List Nat := [19, 21, 38, 39, 40, 41, 42, 43]
theorem sm_X11_merry_X1_begin : ∀ c ∈ md_X1_begin, c ∈ md_X11_merry := by decide
theorem sm_X11_merry_X1_merryOf_r10 : ∀ c ∈ md_X1_merryOf_r10, c ∈ md_X11_merry := by decide
variable {q : Int32 × zH}
theorem m_X11_merry : ∀ (h0 : zH) {q : Int32 × zH}, f_X11_merry h0 = some q → ∀ c, c ∉ md_X11_merry → q.2 c = h0 c := by
  intro h q hf
  unfold f_X11_merry at hf
  have fr : ∀ c, c ∉ md_X11_merry → h c = h c := fun _ _ => rfl
  obtain ⟨r1, h2, er1, hf⟩ := zbd_some hf
  have fr : ∀ c, c ∉ md_X11_merry → h2 c = h c := fun c hc9 => (m_X1_begin _ er1 c (fun z => hc9 (sm_X11_merry_X1_begin c z))).trans (fr c hc9)
  obtain ⟨r3, h4, er3, hf⟩ := zbd_some hf
  have fr : ∀ c, c ∉ md_X11_merry → h4 c = h c := fun c hc9 => (m_X1_merryOf_r10 _ _ er3 c (fun z => hc9 (sm_X11_merry_X1_merryOf_r10 c z))).trans (fr c hc9)
  cases hf
  exact fr
end
section
abbrev md_X11_silent : List Nat := [19, 21, 38, 39, 41]
theorem sm_X11_silent_X11_isBelow : ∀ c ∈ md_X11_isBelow, c ∈ md_X11_silent := by decide
theorem sm_X11_silent_X1_begin : ∀ c ∈ md_X1_begin, c ∈ md_X11_silent := by decide
theorem sm_X11_silent_X1_findOf : ∀ c ∈ md_X1_findOf, c ∈ md_X11_silent := by decide
variable {q : Int32 × zH}
theorem m_X11_silent_51 {k22 : Int32 → Int32 → Int32 → zH → zR} (hk22 : ∀ (h0 : zH) (x1 : Int32) (x2 : Int32) (x3 : Int32), k22 x1 x2 x3 h0 = some q → ∀ c, c ∉ md_X11_silent → q.2 c = h0 c) : ∀ (h0 : zH) (x1 : Int32) (x2 : Int32) (x3 : Int32), f_X11_silent_51 k22 x1 x2 x3 h0 = some q → ∀ c, c ∉ md_X11_silent → q.2 c = h0 c := by
  intro h x1 x2 x3 hf
  unfold f_X11_silent_51 at hf
  have fr : ∀ c, c ∉ md_X11_silent → h c = h c := fun _ _ => rfl
  obtain ⟨y5, ey5, hf⟩ := zlt_some hf
  exact fun c hc9 => (hk22 _ _ _ _ hf c hc9).trans (fr c hc9)
theorem m_X11_silent_22   : ∀ n, ∀ (h0 : zH) (x1 : Int32) (x2 : Int32) (x3 : Int32), f_X11_silent_22  n x1 x2 x3 h0 = some q → ∀ c, c ∉ md_X11_silent → q.2 c = h0 c := by
  intro n
  induction n with
  | zero => intro h x1 x2 x3 hf; cases hf
  | succ n ih =>
    intro h x1 x2 x3 hf
    rw [f_X11_silent_22] at hf
    have fr : ∀ c, c ∉ md_X11_silent → h c = h c := fun _ _ => rfl
    rcases zif_c hf with ⟨hc, hf⟩ | ⟨hc, hf⟩
    · skip
      cases hf
      exact fr
    · skip
      rcases zif_c hf with ⟨hc, hf⟩ | ⟨hc, hf⟩
      · skip
        exact fun c hc9 => (m_X11_silent_51 ih _ _ _ _ hf c hc9).trans (fr c hc9)
      · skip
        obtain ⟨r6, h7, er6, hf⟩ := zbd_some hf
        have fr : ∀ c, c ∉ md_X11_silent → h7 c = h c := fun c hc9 => (m_X1_findOf _ _ _ er6 c (fun z => hc9 (sm_X11_silent_X1_findOf c z))).trans (fr c hc9)
        rcases zif_n hf with ⟨hc, hf⟩ | ⟨hc, hf⟩
        · skip
          exact fun c hc9 => (m_X11_silent_51 ih _ _ _ _ hf c hc9).trans (fr c hc9)
        · skip
          obtain ⟨y8, ey8, hf⟩ := zlt_some hf
          exact fun c hc9 => (m_X11_silent_51 ih _ _ _ _ hf c hc9).trans (fr c hc9)
theorem m_X11_silent : ∀ (h0 : zH) (x1 : Int32) {q : Int32 × zH}, f_X11_silent x1 h0 = some q → ∀ c, c ∉ md_X11_silent → q.2 c = h0 c := by
  intro h x1 q hf
  unfold f_X11_silent at hf
  have fr : ∀ c, c ∉ md_X11_silent → h c = h c := fun _ _ => rfl
  obtain ⟨r1, h2, er1, hf⟩ := zbd_some hf
  have fr : ∀ c, c ∉ md_X11_silent → h2 c = h c := fun c hc9 => (m_X11_isBelow _ _ _ er1 c (fun z => hc9 (sm_X11_silent_X11_isBelow c z))).trans (fr c hc9)
  rcases zif_n hf with ⟨hc, hf⟩ | ⟨hc, hf⟩
  · skip
    obtain ⟨r3, h4, er3, hf⟩ := zbd_some hf
    have fr : ∀ c, c ∉ md_X11_silent → h4 c = h c := fun c hc9 => (m_X1_begin _ er3 c (fun z => hc9 (sm_X11_silent_X1_begin c z))).trans (fr c hc9)
    exact fun c hc9 => (m_X11_silent_22  zN _ _ _ _ hf c hc9).trans (fr c hc9)
  · skip
    cases hf
    exact fr
end
section
abbrev md_X6_keep_r1 : List Nat := [22, 23, 26, 27, 28]
variable {q : Int32 × zH}
theorem m_X6_keep_r1 : ∀ (h0 : zH) {q : Int32 × zH}, f_X6_keep_r1 h0 = some q → ∀ c, c ∉ md_X6_keep_r1 → q.2 c = h0 c := by
  intro h q hf
  unfold f_X6_keep_r1 at hf
  have fr : ∀ c, c ∉ md_X6_keep_r1 → h c = h c := fun _ _ => rfl
  obtain ⟨h1, eh1, hf⟩ := zst_some hf
  have fr : ∀ c, c ∉ md_X6_keep_r1 → h1 c = h c := fun c hc9 => (congrFun eh1 c).trans ((zup_ne c (fun z => hc9 (by rw [z]; decide))).trans (fr c hc9))
  obtain ⟨h2, eh2, hf⟩ := zst_some hf
  have fr : ∀ c, c ∉ md_X6_keep_r1 → h2 c = h c := fun c hc9 => (congrFun eh2 c).trans ((zup_ne c (fun z => hc9 (by rw [z]; decide))).trans (fr c hc9))
  obtain ⟨hi, hf⟩ := zck_some hf
  obtain ⟨h3, eh3, hf⟩ := zst_some hf
  have fr : ∀ c, c ∉ md_X6_keep_r1 → h3 c = h c := fun c hc9 => (congrFun eh3 c).trans ((zup_ne c (fun z => hc9 (by rw [z]; decide))).trans (fr c hc9))
  obtain ⟨hi, hf⟩ := zck_some hf
  obtain ⟨h4, eh4, hf⟩ := zst_some hf
  have fr : ∀ c, c ∉ md_X6_keep_r1 → h4 c = h c := fun c hc9 => (congrFun eh4 c).trans ((zup_ne c (fun z => hc9 (by rw [z]; decide))).trans (fr c hc9))
  obtain ⟨hi, hf⟩ := zck_some hf
  obtain ⟨h5, eh5, hf⟩ := zst_some hf
  have fr : ∀ c, c ∉ md_X6_keep_r1 → h5 c = h c := fun c hc9 => (congrFun eh5 c).trans ((zup_ne c (fun z => hc9 (by rw [z]; decide))).trans (fr c hc9))
  obtain ⟨hi, hf⟩ := zcc_some hf
  obtain ⟨h6, eh6, hf⟩ := zst_some hf
  have fr : ∀ c, c ∉ md_X6_keep_r1 → h6 c = h c := fun c hc9 => (congrFun eh6 c).trans ((zcp_ne c (fun z => hc9 (by rw [z]; decide))).trans (fr c hc9))
  cases hf
  exact fr
end
section
abbrev md_X6_note : List Nat := [23, 24, 25]
variable {q : Int32 × zH}
theorem m_X6_note : ∀ (h0 : zH) (x1 : Int32) (x2 : Int32) {q : Int32 × zH}, f_X6_note x1 x2 h0 = some q → ∀ c, c ∉ md_X6_note → q.2 c = h0 c := by
  intro h x1 x2 q hf
  unfold f_X6_note at hf
  have fr : ∀ c, c ∉ md_X6_note → h c = h c := fun _ _ => rfl
  obtain ⟨hi, hf⟩ := zck_some hf
  rcases zif_c hf with ⟨hc, hf⟩ | ⟨hc, hf⟩
  · skip
    obtain ⟨hi, hf⟩ := zck_some hf
    obtain ⟨y1, ey1, hf⟩ := zlt_some hf
    obtain ⟨hi, hf⟩ := zck_some hf
    obtain ⟨h2, eh2, hf⟩ := zst_some hf
    have fr : ∀ c, c ∉ md_X6_note → h2 c = h c := fun c hc9 => (congrFun eh2 c).trans ((zup_ne c (fun z => hc9 (by rw [z]; decide))).trans (fr c hc9))
    obtain ⟨hi, hf⟩ := zck_some hf
    obtain ⟨h3, eh3, hf⟩ := zst_some hf
    have fr : ∀ c, c ∉ md_X6_note → h3 c = h c := fun c hc9 => (congrFun eh3 c).trans ((zup_ne c (fun z => hc9 (by rw [z]; decide))).trans (fr c hc9))
    obtain ⟨hi, hf⟩ := zck_some hf
    obtain ⟨hi, hf⟩ := zck_some hf
    obtain ⟨h4, eh4, hf⟩ := zst_some hf
    have fr : ∀ c, c ∉ md_X6_note → h4 c = h c := fun c hc9 => (congrFun eh4 c).trans ((zup_ne c (fun z => hc9 (by rw [z]; decide))).trans (fr c hc9))
    cases hf
    exact fr
  · skip
    cases hf
    exact fr
end
section
abbrev md_X0_write_r38 : List Nat := [11, 15]
variable {q : Int32 × zH}
theorem m_X0_write_r38 : ∀ (h0 : zH) (x2 : Int32) {q : Int32 × zH}, f_X0_write_r38 x2 h0 = some q → ∀ c, c ∉ md_X0_write_r38 → q.2 c = h0 c := by
  intro h x2 q hf
  unfold f_X0_write_r38 at hf
  have fr : ∀ c, c ∉ md_X0_write_r38 → h c = h c := fun _ _ => rfl
  rcases zif_c hf with ⟨hc, hf⟩ | ⟨hc, hf⟩
  · skip
    obtain ⟨y1, ey1, hf⟩ := zlt_some hf
    obtain ⟨hi, hf⟩ := zck_some hf
    obtain ⟨h2, eh2, hf⟩ := zst_some hf
    have fr : ∀ c, c ∉ md_X0_write_r38 → h2 c = h c := fun c hc9 => (congrFun eh2 c).trans ((zup_ne c (fun z => hc9 (by rw [z]; decide))).trans (fr c hc9))
    obtain ⟨hi, hf⟩ := zck_some hf
    obtain ⟨h3, eh3, hf⟩ := zst_some hf
    have fr : ∀ c, c ∉ md_X0_write_r38 → h3 c = h c := fun c hc9 => (congrFun eh3 c).trans ((zup_ne c (fun z => hc9 (by rw [z]; decide))).trans (fr c hc9))
    obtain ⟨hi, hf⟩ := zck_some hf
    obtain ⟨h4, eh4, hf⟩ := zst_some hf
    have fr : ∀ c, c ∉ md_X0_write_r38 → h4 c = h c := fun c hc9 => (congrFun eh4 c).trans ((zup_ne c (fun z => hc9 (by rw [z]; decide))).trans (fr c hc9))
    obtain ⟨hi, hf⟩ := zck_some hf
    obtain ⟨h5, eh5, hf⟩ := zst_some hf
    have fr : ∀ c, c ∉ md_X0_write_r38 → h5 c = h c := fun c hc9 => (congrFun eh5 c).trans ((zup_ne c (fun z => hc9 (by rw [z]; decide))).trans (fr c hc9))
    obtain ⟨hi, hf⟩ := zck_some hf
    obtain ⟨h6, eh6, hf⟩ := zst_some hf
    have fr : ∀ c, c ∉ md_X0_write_r38 → h6 c = h c := fun c hc9 => (congrFun eh6 c).trans ((zup_ne c (fun z => hc9 (by rw [z]; decide))).trans (fr c hc9))
    obtain ⟨hi, hf⟩ := zck_some hf
    obtain ⟨h7, eh7, hf⟩ := zst_some hf
    have fr : ∀ c, c ∉ md_X0_write_r38 → h7 c = h c := fun c hc9 => (congrFun eh7 c).trans ((zup_ne c (fun z => hc9 (by rw [z]; decide))).trans (fr c hc9))
    obtain ⟨h8, eh8, hf⟩ := zst_some hf
    have fr : ∀ c, c ∉ md_X0_write_r38 → h8 c = h c := fun c hc9 => (congrFun eh8 c).trans ((zup_ne c (fun z => hc9 (by rw [z]; decide))).trans (fr c hc9))
    cases hf
    exact fr
  · skip
    cases hf
    exact fr
end
section
abbrev md_X4_draw : List Nat := [1]
variable {q : Int32 × zH}
theorem m_X4_draw : ∀ (h0 : zH) (x1 : Int32) {q : Int32 × zH}, f_X4_draw x1 h0 = some q → ∀ c, c ∉ md_X4_draw → q.2 c = h0 c := by
  intro h x1 q hf
  unfold f_X4_draw at hf
  have fr : ∀ c, c ∉ md_X4_draw → h c = h c := fun _ _ => rfl
  obtain ⟨h1, eh1, hf⟩ := zst_some hf
  have fr : ∀ c, c ∉ md_X4_draw → h1 c = h c := fun c hc9 => (congrFun eh1 c).trans ((zup_ne c (fun z => hc9 (by rw [z]; decide))).trans (fr c hc9))
  rcases zif_c hf with ⟨hc, hf⟩ | ⟨hc, hf⟩
  · skip
    cases hf
    exact fr
  · skip
    obtain ⟨hz, hf⟩ := znz_some hf
    cases hf
    exact fr
end
section
abbrev md_X11_tellFound : List Nat := [1, 11, 12, 13, 14, 15, 23, 24, 25, 39]
theorem sm_X11_tellFound_X11_pairOf : ∀ c ∈ md_X11_pairOf, c ∈ md_X11_tellFound := by decide
theorem sm_X11_tellFound_X6_note : ∀ c ∈ md_X6_note, c ∈ md_X11_tellFound := by decide
theorem sm_X11_tellFound_X0_write_r38 : ∀ c ∈ md_X0_write_r38, c ∈ md_X11_tellFound := by decide
theorem sm_X11_tellFound_X3_quartersOf : ∀ c ∈ md_X3_quartersOf, c ∈ md_X11_tellFound := by decide
theorem sm_X11_tellFound_X4_draw : ∀ c ∈ md_X4_draw, c ∈ md_X11_tellFound := by decide
variable {q : Int32 × zH}
theorem m_X11_tellFound_136   : ∀ n, ∀ (h0 : zH) (x4 : Int32) (x5 : Int32), f_X11_tellFound_136  n x4 x5 h0 = some q → ∀ c, c ∉ md_X11_tellFound → q.2 c = h0 c := by
  intro n
  induction n with
  | zero => intro h x4 x5 hf; cases hf
  | succ n ih =>
    intro h x4 x5 hf
    rw [f_X11_tellFound_136] at hf
    have fr : ∀ c, c ∉ md_X11_tellFound → h c = h c := fun _ _ => rfl
    rcases zif_c hf with ⟨hc, hf⟩ | ⟨hc, hf⟩
    · skip
      cases hf
      exact fr
    · skip
      obtain ⟨r10, h11, er10, hf⟩ := zbd_some hf
      have fr : ∀ c, c ∉ md_X11_tellFound → h11 c = h c := fun c hc9 => (m_X3_quartersOf _ _ _ er10 c (fun z => hc9 (sm_X11_tellFound_X3_quartersOf c z))).trans (fr c hc9)
      obtain ⟨r12, h13, er12, hf⟩ := zbd_some hf
      have fr : ∀ c, c ∉ md_X11_tellFound → h13 c = h c := fun c hc9 => (m_X3_quartersOf _ _ _ er12 c (fun z => hc9 (sm_X11_tellFound_X3_quartersOf c z))).trans (fr c hc9)
      obtain ⟨y14, ey14, hf⟩ := zlt_some hf
      obtain ⟨hi, hf⟩ := zck_some hf
      obtain ⟨hi, hf⟩ := zck_some hf
      obtain ⟨h15, eh15, hf⟩ := zst_some hf
      have fr : ∀ c, c ∉ md_X11_tellFound → h15 c = h c := fun c hc9 => (congrFun eh15 c).trans ((zup_ne c (fun z => hc9 (by rw [z]; decide))).trans (fr c hc9))
      obtain ⟨y16, ey16, hf⟩ := zlt_some hf
      exact fun c hc9 => (ih _ _ _ hf c hc9).trans (fr c hc9)
theorem m_X11_tellFound_121   : ∀ (h0 : zH) (s0 : Int32), f_X11_tellFound_121  s0 h0 = some q → ∀ c, c ∉ md_X11_tellFound → q.2 c = h0 c := by
  intro h s0 hf
  unfold f_X11_tellFound_121 at hf
  have fr : ∀ c, c ∉ md_X11_tellFound → h c = h c := fun _ _ => rfl
  obtain ⟨r8, h9, er8, hf⟩ := zbd_some hf
  have fr : ∀ c, c ∉ md_X11_tellFound → h9 c = h c := fun c hc9 => (m_X0_write_r38 _ _ er8 c (fun z => hc9 (sm_X11_tellFound_X0_write_r38 c z))).trans (fr c hc9)
  exact fun c hc9 => (m_X11_tellFound_136  zN _ _ _ hf c hc9).trans (fr c hc9)
theorem m_X11_tellFound_105   : ∀ (h0 : zH) (s0 : Int32), f_X11_tellFound_105  s0 h0 = some q → ∀ c, c ∉ md_X11_tellFound → q.2 c = h0 c := by
  intro h s0 hf
  unfold f_X11_tellFound_105 at hf
  have fr : ∀ c, c ∉ md_X11_tellFound → h c = h c := fun _ _ => rfl
  rcases zif_c hf with ⟨hc, hf⟩ | ⟨hc, hf⟩
  · skip
    exact fun c hc9 => (m_X11_tellFound_121  _ _ hf c hc9).trans (fr c hc9)
  · skip
    exact fun c hc9 => (m_X11_tellFound_121  _ _ hf c hc9).trans (fr c hc9)
theorem m_X11_tellFound_104   : ∀ (h0 : zH), f_X11_tellFound_104  h0 = some q → ∀ c, c ∉ md_X11_tellFound → q.2 c = h0 c := by
  intro h hf
  unfold f_X11_tellFound_104 at hf
  have fr : ∀ c, c ∉ md_X11_tellFound → h c = h c := fun _ _ => rfl
  exact fun c hc9 => (m_X11_tellFound_105  _ _ hf c hc9).trans (fr c hc9)
theorem m_X11_tellFound : ∀ (h0 : zH) {q : Int32 × zH}, f_X11_tellFound h0 = some q → ∀ c, c ∉ md_X11_tellFound → q.2 c = h0 c := by
  intro h q hf
  unfold f_X11_tellFound at hf
  have fr : ∀ c, c ∉ md_X11_tellFound → h c = h c := fun _ _ => rfl
  obtain ⟨r1, h2, er1, hf⟩ := zbd_some hf
  have fr : ∀ c, c ∉ md_X11_tellFound → h2 c = h c := fun c hc9 => (m_X11_pairOf _ _ _ er1 c (fun z => hc9 (sm_X11_tellFound_X11_pairOf c z))).trans (fr c hc9)
  obtain ⟨hi, hf⟩ := zck_some hf
  obtain ⟨r3, h4, er3, hf⟩ := zbd_some hf
  have fr : ∀ c, c ∉ md_X11_tellFound → h4 c = h c := fun c hc9 => (m_X6_note _ _ _ er3 c (fun z => hc9 (sm_X11_tellFound_X6_note c z))).trans (fr c hc9)
  obtain ⟨hi, hf⟩ := zck_some hf
  obtain ⟨hi, hf⟩ := zck_some hf
  obtain ⟨h5, eh5, hf⟩ := zst_some hf
  have fr : ∀ c, c ∉ md_X11_tellFound → h5 c = h c := fun c hc9 => (congrFun eh5 c).trans ((zup_ne c (fun z => hc9 (by rw [z]; decide))).trans (fr c hc9))
  obtain ⟨hi, hf⟩ := zck_some hf
  obtain ⟨h6, eh6, hf⟩ := zst_some hf
  have fr : ∀ c, c ∉ md_X11_tellFound → h6 c = h c := fun c hc9 => (congrFun eh6 c).trans ((zup_ne c (fun z => hc9 (by rw [z]; decide))).trans (fr c hc9))
  obtain ⟨hi, hf⟩ := zck_some hf
  obtain ⟨h7, eh7, hf⟩ := zst_some hf
  have fr : ∀ c, c ∉ md_X11_tellFound → h7 c = h c := fun c hc9 => (congrFun eh7 c).trans ((zup_ne c (fun z => hc9 (by rw [z]; decide))).trans (fr c hc9))
  rcases zif_c hf with ⟨hc, hf⟩ | ⟨hc, hf⟩
  · skip
    exact fun c hc9 => (m_X11_tellFound_104  _ hf c hc9).trans (fr c hc9)
  · skip
    obtain ⟨r17, h18, er17, hf⟩ := zbd_some hf
    have fr : ∀ c, c ∉ md_X11_tellFound → h18 c = h c := fun c hc9 => (m_X4_draw _ _ er17 c (fun z => hc9 (sm_X11_tellFound_X4_draw c z))).trans (fr c hc9)
    rcases zif_c hf with ⟨hc, hf⟩ | ⟨hc, hf⟩
    · skip
      exact fun c hc9 => (m_X11_tellFound_104  _ hf c hc9).trans (fr c hc9)
    · skip
      exact fun c hc9 => (m_X11_tellFound_105  _ _ hf c hc9).trans (fr c hc9)
end
section
abbrev md_X11_spendEvening : List Nat := [1, 11, 12, 13, 14, 15, 19, 21, 22, 23, 24, 25, 26, 27, 28, 38, 39, 41]
theorem sm_X11_spendEvening_X6_keep_r1 : ∀ c ∈ md_X6_keep_r1, c ∈ md_X11_spendEvening := by decide
theorem sm_X11_spendEvening_X1_begin : ∀ c ∈ md_X1_begin, c ∈ md_X11_spendEvening := by decide
theorem sm_X11_spendEvening_X9_beside : ∀ c ∈ md_X9_beside, c ∈ md_X11_spendEvening := by decide
theorem sm_X11_spendEvening_X1_findBetween : ∀ c ∈ md_X1_findBetween, c ∈ md_X11_spendEvening := by decide
theorem sm_X11_spendEvening_X11_tellFound : ∀ c ∈ md_X11_tellFound, c ∈ md_X11_spendEvening := by decide
variable {q : Int32 × zH}
theorem m_X11_spendEvening_71 {k30 : Int32 → Int32 → zH → zR} (hk30 : ∀ (h0 : zH) (x1 : Int32) (x3 : Int32), k30 x1 x3 h0 = some q → ∀ c, c ∉ md_X11_spendEvening → q.2 c = h0 c) : ∀ (h0 : zH) (x1 : Int32) (x3 : Int32), f_X11_spendEvening_71 k30 x1 x3 h0 = some q → ∀ c, c ∉ md_X11_spendEvening → q.2 c = h0 c := by
  intro h x1 x3 hf
  unfold f_X11_spendEvening_71 at hf
  have fr : ∀ c, c ∉ md_X11_spendEvening → h c = h c := fun _ _ => rfl
  obtain ⟨y10, ey10, hf⟩ := zlt_some hf
  exact fun c hc9 => (hk30 _ _ _ hf c hc9).trans (fr c hc9)
theorem m_X11_spendEvening_30   : ∀ n, ∀ (h0 : zH) (x1 : Int32) (x3 : Int32), f_X11_spendEvening_30  n x1 x3 h0 = some q → ∀ c, c ∉ md_X11_spendEvening → q.2 c = h0 c := by
  intro n
  induction n with
  | zero => intro h x1 x3 hf; cases hf
  | succ n ih =>
    intro h x1 x3 hf
    rw [f_X11_spendEvening_30] at hf
    have fr : ∀ c, c ∉ md_X11_spendEvening → h c = h c := fun _ _ => rfl
    rcases zif_c hf with ⟨hc, hf⟩ | ⟨hc, hf⟩
    · skip
      obtain ⟨h5, eh5, hf⟩ := zst_some hf
      have fr : ∀ c, c ∉ md_X11_spendEvening → h5 c = h c := fun c hc9 => (congrFun eh5 c).trans ((zup_ne c (fun z => hc9 (by rw [z]; decide))).trans (fr c hc9))
      cases hf
      exact fr
    · skip
      obtain ⟨hi, hf⟩ := zck_some hf
      obtain ⟨r6, h7, er6, hf⟩ := zbd_some hf
      have fr : ∀ c, c ∉ md_X11_spendEvening → h7 c = h c := fun c hc9 => (m_X9_beside _ _ er6 c (fun z => hc9 (sm_X11_spendEvening_X9_beside c z))).trans (fr c hc9)
      obtain ⟨hi, hf⟩ := zck_some hf
      obtain ⟨r8, h9, er8, hf⟩ := zbd_some hf
      have fr : ∀ c, c ∉ md_X11_spendEvening → h9 c = h c := fun c hc9 => (m_X1_findBetween _ _ _ er8 c (fun z => hc9 (sm_X11_spendEvening_X1_findBetween c z))).trans (fr c hc9)
      rcases zif_c hf with ⟨hc, hf⟩ | ⟨hc, hf⟩
      · skip
        exact fun c hc9 => (m_X11_spendEvening_71 ih _ _ _ hf c hc9).trans (fr c hc9)
      · skip
        obtain ⟨r11, h12, er11, hf⟩ := zbd_some hf
        have fr : ∀ c, c ∉ md_X11_spendEvening → h12 c = h c := fun c hc9 => (m_X11_tellFound _ er11 c (fun z => hc9 (sm_X11_spendEvening_X11_tellFound c z))).trans (fr c hc9)
        obtain ⟨y13, ey13, hf⟩ := zlt_some hf
        exact fun c hc9 => (m_X11_spendEvening_71 ih _ _ _ hf c hc9).trans (fr c hc9)
theorem m_X11_spendEvening : ∀ (h0 : zH) {q : Int32 × zH}, f_X11_spendEvening h0 = some q → ∀ c, c ∉ md_X11_spendEvening → q.2 c = h0 c := by
  intro h q hf
  unfold f_X11_spendEvening at hf
  have fr : ∀ c, c ∉ md_X11_spendEvening → h c = h c := fun _ _ => rfl
  obtain ⟨r1, h2, er1, hf⟩ := zbd_some hf
  have fr : ∀ c, c ∉ md_X11_spendEvening → h2 c = h c := fun c hc9 => (m_X6_keep_r1 _ er1 c (fun z => hc9 (sm_X11_spendEvening_X6_keep_r1 c z))).trans (fr c hc9)
  obtain ⟨r3, h4, er3, hf⟩ := zbd_some hf
  have fr : ∀ c, c ∉ md_X11_spendEvening → h4 c = h c := fun c hc9 => (m_X1_begin _ er3 c (fun z => hc9 (sm_X11_spendEvening_X1_begin c z))).trans (fr c hc9)
  exact fun c hc9 => (m_X11_spendEvening_30  zN _ _ _ hf c hc9).trans (fr c hc9)
end
section
abbrev md_X11_evenings : List Nat := [1, 11, 12, 13, 14, 15, 19, 21, 22, 23, 24, 25, 26, 27, 28, 38, 39, 41]
theorem sm_X11_evenings_X11_spendEvening : ∀ c ∈ md_X11_spendEvening, c ∈ md_X11_evenings := by decide
variable {q : Int32 × zH}
theorem m_X11_evenings_29   : ∀ (h0 : zH), f_X11_evenings_29  h0 = some q → ∀ c, c ∉ md_X11_evenings → q.2 c = h0 c := by
  intro h hf
  unfold f_X11_evenings_29 at hf
  have fr : ∀ c, c ∉ md_X11_evenings → h c = h c := fun _ _ => rfl
  cases hf
  exact fr
theorem m_X11_evenings_35   : ∀ n, ∀ (h0 : zH) (x1 : Int32) (x2 : Int32) (x3 : Int32), f_X11_evenings_35  n x1 x2 x3 h0 = some q → ∀ c, c ∉ md_X11_evenings → q.2 c = h0 c := by
  intro n
  induction n with
  | zero => intro h x1 x2 x3 hf; cases hf
  | succ n ih =>
    intro h x1 x2 x3 hf
    rw [f_X11_evenings_35] at hf
    have fr : ∀ c, c ∉ md_X11_evenings → h c = h c := fun _ _ => rfl
    rcases zif_c hf with ⟨hc, hf⟩ | ⟨hc, hf⟩
    · skip
      cases hf
      exact fr
    · skip
      obtain ⟨r1, h2, er1, hf⟩ := zbd_some hf
      have fr : ∀ c, c ∉ md_X11_evenings → h2 c = h c := fun c hc9 => (m_X11_spendEvening _ er1 c (fun z => hc9 (sm_X11_evenings_X11_spendEvening c z))).trans (fr c hc9)
      obtain ⟨y3, ey3, hf⟩ := zlt_some hf
      obtain ⟨y4, ey4, hf⟩ := zlt_some hf
      exact fun c hc9 => (ih _ _ _ _ hf c hc9).trans (fr c hc9)
theorem m_X11_evenings : ∀ (h0 : zH) (x1 : Int32) {q : Int32 × zH}, f_X11_evenings x1 h0 = some q → ∀ c, c ∉ md_X11_evenings → q.2 c = h0 c := by
  intro h x1 q hf
  unfold f_X11_evenings at hf
  have fr : ∀ c, c ∉ md_X11_evenings → h c = h c := fun _ _ => rfl
  rcases zif_c hf with ⟨hc, hf⟩ | ⟨hc, hf⟩
  · skip
    exact fun c hc9 => (m_X11_evenings_29  _ hf c hc9).trans (fr c hc9)
  · skip
    rcases zif_c hf with ⟨hc, hf⟩ | ⟨hc, hf⟩
    · skip
      exact fun c hc9 => (m_X11_evenings_29  _ hf c hc9).trans (fr c hc9)
    · skip
      rcases zif_c hf with ⟨hc, hf⟩ | ⟨hc, hf⟩
      · skip
        exact fun c hc9 => (m_X11_evenings_35  zN _ _ _ _ hf c hc9).trans (fr c hc9)
      · skip
        exact fun c hc9 => (m_X11_evenings_29  _ hf c hc9).trans (fr c hc9)
end
section
abbrev md_X1_merryOf_r44 : List Nat := [19, 21, 38, 39, 40, 42, 43]
theorem sm_X1_merryOf_r44_X1_untell : ∀ c ∈ md_X1_untell, c ∈ md_X1_merryOf_r44 := by decide
theorem sm_X1_merryOf_r44_X1_tellBetween : ∀ c ∈ md_X1_tellBetween, c ∈ md_X1_merryOf_r44 := by decide
variable {q : Int32 × zH}
theorem m_X1_merryOf_r44_49   : ∀ n, ∀ (h0 : zH) (x2 : Int32) (x3 : Int32) (x4 : Int32), f_X1_merryOf_r44_49  n x2 x3 x4 h0 = some q → ∀ c, c ∉ md_X1_merryOf_r44 → q.2 c = h0 c := by
  intro n
  induction n with
  | zero => intro h x2 x3 x4 hf; cases hf
  | succ n ih =>
    intro h x2 x3 x4 hf
    rw [f_X1_merryOf_r44_49] at hf
    have fr : ∀ c, c ∉ md_X1_merryOf_r44 → h c = h c := fun _ _ => rfl
    rcases zif_c hf with ⟨hc, hf⟩ | ⟨hc, hf⟩
    · skip
      cases hf
      exact fr
    · skip
      obtain ⟨r1, h2, er1, hf⟩ := zbd_some hf
      have fr : ∀ c, c ∉ md_X1_merryOf_r44 → h2 c = h c := fun c hc9 => (m_X1_untell _ er1 c (fun z => hc9 (sm_X1_merryOf_r44_X1_untell c z))).trans (fr c hc9)
      obtain ⟨y3, ey3, hf⟩ := zlt_some hf
      exact fun c hc9 => (ih _ _ _ _ hf c hc9).trans (fr c hc9)
theorem m_X1_merryOf_r44_34 {k5 : Int32 → Int32 → Int32 → zH → zR} (hk5 : ∀ (h0 : zH) (x2 : Int32) (x3 : Int32) (x4 : Int32), k5 x2 x3 x4 h0 = some q → ∀ c, c ∉ md_X1_merryOf_r44 → q.2 c = h0 c) : ∀ (h0 : zH) (x2 : Int32) (x4 : Int32) (s0 : Int32) (s2 : Int32) (s4 : Int32), f_X1_merryOf_r44_34 k5 x2 x4 s0 s2 s4 h0 = some q → ∀ c, c ∉ md_X1_merryOf_r44 → q.2 c = h0 c := by
  intro h x2 x4 s0 s2 s4 hf
  unfold f_X1_merryOf_r44_34 at hf
  have fr : ∀ c, c ∉ md_X1_merryOf_r44 → h c = h c := fun _ _ => rfl
  obtain ⟨hi, hf⟩ := zck_some hf
  obtain ⟨r4, h5, er4, hf⟩ := zbd_some hf
  have fr : ∀ c, c ∉ md_X1_merryOf_r44 → h5 c = h c := fun c hc9 => (m_X1_tellBetween _ _ _ er4 c (fun z => hc9 (sm_X1_merryOf_r44_X1_tellBetween c z))).trans (fr c hc9)
  obtain ⟨y6, ey6, hf⟩ := zlt_some hf
  obtain ⟨y7, ey7, hf⟩ := zlt_some hf
  exact fun c hc9 => (hk5 _ _ _ _ hf c hc9).trans (fr c hc9)
theorem m_X1_merryOf_r44_5   : ∀ n, ∀ (h0 : zH) (x2 : Int32) (x3 : Int32) (x4 : Int32), f_X1_merryOf_r44_5  n x2 x3 x4 h0 = some q → ∀ c, c ∉ md_X1_merryOf_r44 → q.2 c = h0 c := by
  intro n
  induction n with
  | zero => intro h x2 x3 x4 hf; cases hf
  | succ n ih =>
    intro h x2 x3 x4 hf
    rw [f_X1_merryOf_r44_5] at hf
    have fr : ∀ c, c ∉ md_X1_merryOf_r44 → h c = h c := fun _ _ => rfl
    rcases zif_c hf with ⟨hc, hf⟩ | ⟨hc, hf⟩
    · skip
      exact fun c hc9 => (m_X1_merryOf_r44_49  zN _ _ _ _ hf c hc9).trans (fr c hc9)
    · skip
      obtain ⟨hi, hf⟩ := zck_some hf
      rcases zif_c hf with ⟨hc, hf⟩ | ⟨hc, hf⟩
      · skip
        exact fun c hc9 => (m_X1_merryOf_r44_34 ih _ _ _ _ _ _ hf c hc9).trans (fr c hc9)
      · skip
        exact fun c hc9 => (m_X1_merryOf_r44_34 ih _ _ _ _ _ _ hf c hc9).trans (fr c hc9)
theorem m_X1_merryOf_r44 : ∀ (h0 : zH) (x2 : Int32) {q : Int32 × zH}, f_X1_merryOf_r44 x2 h0 = some q → ∀ c, c ∉ md_X1_merryOf_r44 → q.2 c = h0 c := by
  intro h x2 q hf
  unfold f_X1_merryOf_r44 at hf
  have fr : ∀ c, c ∉ md_X1_merryOf_r44 → h c = h c := fun _ _ => rfl
  exact fun c hc9 => (m_X1_merryOf_r44_5  zN _ _ _ _ hf c hc9).trans (fr c hc9)
end
section
abbrev md_X11_merryChanged : List Nat := [19, 21, 38, 39, 40, 42, 43, 44]
theorem sm_X11_merryChanged_X1_merryOf_r44 : ∀ c ∈ md_X1_merryOf_r44, c ∈ md_X11_merryChanged := by decide
variable {q : Int32 × zH}
theorem m_X11_merryChanged_36   : ∀ (h0 : zH), f_X11_merryChanged_36  h0 = some q → ∀ c, c ∉ md_X11_merryChanged → q.2 c = h0 c := by
  intro h hf
  unfold f_X11_merryChanged_36 at hf
  have fr : ∀ c, c ∉ md_X11_merryChanged → h c = h c := fun _ _ => rfl
  cases hf
  exact fr
theorem m_X11_merryChanged : ∀ (h0 : zH) (x1 : Int32) (x2 : Int32) {q : Int32 × zH}, f_X11_merryChanged x1 x2 h0 = some q → ∀ c, c ∉ md_X11_merryChanged → q.2 c = h0 c := by
  intro h x1 x2 q hf
  unfold f_X11_merryChanged at hf
  have fr : ∀ c, c ∉ md_X11_merryChanged → h c = h c := fun _ _ => rfl
  obtain ⟨hi, hf⟩ := zck_some hf
  obtain ⟨y1, ey1, hf⟩ := zlt_some hf
  obtain ⟨hi, hf⟩ := zck_some hf
  obtain ⟨y2, ey2, hf⟩ := zlt_some hf
  rcases zif_c hf with ⟨hc, hf⟩ | ⟨hc, hf⟩
  · skip
    exact fun c hc9 => (m_X11_merryChanged_36  _ hf c hc9).trans (fr c hc9)
  · skip
    rcases zif_n hf with ⟨hc, hf⟩ | ⟨hc, hf⟩
    · skip
      obtain ⟨hi, hf⟩ := zcc_some hf
      obtain ⟨h3, eh3, hf⟩ := zst_some hf
      have fr : ∀ c, c ∉ md_X11_merryChanged → h3 c = h c := fun c hc9 => (congrFun eh3 c).trans ((zcp_ne c (fun z => hc9 (by rw [z]; decide))).trans (fr c hc9))
      obtain ⟨hi, hf⟩ := zck_some hf
      obtain ⟨h4, eh4, hf⟩ := zst_some hf
      have fr : ∀ c, c ∉ md_X11_merryChanged → h4 c = h c := fun c hc9 => (congrFun eh4 c).trans ((zup_ne c (fun z => hc9 (by rw [z]; decide))).trans (fr c hc9))
      obtain ⟨hi, hf⟩ := zck_some hf
      obtain ⟨h5, eh5, hf⟩ := zst_some hf
      have fr : ∀ c, c ∉ md_X11_merryChanged → h5 c = h c := fun c hc9 => (congrFun eh5 c).trans ((zup_ne c (fun z => hc9 (by rw [z]; decide))).trans (fr c hc9))
      obtain ⟨r6, h7, er6, hf⟩ := zbd_some hf
      have fr : ∀ c, c ∉ md_X11_merryChanged → h7 c = h c := fun c hc9 => (m_X1_merryOf_r44 _ _ er6 c (fun z => hc9 (sm_X11_merryChanged_X1_merryOf_r44 c z))).trans (fr c hc9)
      cases hf
      exact fr
    · skip
      exact fun c hc9 => (m_X11_merryChanged_36  _ hf c hc9).trans (fr c hc9)
end
section
abbrev md_X11_change : List Nat := [19, 21, 38, 39, 40, 41, 42, 43, 44]
theorem sm_X11_change_X11_isBelow : ∀ c ∈ md_X11_isBelow, c ∈ md_X11_change := by decide
theorem sm_X11_change_X1_begin : ∀ c ∈ md_X1_begin, c ∈ md_X11_change := by decide
theorem sm_X11_change_X1_merryOf_r10 : ∀ c ∈ md_X1_merryOf_r10, c ∈ md_X11_change := by decide
theorem sm_X11_change_X11_merryChanged : ∀ c ∈ md_X11_merryChanged, c ∈ md_X11_change := by decide
variable {q : Int32 × zH}
theorem m_X11_change_119 {k56 : Int32 → Int32 → Int32 → Int32 → Int32 → Int32 → zH → zR} {k77 : Int32 → Int32 → Int32 → Int32 → Int32 → Int32 → Int32 → zH → zR} (hk56 : ∀ (h0 : zH) (x1 : Int32) (x2 : Int32) (x3 : Int32) (x4 : Int32) (x5 : Int32) (x6 : Int32), k56 x1 x2 x3 x4 x5 x6 h0 = some q → ∀ c, c ∉ md_X11_change → q.2 c = h0 c) (hk77 : ∀ (h0 : zH) (x1 : Int32) (x2 : Int32) (x3 : Int32) (x4 : Int32) (x5 : Int32) (x6 : Int32) (x7 : Int32), k77 x1 x2 x3 x4 x5 x6 x7 h0 = some q → ∀ c, c ∉ md_X11_change → q.2 c = h0 c) : ∀ (h0 : zH) (x1 : Int32) (x2 : Int32) (x3 : Int32) (x4 : Int32) (x5 : Int32) (x6 : Int32) (x7 : Int32), f_X11_change_119 k56 k77 x1 x2 x3 x4 x5 x6 x7 h0 = some q → ∀ c, c ∉ md_X11_change → q.2 c = h0 c := by
  intro h x1 x2 x3 x4 x5 x6 x7 hf
  unfold f_X11_change_119 at hf
  have fr : ∀ c, c ∉ md_X11_change → h c = h c := fun _ _ => rfl
  obtain ⟨y11, ey11, hf⟩ := zlt_some hf
  exact fun c hc9 => (hk77 _ _ _ _ _ _ _ _ hf c hc9).trans (fr c hc9)
theorem m_X11_change_77 {k56 : Int32 → Int32 → Int32 → Int32 → Int32 → Int32 → zH → zR} (hk56 : ∀ (h0 : zH) (x1 : Int32) (x2 : Int32) (x3 : Int32) (x4 : Int32) (x5 : Int32) (x6 : Int32), k56 x1 x2 x3 x4 x5 x6 h0 = some q → ∀ c, c ∉ md_X11_change → q.2 c = h0 c) : ∀ n, ∀ (h0 : zH) (x1 : Int32) (x2 : Int32) (x3 : Int32) (x4 : Int32) (x5 : Int32) (x6 : Int32) (x7 : Int32), f_X11_change_77 k56 n x1 x2 x3 x4 x5 x6 x7 h0 = some q → ∀ c, c ∉ md_X11_change → q.2 c = h0 c := by
  intro n
  induction n with
  | zero => intro h x1 x2 x3 x4 x5 x6 x7 hf; cases hf
  | succ n ih =>
    intro h x1 x2 x3 x4 x5 x6 x7 hf
    rw [f_X11_change_77] at hf
    have fr : ∀ c, c ∉ md_X11_change → h c = h c := fun _ _ => rfl
    rcases zif_c hf with ⟨hc, hf⟩ | ⟨hc, hf⟩
    · skip
      obtain ⟨y8, ey8, hf⟩ := zlt_some hf
      exact fun c hc9 => (hk56 _ _ _ _ _ _ _ hf c hc9).trans (fr c hc9)
    · skip
      obtain ⟨r9, h10, er9, hf⟩ := zbd_some hf
      have fr : ∀ c, c ∉ md_X11_change → h10 c = h c := fun c hc9 => (m_X11_merryChanged _ _ _ er9 c (fun z => hc9 (sm_X11_change_X11_merryChanged c z))).trans (fr c hc9)
      rcases zif_c hf with ⟨hc, hf⟩ | ⟨hc, hf⟩
      · skip
        exact fun c hc9 => (m_X11_change_119 hk56 ih _ _ _ _ _ _ _ _ hf c hc9).trans (fr c hc9)
      · skip
        exact fun c hc9 => (m_X11_change_119 hk56 ih _ _ _ _ _ _ _ _ hf c hc9).trans (fr c hc9)
theorem m_X11_change_56   : ∀ n, ∀ (h0 : zH) (x1 : Int32) (x2 : Int32) (x3 : Int32) (x4 : Int32) (x5 : Int32) (x6 : Int32), f_X11_change_56  n x1 x2 x3 x4 x5 x6 h0 = some q → ∀ c, c ∉ md_X11_change → q.2 c = h0 c := by
  intro n
  induction n with
  | zero => intro h x1 x2 x3 x4 x5 x6 hf; cases hf
  | succ n ih =>
    intro h x1 x2 x3 x4 x5 x6 hf
    rw [f_X11_change_56] at hf
    have fr : ∀ c, c ∉ md_X11_change → h c = h c := fun _ _ => rfl
    rcases zif_c hf with ⟨hc, hf⟩ | ⟨hc, hf⟩
    · skip
      rcases zif_n hf with ⟨hc, hf⟩ | ⟨hc, hf⟩
      · skip
        rcases zif_n hf with ⟨hc, hf⟩ | ⟨hc, hf⟩
        · skip
          rcases zif_n hf with ⟨hc, hf⟩ | ⟨hc, hf⟩
          · skip
            cases hf
            exact fr
          · skip
            cases hf
            exact fr
        · skip
          cases hf
          exact fr
      · skip
        cases hf
        exact fr
    · skip
      obtain ⟨y7, ey7, hf⟩ := zlt_some hf
      exact fun c hc9 => (m_X11_change_77 ih zN _ _ _ _ _ _ _ _ hf c hc9).trans (fr c hc9)
theorem m_X11_change : ∀ (h0 : zH) (x1 : Int32) {q : Int32 × zH}, f_X11_change x1 h0 = some q → ∀ c, c ∉ md_X11_change → q.2 c = h0 c := by
  intro h x1 q hf
  unfold f_X11_change at hf
  have fr : ∀ c, c ∉ md_X11_change → h c = h c := fun _ _ => rfl
  obtain ⟨r1, h2, er1, hf⟩ := zbd_some hf
  have fr : ∀ c, c ∉ md_X11_change → h2 c = h c := fun c hc9 => (m_X11_isBelow _ _ _ er1 c (fun z => hc9 (sm_X11_change_X11_isBelow c z))).trans (fr c hc9)
  rcases zif_n hf with ⟨hc, hf⟩ | ⟨hc, hf⟩
  · skip
    obtain ⟨r3, h4, er3, hf⟩ := zbd_some hf
    have fr : ∀ c, c ∉ md_X11_change → h4 c = h c := fun c hc9 => (m_X1_begin _ er3 c (fun z => hc9 (sm_X11_change_X1_begin c z))).trans (fr c hc9)
    obtain ⟨r5, h6, er5, hf⟩ := zbd_some hf
    have fr : ∀ c, c ∉ md_X11_change → h6 c = h c := fun c hc9 => (m_X1_merryOf_r10 _ _ er5 c (fun z => hc9 (sm_X11_change_X1_merryOf_r10 c z))).trans (fr c hc9)
    exact fun c hc9 => (m_X11_change_56  zN _ _ _ _ _ _ _ hf c hc9).trans (fr c hc9)
  · skip
    cases hf
    exact fr
end
section
abbrev md_X11_away : List Nat := [19, 21, 38, 39, 40, 41, 42, 43, 44]
theorem sm_X11_away_X1_begin : ∀ c ∈ md_X1_begin, c ∈ md_X11_away := by decide
theorem sm_X11_away_X1_merryOf_r44 : ∀ c ∈ md_X1_merryOf_r44, c ∈ md_X11_away := by decide
variable {q : Int32 × zH}
theorem m_X11_away_93 {k20 : Int32 → Int32 → Int32 → zH → zR} (hk20 : ∀ (h0 : zH) (x1 : Int32) (x3 : Int32) (x4 : Int32), k20 x1 x3 x4 h0 = some q → ∀ c, c ∉ md_X11_away → q.2 c = h0 c) : ∀ (h0 : zH) (x1 : Int32) (x3 : Int32) (x4 : Int32), f_X11_away_93 k20 x1 x3 x4 h0 = some q → ∀ c, c ∉ md_X11_away → q.2 c = h0 c := by
  intro h x1 x3 x4 hf
  unfold f_X11_away_93 at hf
  have fr : ∀ c, c ∉ md_X11_away → h c = h c := fun _ _ => rfl
  obtain ⟨y4, ey4, hf⟩ := zlt_some hf
  exact fun c hc9 => (hk20 _ _ _ _ hf c hc9).trans (fr c hc9)
theorem m_X11_away_20   : ∀ n, ∀ (h0 : zH) (x1 : Int32) (x3 : Int32) (x4 : Int32), f_X11_away_20  n x1 x3 x4 h0 = some q → ∀ c, c ∉ md_X11_away → q.2 c = h0 c := by
  intro n
  induction n with
  | zero => intro h x1 x3 x4 hf; cases hf
  | succ n ih =>
    intro h x1 x3 x4 hf
    rw [f_X11_away_20] at hf
    have fr : ∀ c, c ∉ md_X11_away → h c = h c := fun _ _ => rfl
    rcases zif_c hf with ⟨hc, hf⟩ | ⟨hc, hf⟩
    · skip
      cases hf
      exact fr
    · skip
      obtain ⟨hi, hf⟩ := zck_some hf
      obtain ⟨y3, ey3, hf⟩ := zlt_some hf
      rcases zif_c hf with ⟨hc, hf⟩ | ⟨hc, hf⟩
      · skip
        exact fun c hc9 => (m_X11_away_93 ih _ _ _ _ hf c hc9).trans (fr c hc9)
      · skip
        obtain ⟨hi, hf⟩ := zcc_some hf
        obtain ⟨h5, eh5, hf⟩ := zst_some hf
        have fr : ∀ c, c ∉ md_X11_away → h5 c = h c := fun c hc9 => (congrFun eh5 c).trans ((zcp_ne c (fun z => hc9 (by rw [z]; decide))).trans (fr c hc9))
        obtain ⟨hi, hf⟩ := zck_some hf
        obtain ⟨h6, eh6, hf⟩ := zst_some hf
        have fr : ∀ c, c ∉ md_X11_away → h6 c = h c := fun c hc9 => (congrFun eh6 c).trans ((zup_ne c (fun z => hc9 (by rw [z]; decide))).trans (fr c hc9))
        obtain ⟨r7, h8, er7, hf⟩ := zbd_some hf
        have fr : ∀ c, c ∉ md_X11_away → h8 c = h c := fun c hc9 => (m_X1_merryOf_r44 _ _ er7 c (fun z => hc9 (sm_X11_away_X1_merryOf_r44 c z))).trans (fr c hc9)
        rcases zif_n hf with ⟨hc, hf⟩ | ⟨hc, hf⟩
        · skip
          exact fun c hc9 => (m_X11_away_93 ih _ _ _ _ hf c hc9).trans (fr c hc9)
        · skip
          obtain ⟨y9, ey9, hf⟩ := zlt_some hf
          exact fun c hc9 => (m_X11_away_93 ih _ _ _ _ hf c hc9).trans (fr c hc9)
theorem m_X11_away : ∀ (h0 : zH) (x1 : Int32) {q : Int32 × zH}, f_X11_away x1 h0 = some q → ∀ c, c ∉ md_X11_away → q.2 c = h0 c := by
  intro h x1 q hf
  unfold f_X11_away at hf
  have fr : ∀ c, c ∉ md_X11_away → h c = h c := fun _ _ => rfl
  obtain ⟨r1, h2, er1, hf⟩ := zbd_some hf
  have fr : ∀ c, c ∉ md_X11_away → h2 c = h c := fun c hc9 => (m_X1_begin _ er1 c (fun z => hc9 (sm_X11_away_X1_begin c z))).trans (fr c hc9)
  exact fun c hc9 => (m_X11_away_20  zN _ _ _ _ hf c hc9).trans (fr c hc9)
end
section
abbrev md_X1_leaveAll : List Nat := [41]
theorem sm_X1_leaveAll_X1_tellable : ∀ c ∈ md_X1_tellable, c ∈ md_X1_leaveAll := by decide
variable {q : Int32 × zH}
theorem m_X1_leaveAll : ∀ (h0 : zH) (x1 : Int32) (x2 : Int32) {q : Int32 × zH}, f_X1_leaveAll x1 x2 h0 = some q → ∀ c, c ∉ md_X1_leaveAll → q.2 c = h0 c := by
  intro h x1 x2 q hf
  unfold f_X1_leaveAll at hf
  have fr : ∀ c, c ∉ md_X1_leaveAll → h c = h c := fun _ _ => rfl
  obtain ⟨r1, h2, er1, hf⟩ := zbd_some hf
  have fr : ∀ c, c ∉ md_X1_leaveAll → h2 c = h c := fun c hc9 => (m_X1_tellable _ _ _ er1 c (fun z => hc9 (sm_X1_leaveAll_X1_tellable c z))).trans (fr c hc9)
  obtain ⟨hi, hf⟩ := zck_some hf
  obtain ⟨h3, eh3, hf⟩ := zst_some hf
  have fr : ∀ c, c ∉ md_X1_leaveAll → h3 c = h c := fun c hc9 => (congrFun eh3 c).trans ((zup_ne c (fun z => hc9 (by rw [z]; decide))).trans (fr c hc9))
  obtain ⟨hi, hf⟩ := zck_some hf
  obtain ⟨h4, eh4, hf⟩ := zst_some hf
  have fr : ∀ c, c ∉ md_X1_leaveAll → h4 c = h c := fun c hc9 => (congrFun eh4 c).trans ((zup_ne c (fun z => hc9 (by rw [z]; decide))).trans (fr c hc9))
  cases hf
  exact fr
end
section
abbrev md_X11_uncle : List Nat := [19, 21, 38, 39, 40, 41, 42, 43]
theorem sm_X11_uncle_X11_isBelow : ∀ c ∈ md_X11_isBelow, c ∈ md_X11_uncle := by decide
theorem sm_X11_uncle_X1_begin : ∀ c ∈ md_X1_begin, c ∈ md_X11_uncle := by decide
theorem sm_X11_uncle_X1_leaveAll : ∀ c ∈ md_X1_leaveAll, c ∈ md_X11_uncle := by decide
theorem sm_X11_uncle_X1_merryOf_r10 : ∀ c ∈ md_X1_merryOf_r10, c ∈ md_X11_uncle := by decide
variable {q : Int32 × zH}
theorem m_X11_uncle_17   : ∀ (h0 : zH), f_X11_uncle_17  h0 = some q → ∀ c, c ∉ md_X11_uncle → q.2 c = h0 c := by
  intro h hf
  unfold f_X11_uncle_17 at hf
  have fr : ∀ c, c ∉ md_X11_uncle → h c = h c := fun _ _ => rfl
  cases hf
  exact fr
theorem m_X11_uncle_99 {k27 : Int32 → Int32 → Int32 → Int32 → Int32 → zH → zR} (hk27 : ∀ (h0 : zH) (x1 : Int32) (x2 : Int32) (x3 : Int32) (x4 : Int32) (x5 : Int32), k27 x1 x2 x3 x4 x5 h0 = some q → ∀ c, c ∉ md_X11_uncle → q.2 c = h0 c) : ∀ (h0 : zH) (x1 : Int32) (x2 : Int32) (x3 : Int32) (x4 : Int32) (x5 : Int32), f_X11_uncle_99 k27 x1 x2 x3 x4 x5 h0 = some q → ∀ c, c ∉ md_X11_uncle → q.2 c = h0 c := by
  intro h x1 x2 x3 x4 x5 hf
  unfold f_X11_uncle_99 at hf
  have fr : ∀ c, c ∉ md_X11_uncle → h c = h c := fun _ _ => rfl
  obtain ⟨y5, ey5, hf⟩ := zlt_some hf
  exact fun c hc9 => (hk27 _ _ _ _ _ _ hf c hc9).trans (fr c hc9)
theorem m_X11_uncle_27   : ∀ n, ∀ (h0 : zH) (x1 : Int32) (x2 : Int32) (x3 : Int32) (x4 : Int32) (x5 : Int32), f_X11_uncle_27  n x1 x2 x3 x4 x5 h0 = some q → ∀ c, c ∉ md_X11_uncle → q.2 c = h0 c := by
  intro n
  induction n with
  | zero => intro h x1 x2 x3 x4 x5 hf; cases hf
  | succ n ih =>
    intro h x1 x2 x3 x4 x5 hf
    rw [f_X11_uncle_27] at hf
    have fr : ∀ c, c ∉ md_X11_uncle → h c = h c := fun _ _ => rfl
    rcases zif_c hf with ⟨hc, hf⟩ | ⟨hc, hf⟩
    · skip
      rcases zif_n hf with ⟨hc, hf⟩ | ⟨hc, hf⟩
      · skip
        cases hf
        exact fr
      · skip
        cases hf
        exact fr
    · skip
      rcases zif_c hf with ⟨hc, hf⟩ | ⟨hc, hf⟩
      · skip
        exact fun c hc9 => (m_X11_uncle_99 ih _ _ _ _ _ _ hf c hc9).trans (fr c hc9)
      · skip
        obtain ⟨r6, h7, er6, hf⟩ := zbd_some hf
        have fr : ∀ c, c ∉ md_X11_uncle → h7 c = h c := fun c hc9 => (m_X1_begin _ er6 c (fun z => hc9 (sm_X11_uncle_X1_begin c z))).trans (fr c hc9)
        obtain ⟨r8, h9, er8, hf⟩ := zbd_some hf
        have fr : ∀ c, c ∉ md_X11_uncle → h9 c = h c := fun c hc9 => (m_X1_leaveAll _ _ _ er8 c (fun z => hc9 (sm_X11_uncle_X1_leaveAll c z))).trans (fr c hc9)
        obtain ⟨r10, h11, er10, hf⟩ := zbd_some hf
        have fr : ∀ c, c ∉ md_X11_uncle → h11 c = h c := fun c hc9 => (m_X1_merryOf_r10 _ _ er10 c (fun z => hc9 (sm_X11_uncle_X1_merryOf_r10 c z))).trans (fr c hc9)
        rcases zif_c hf with ⟨hc, hf⟩ | ⟨hc, hf⟩
        · skip
          exact fun c hc9 => (m_X11_uncle_99 ih _ _ _ _ _ _ hf c hc9).trans (fr c hc9)
        · skip
          exact fun c hc9 => (m_X11_uncle_99 ih _ _ _ _ _ _ hf c hc9).trans (fr c hc9)
theorem m_X11_uncle : ∀ (h0 : zH) (x1 : Int32) (x2 : Int32) {q : Int32 × zH}, f_X11_uncle x1 x2 h0 = some q → ∀ c, c ∉ md_X11_uncle → q.2 c = h0 c := by
  intro h x1 x2 q hf
  unfold f_X11_uncle at hf
  have fr : ∀ c, c ∉ md_X11_uncle → h c = h c := fun _ _ => rfl
  obtain ⟨r1, h2, er1, hf⟩ := zbd_some hf
  have fr : ∀ c, c ∉ md_X11_uncle → h2 c = h c := fun c hc9 => (m_X11_isBelow _ _ _ er1 c (fun z => hc9 (sm_X11_uncle_X11_isBelow c z))).trans (fr c hc9)
  rcases zif_c hf with ⟨hc, hf⟩ | ⟨hc, hf⟩
  · skip
    exact fun c hc9 => (m_X11_uncle_17  _ hf c hc9).trans (fr c hc9)
  · skip
    obtain ⟨r3, h4, er3, hf⟩ := zbd_some hf
    have fr : ∀ c, c ∉ md_X11_uncle → h4 c = h c := fun c hc9 => (m_X11_isBelow _ _ _ er3 c (fun z => hc9 (sm_X11_uncle_X11_isBelow c z))).trans (fr c hc9)
    rcases zif_n hf with ⟨hc, hf⟩ | ⟨hc, hf⟩
    · skip
      exact fun c hc9 => (m_X11_uncle_27  zN _ _ _ _ _ _ hf c hc9).trans (fr c hc9)
    · skip
      exact fun c hc9 => (m_X11_uncle_17  _ hf c hc9).trans (fr c hc9)
end
section
abbrev md_X2_gather_r2 : List Nat := [74, 77, 78]
variable {q : Int32 × zH}
theorem m_X2_gather_r2_104 {k12 : Int32 → zH → zR} (hk12 : ∀ (h0 : zH) (x2 : Int32), k12 x2 h0 = some q → ∀ c, c ∉ md_X2_gather_r2 → q.2 c = h0 c) : ∀ (h0 : zH) (x2 : Int32), f_X2_gather_r2_104 k12 x2 h0 = some q → ∀ c, c ∉ md_X2_gather_r2 → q.2 c = h0 c := by
  intro h x2 hf
  unfold f_X2_gather_r2_104 at hf
  have fr : ∀ c, c ∉ md_X2_gather_r2 → h c = h c := fun _ _ => rfl
  obtain ⟨y5, ey5, hf⟩ := zlt_some hf
  exact fun c hc9 => (hk12 _ _ hf c hc9).trans (fr c hc9)
theorem m_X2_gather_r2_50 {k12 : Int32 → zH → zR} (hk12 : ∀ (h0 : zH) (x2 : Int32), k12 x2 h0 = some q → ∀ c, c ∉ md_X2_gather_r2 → q.2 c = h0 c) : ∀ (h0 : zH) (x2 : Int32) (x3 : Int32) (s0 : Int32), f_X2_gather_r2_50 k12 x2 x3 s0 h0 = some q → ∀ c, c ∉ md_X2_gather_r2 → q.2 c = h0 c := by
  intro h x2 x3 s0 hf
  unfold f_X2_gather_r2_50 at hf
  have fr : ∀ c, c ∉ md_X2_gather_r2 → h c = h c := fun _ _ => rfl
  rcases zif_c hf with ⟨hc, hf⟩ | ⟨hc, hf⟩
  · skip
    rcases zif_c hf with ⟨hc, hf⟩ | ⟨hc, hf⟩
    · skip
      obtain ⟨hi, hf⟩ := zck_some hf
      obtain ⟨h3, eh3, hf⟩ := zst_some hf
      have fr : ∀ c, c ∉ md_X2_gather_r2 → h3 c = h c := fun c hc9 => (congrFun eh3 c).trans ((zup_ne c (fun z => hc9 (by rw [z]; decide))).trans (fr c hc9))
      obtain ⟨h4, eh4, hf⟩ := zst_some hf
      have fr : ∀ c, c ∉ md_X2_gather_r2 → h4 c = h c := fun c hc9 => (congrFun eh4 c).trans ((zup_ne c (fun z => hc9 (by rw [z]; decide))).trans (fr c hc9))
      exact fun c hc9 => (m_X2_gather_r2_104 hk12 _ _ hf c hc9).trans (fr c hc9)
    · skip
      obtain ⟨hi, hf⟩ := zck_some hf
      obtain ⟨h6, eh6, hf⟩ := zst_some hf
      have fr : ∀ c, c ∉ md_X2_gather_r2 → h6 c = h c := fun c hc9 => (congrFun eh6 c).trans ((zup_ne c (fun z => hc9 (by rw [z]; decide))).trans (fr c hc9))
      obtain ⟨h7, eh7, hf⟩ := zst_some hf
      have fr : ∀ c, c ∉ md_X2_gather_r2 → h7 c = h c := fun c hc9 => (congrFun eh7 c).trans ((zup_ne c (fun z => hc9 (by rw [z]; decide))).trans (fr c hc9))
      exact fun c hc9 => (m_X2_gather_r2_104 hk12 _ _ hf c hc9).trans (fr c hc9)
  · skip
    cases hf
    exact fr
theorem m_X2_gather_r2_34 {k12 : Int32 → zH → zR} (hk12 : ∀ (h0 : zH) (x2 : Int32), k12 x2 h0 = some q → ∀ c, c ∉ md_X2_gather_r2 → q.2 c = h0 c) : ∀ (h0 : zH) (x2 : Int32) (s0 : Int32), f_X2_gather_r2_34 k12 x2 s0 h0 = some q → ∀ c, c ∉ md_X2_gather_r2 → q.2 c = h0 c := by
  intro h x2 s0 hf
  unfold f_X2_gather_r2_34 at hf
  have fr : ∀ c, c ∉ md_X2_gather_r2 → h c = h c := fun _ _ => rfl
  rcases zif_c hf with ⟨hc, hf⟩ | ⟨hc, hf⟩
  · skip
    exact fun c hc9 => (m_X2_gather_r2_50 hk12 _ _ _ _ hf c hc9).trans (fr c hc9)
  · skip
    exact fun c hc9 => (m_X2_gather_r2_50 hk12 _ _ _ _ hf c hc9).trans (fr c hc9)
theorem m_X2_gather_r2_12   : ∀ n, ∀ (h0 : zH) (x2 : Int32), f_X2_gather_r2_12  n x2 h0 = some q → ∀ c, c ∉ md_X2_gather_r2 → q.2 c = h0 c := by
  intro n
  induction n with
  | zero => intro h x2 hf; cases hf
  | succ n ih =>
    intro h x2 hf
    rw [f_X2_gather_r2_12] at hf
    have fr : ∀ c, c ∉ md_X2_gather_r2 → h c = h c := fun _ _ => rfl
    rcases zif_c hf with ⟨hc, hf⟩ | ⟨hc, hf⟩
    · skip
      cases hf
      exact fr
    · skip
      obtain ⟨hi, hf⟩ := zck_some hf
      rcases zif_n hf with ⟨hc, hf⟩ | ⟨hc, hf⟩
      · skip
        exact fun c hc9 => (m_X2_gather_r2_34 ih _ _ _ hf c hc9).trans (fr c hc9)
      · skip
        exact fun c hc9 => (m_X2_gather_r2_34 ih _ _ _ hf c hc9).trans (fr c hc9)
theorem m_X2_gather_r2 : ∀ (h0 : zH) {q : Int32 × zH}, f_X2_gather_r2 h0 = some q → ∀ c, c ∉ md_X2_gather_r2 → q.2 c = h0 c := by
  intro h q hf
  unfold f_X2_gather_r2 at hf
  have fr : ∀ c, c ∉ md_X2_gather_r2 → h c = h c := fun _ _ => rfl
  obtain ⟨h1, eh1, hf⟩ := zst_some hf
  have fr : ∀ c, c ∉ md_X2_gather_r2 → h1 c = h c := fun c hc9 => (congrFun eh1 c).trans ((zup_ne c (fun z => hc9 (by rw [z]; decide))).trans (fr c hc9))
  obtain ⟨h2, eh2, hf⟩ := zst_some hf
  have fr : ∀ c, c ∉ md_X2_gather_r2 → h2 c = h c := fun c hc9 => (congrFun eh2 c).trans ((zup_ne c (fun z => hc9 (by rw [z]; decide))).trans (fr c hc9))
  exact fun c hc9 => (m_X2_gather_r2_12  zN _ _ hf c hc9).trans (fr c hc9)
end
section
abbrev md_X2_sumWith : List Nat := []
variable {q : Int32 × zH}
theorem m_X2_sumWith : ∀ (h0 : zH) (x1 : Int32) (x2 : Int32) (x3 : Int32) {q : Int32 × zH}, f_X2_sumWith x1 x2 x3 h0 = some q → ∀ c, c ∉ md_X2_sumWith → q.2 c = h0 c := by
  intro h x1 x2 x3 q hf
  unfold f_X2_sumWith at hf
  have fr : ∀ c, c ∉ md_X2_sumWith → h c = h c := fun _ _ => rfl
  obtain ⟨hi, hf⟩ := zck_some hf
  obtain ⟨hi, hf⟩ := zck_some hf
  cases hf
  exact fr
end
section
abbrev md_X2_leastPartner : List Nat := []
theorem sm_X2_leastPartner_X11_isIn : ∀ c ∈ md_X11_isIn, c ∈ md_X2_leastPartner := by decide
theorem sm_X2_leastPartner_X2_sumWith : ∀ c ∈ md_X2_sumWith, c ∈ md_X2_leastPartner := by decide
variable {q : Int32 × zH}
theorem m_X2_leastPartner_42 {k2 : Int32 → Int32 → Int32 → zH → zR} (hk2 : ∀ (h0 : zH) (x1 : Int32) (x2 : Int32) (x3 : Int32), k2 x1 x2 x3 h0 = some q → ∀ c, c ∉ md_X2_leastPartner → q.2 c = h0 c) : ∀ (h0 : zH) (x1 : Int32) (x2 : Int32) (x3 : Int32), f_X2_leastPartner_42 k2 x1 x2 x3 h0 = some q → ∀ c, c ∉ md_X2_leastPartner → q.2 c = h0 c := by
  intro h x1 x2 x3 hf
  unfold f_X2_leastPartner_42 at hf
  have fr : ∀ c, c ∉ md_X2_leastPartner → h c = h c := fun _ _ => rfl
  obtain ⟨y3, ey3, hf⟩ := zlt_some hf
  exact fun c hc9 => (hk2 _ _ _ _ hf c hc9).trans (fr c hc9)
theorem m_X2_leastPartner_2   : ∀ n, ∀ (h0 : zH) (x1 : Int32) (x2 : Int32) (x3 : Int32), f_X2_leastPartner_2  n x1 x2 x3 h0 = some q → ∀ c, c ∉ md_X2_leastPartner → q.2 c = h0 c := by
  intro n
  induction n with
  | zero => intro h x1 x2 x3 hf; cases hf
  | succ n ih =>
    intro h x1 x2 x3 hf
    rw [f_X2_leastPartner_2] at hf
    have fr : ∀ c, c ∉ md_X2_leastPartner → h c = h c := fun _ _ => rfl
    rcases zif_c hf with ⟨hc, hf⟩ | ⟨hc, hf⟩
    · skip
      cases hf
      exact fr
    · skip
      obtain ⟨r1, h2, er1, hf⟩ := zbd_some hf
      have fr : ∀ c, c ∉ md_X2_leastPartner → h2 c = h c := fun c hc9 => (m_X11_isIn _ _ _ er1 c (fun z => hc9 (sm_X2_leastPartner_X11_isIn c z))).trans (fr c hc9)
      rcases zif_c hf with ⟨hc, hf⟩ | ⟨hc, hf⟩
      · skip
        exact fun c hc9 => (m_X2_leastPartner_42 ih _ _ _ _ hf c hc9).trans (fr c hc9)
      · skip
        obtain ⟨r4, h5, er4, hf⟩ := zbd_some hf
        have fr : ∀ c, c ∉ md_X2_leastPartner → h5 c = h c := fun c hc9 => (m_X2_sumWith _ _ _ _ er4 c (fun z => hc9 (sm_X2_leastPartner_X2_sumWith c z))).trans (fr c hc9)
        obtain ⟨hi, hf⟩ := zck_some hf
        rcases zif_n hf with ⟨hc, hf⟩ | ⟨hc, hf⟩
        · skip
          exact fun c hc9 => (m_X2_leastPartner_42 ih _ _ _ _ hf c hc9).trans (fr c hc9)
        · skip
          cases hf
          exact fr
theorem m_X2_leastPartner : ∀ (h0 : zH) (x1 : Int32) (x2 : Int32) {q : Int32 × zH}, f_X2_leastPartner x1 x2 h0 = some q → ∀ c, c ∉ md_X2_leastPartner → q.2 c = h0 c := by
  intro h x1 x2 q hf
  unfold f_X2_leastPartner at hf
  have fr : ∀ c, c ∉ md_X2_leastPartner → h c = h c := fun _ _ => rfl
  exact fun c hc9 => (m_X2_leastPartner_2  zN _ _ _ _ hf c hc9).trans (fr c hc9)
end
section
abbrev md_X2_choose : List Nat := [79]
theorem sm_X2_choose_X2_leastPartner : ∀ c ∈ md_X2_leastPartner, c ∈ md_X2_choose := by decide
variable {q : Int32 × zH}
theorem m_X2_choose_92 {k25 : Int32 → Int32 → zH → zR} (hk25 : ∀ (h0 : zH) (x2 : Int32) (x3 : Int32), k25 x2 x3 h0 = some q → ∀ c, c ∉ md_X2_choose → q.2 c = h0 c) : ∀ (h0 : zH) (x2 : Int32) (x3 : Int32), f_X2_choose_92 k25 x2 x3 h0 = some q → ∀ c, c ∉ md_X2_choose → q.2 c = h0 c := by
  intro h x2 x3 hf
  unfold f_X2_choose_92 at hf
  have fr : ∀ c, c ∉ md_X2_choose → h c = h c := fun _ _ => rfl
  obtain ⟨y3, ey3, hf⟩ := zlt_some hf
  exact fun c hc9 => (hk25 _ _ _ hf c hc9).trans (fr c hc9)
theorem m_X2_choose_25   : ∀ n, ∀ (h0 : zH) (x2 : Int32) (x3 : Int32), f_X2_choose_25  n x2 x3 h0 = some q → ∀ c, c ∉ md_X2_choose → q.2 c = h0 c := by
  intro n
  induction n with
  | zero => intro h x2 x3 hf; cases hf
  | succ n ih =>
    intro h x2 x3 hf
    rw [f_X2_choose_25] at hf
    have fr : ∀ c, c ∉ md_X2_choose → h c = h c := fun _ _ => rfl
    rcases zif_c hf with ⟨hc, hf⟩ | ⟨hc, hf⟩
    · skip
      cases hf
      exact fr
    · skip
      obtain ⟨r1, h2, er1, hf⟩ := zbd_some hf
      have fr : ∀ c, c ∉ md_X2_choose → h2 c = h c := fun c hc9 => (m_X2_leastPartner _ _ _ er1 c (fun z => hc9 (sm_X2_choose_X2_leastPartner c z))).trans (fr c hc9)
      rcases zif_c hf with ⟨hc, hf⟩ | ⟨hc, hf⟩
      · skip
        exact fun c hc9 => (m_X2_choose_92 ih _ _ _ hf c hc9).trans (fr c hc9)
      · skip
        obtain ⟨hi, hf⟩ := zck_some hf
        obtain ⟨hi, hf⟩ := zck_some hf
        obtain ⟨hi, hf⟩ := zck_some hf
        obtain ⟨h4, eh4, hf⟩ := zst_some hf
        have fr : ∀ c, c ∉ md_X2_choose → h4 c = h c := fun c hc9 => (congrFun eh4 c).trans ((zup_ne c (fun z => hc9 (by rw [z]; decide))).trans (fr c hc9))
        obtain ⟨hi, hf⟩ := zck_some hf
        obtain ⟨hi, hf⟩ := zck_some hf
        obtain ⟨hi, hf⟩ := zck_some hf
        obtain ⟨h5, eh5, hf⟩ := zst_some hf
        have fr : ∀ c, c ∉ md_X2_choose → h5 c = h c := fun c hc9 => (congrFun eh5 c).trans ((zup_ne c (fun z => hc9 (by rw [z]; decide))).trans (fr c hc9))
        obtain ⟨y6, ey6, hf⟩ := zlt_some hf
        exact fun c hc9 => (m_X2_choose_92 ih _ _ _ hf c hc9).trans (fr c hc9)
theorem m_X2_choose_2   : ∀ n, ∀ (h0 : zH) (x1 : Int32) (x2 : Int32), f_X2_choose_2  n x1 x2 h0 = some q → ∀ c, c ∉ md_X2_choose → q.2 c = h0 c := by
  intro n
  induction n with
  | zero => intro h x1 x2 hf; cases hf
  | succ n ih =>
    intro h x1 x2 hf
    rw [f_X2_choose_2] at hf
    have fr : ∀ c, c ∉ md_X2_choose → h c = h c := fun _ _ => rfl
    rcases zif_c hf with ⟨hc, hf⟩ | ⟨hc, hf⟩
    · skip
      exact fun c hc9 => (m_X2_choose_25  zN _ _ _ hf c hc9).trans (fr c hc9)
    · skip
      obtain ⟨hi, hf⟩ := zck_some hf
      obtain ⟨h7, eh7, hf⟩ := zst_some hf
      have fr : ∀ c, c ∉ md_X2_choose → h7 c = h c := fun c hc9 => (congrFun eh7 c).trans ((zup_ne c (fun z => hc9 (by rw [z]; decide))).trans (fr c hc9))
      obtain ⟨y8, ey8, hf⟩ := zlt_some hf
      exact fun c hc9 => (ih _ _ _ hf c hc9).trans (fr c hc9)
theorem m_X2_choose : ∀ (h0 : zH) (x1 : Int32) {q : Int32 × zH}, f_X2_choose x1 h0 = some q → ∀ c, c ∉ md_X2_choose → q.2 c = h0 c := by
  intro h x1 q hf
  unfold f_X2_choose at hf
  have fr : ∀ c, c ∉ md_X2_choose → h c = h c := fun _ _ => rfl
  exact fun c hc9 => (m_X2_choose_2  zN _ _ _ hf c hc9).trans (fr c hc9)
end
section
abbrev md_X2_mostFrom : List Nat := []
theorem sm_X2_mostFrom_X11_isIn : ∀ c ∈ md_X11_isIn, c ∈ md_X2_mostFrom := by decide
theorem sm_X2_mostFrom_X2_sumWith : ∀ c ∈ md_X2_sumWith, c ∈ md_X2_mostFrom := by decide
variable {q : Int32 × zH}
theorem m_X2_mostFrom_49 {k18 : Int32 → Int32 → Int32 → Int32 → zH → zR} (hk18 : ∀ (h0 : zH) (x1 : Int32) (x2 : Int32) (x3 : Int32) (x4 : Int32), k18 x1 x2 x3 x4 h0 = some q → ∀ c, c ∉ md_X2_mostFrom → q.2 c = h0 c) : ∀ (h0 : zH) (x1 : Int32) (x2 : Int32) (x3 : Int32) (x4 : Int32), f_X2_mostFrom_49 k18 x1 x2 x3 x4 h0 = some q → ∀ c, c ∉ md_X2_mostFrom → q.2 c = h0 c := by
  intro h x1 x2 x3 x4 hf
  unfold f_X2_mostFrom_49 at hf
  have fr : ∀ c, c ∉ md_X2_mostFrom → h c = h c := fun _ _ => rfl
  obtain ⟨y4, ey4, hf⟩ := zlt_some hf
  exact fun c hc9 => (hk18 _ _ _ _ _ hf c hc9).trans (fr c hc9)
theorem m_X2_mostFrom_18   : ∀ n, ∀ (h0 : zH) (x1 : Int32) (x2 : Int32) (x3 : Int32) (x4 : Int32), f_X2_mostFrom_18  n x1 x2 x3 x4 h0 = some q → ∀ c, c ∉ md_X2_mostFrom → q.2 c = h0 c := by
  intro n
  induction n with
  | zero => intro h x1 x2 x3 x4 hf; cases hf
  | succ n ih =>
    intro h x1 x2 x3 x4 hf
    rw [f_X2_mostFrom_18] at hf
    have fr : ∀ c, c ∉ md_X2_mostFrom → h c = h c := fun _ _ => rfl
    rcases zif_c hf with ⟨hc, hf⟩ | ⟨hc, hf⟩
    · skip
      cases hf
      exact fr
    · skip
      obtain ⟨r2, h3, er2, hf⟩ := zbd_some hf
      have fr : ∀ c, c ∉ md_X2_mostFrom → h3 c = h c := fun c hc9 => (m_X11_isIn _ _ _ er2 c (fun z => hc9 (sm_X2_mostFrom_X11_isIn c z))).trans (fr c hc9)
      rcases zif_c hf with ⟨hc, hf⟩ | ⟨hc, hf⟩
      · skip
        exact fun c hc9 => (m_X2_mostFrom_49 ih _ _ _ _ _ hf c hc9).trans (fr c hc9)
      · skip
        obtain ⟨r5, h6, er5, hf⟩ := zbd_some hf
        have fr : ∀ c, c ∉ md_X2_mostFrom → h6 c = h c := fun c hc9 => (m_X2_sumWith _ _ _ _ er5 c (fun z => hc9 (sm_X2_mostFrom_X2_sumWith c z))).trans (fr c hc9)
        obtain ⟨y7, ey7, hf⟩ := zlt_some hf
        exact fun c hc9 => (m_X2_mostFrom_49 ih _ _ _ _ _ hf c hc9).trans (fr c hc9)
theorem m_X2_mostFrom : ∀ (h0 : zH) (x1 : Int32) (x2 : Int32) {q : Int32 × zH}, f_X2_mostFrom x1 x2 h0 = some q → ∀ c, c ∉ md_X2_mostFrom → q.2 c = h0 c := by
  intro h x1 x2 q hf
  unfold f_X2_mostFrom at hf
  have fr : ∀ c, c ∉ md_X2_mostFrom → h c = h c := fun _ _ => rfl
  obtain ⟨hi, hf⟩ := zck_some hf
  obtain ⟨y1, ey1, hf⟩ := zlt_some hf
  exact fun c hc9 => (m_X2_mostFrom_18  zN _ _ _ _ _ hf c hc9).trans (fr c hc9)
end
section
abbrev md_X2_solve_r1 : List Nat := [19, 21, 74, 75, 76, 77, 78, 79]
theorem sm_X2_solve_r1_X2_gather_r2 : ∀ c ∈ md_X2_gather_r2, c ∈ md_X2_solve_r1 := by decide
theorem sm_X2_solve_r1_X2_choose : ∀ c ∈ md_X2_choose, c ∈ md_X2_solve_r1 := by decide
theorem sm_X2_solve_r1_X2_mostFrom : ∀ c ∈ md_X2_mostFrom, c ∈ md_X2_solve_r1 := by decide
theorem sm_X2_solve_r1_X4_laughOf : ∀ c ∈ md_X4_laughOf, c ∈ md_X2_solve_r1 := by decide
variable {q : Int32 × zH}
theorem m_X2_solve_r1_123 {k116 : Int32 → Int32 → zH → zR} (hk116 : ∀ (h0 : zH) (x2 : Int32) (x3 : Int32), k116 x2 x3 h0 = some q → ∀ c, c ∉ md_X2_solve_r1 → q.2 c = h0 c) : ∀ n, ∀ (h0 : zH) (x2 : Int32) (x3 : Int32) (x4 : Int32), f_X2_solve_r1_123 k116 n x2 x3 x4 h0 = some q → ∀ c, c ∉ md_X2_solve_r1 → q.2 c = h0 c := by
  intro n
  induction n with
  | zero => intro h x2 x3 x4 hf; cases hf
  | succ n ih =>
    intro h x2 x3 x4 hf
    rw [f_X2_solve_r1_123] at hf
    have fr : ∀ c, c ∉ md_X2_solve_r1 → h c = h c := fun _ _ => rfl
    rcases zif_c hf with ⟨hc, hf⟩ | ⟨hc, hf⟩
    · skip
      obtain ⟨y8, ey8, hf⟩ := zlt_some hf
      exact fun c hc9 => (hk116 _ _ _ hf c hc9).trans (fr c hc9)
    · skip
      obtain ⟨r9, h10, er9, hf⟩ := zbd_some hf
      have fr : ∀ c, c ∉ md_X2_solve_r1 → h10 c = h c := fun c hc9 => (m_X2_mostFrom _ _ _ er9 c (fun z => hc9 (sm_X2_solve_r1_X2_mostFrom c z))).trans (fr c hc9)
      obtain ⟨hi, hf⟩ := zck_some hf
      obtain ⟨h11, eh11, hf⟩ := zst_some hf
      have fr : ∀ c, c ∉ md_X2_solve_r1 → h11 c = h c := fun c hc9 => (congrFun eh11 c).trans ((zup_ne c (fun z => hc9 (by rw [z]; decide))).trans (fr c hc9))
      obtain ⟨y12, ey12, hf⟩ := zlt_some hf
      exact fun c hc9 => (ih _ _ _ _ hf c hc9).trans (fr c hc9)
theorem m_X2_solve_r1_116   : ∀ n, ∀ (h0 : zH) (x2 : Int32) (x3 : Int32), f_X2_solve_r1_116  n x2 x3 h0 = some q → ∀ c, c ∉ md_X2_solve_r1 → q.2 c = h0 c := by
  intro n
  induction n with
  | zero => intro h x2 x3 hf; cases hf
  | succ n ih =>
    intro h x2 x3 hf
    rw [f_X2_solve_r1_116] at hf
    have fr : ∀ c, c ∉ md_X2_solve_r1 → h c = h c := fun _ _ => rfl
    rcases zif_c hf with ⟨hc, hf⟩ | ⟨hc, hf⟩
    · skip
      obtain ⟨hi, hf⟩ := zck_some hf
      obtain ⟨h5, eh5, hf⟩ := zst_some hf
      have fr : ∀ c, c ∉ md_X2_solve_r1 → h5 c = h c := fun c hc9 => (congrFun eh5 c).trans ((zup_ne c (fun z => hc9 (by rw [z]; decide))).trans (fr c hc9))
      obtain ⟨r6, h7, er6, hf⟩ := zbd_some hf
      have fr : ∀ c, c ∉ md_X2_solve_r1 → h7 c = h c := fun c hc9 => (m_X2_choose _ _ er6 c (fun z => hc9 (sm_X2_solve_r1_X2_choose c z))).trans (fr c hc9)
      cases hf
      exact fr
    · skip
      exact fun c hc9 => (m_X2_solve_r1_123 ih zN _ _ _ _ hf c hc9).trans (fr c hc9)
theorem m_X2_solve_r1_82   : ∀ n, ∀ (h0 : zH) (x2 : Int32) (x3 : Int32), f_X2_solve_r1_82  n x2 x3 h0 = some q → ∀ c, c ∉ md_X2_solve_r1 → q.2 c = h0 c := by
  intro n
  induction n with
  | zero => intro h x2 x3 hf; cases hf
  | succ n ih =>
    intro h x2 x3 hf
    rw [f_X2_solve_r1_82] at hf
    have fr : ∀ c, c ∉ md_X2_solve_r1 → h c = h c := fun _ _ => rfl
    rcases zif_c hf with ⟨hc, hf⟩ | ⟨hc, hf⟩
    · skip
      obtain ⟨y4, ey4, hf⟩ := zlt_some hf
      exact fun c hc9 => (m_X2_solve_r1_116  zN _ _ _ hf c hc9).trans (fr c hc9)
    · skip
      obtain ⟨hi, hf⟩ := zck_some hf
      obtain ⟨h13, eh13, hf⟩ := zst_some hf
      have fr : ∀ c, c ∉ md_X2_solve_r1 → h13 c = h c := fun c hc9 => (congrFun eh13 c).trans ((zup_ne c (fun z => hc9 (by rw [z]; decide))).trans (fr c hc9))
      obtain ⟨y14, ey14, hf⟩ := zlt_some hf
      exact fun c hc9 => (ih _ _ _ hf c hc9).trans (fr c hc9)
theorem m_X2_solve_r1_25 {k15 : Int32 → zH → zR} (hk15 : ∀ (h0 : zH) (x2 : Int32), k15 x2 h0 = some q → ∀ c, c ∉ md_X2_solve_r1 → q.2 c = h0 c) : ∀ n, ∀ (h0 : zH) (x2 : Int32) (x3 : Int32), f_X2_solve_r1_25 k15 n x2 x3 h0 = some q → ∀ c, c ∉ md_X2_solve_r1 → q.2 c = h0 c := by
  intro n
  induction n with
  | zero => intro h x2 x3 hf; cases hf
  | succ n ih =>
    intro h x2 x3 hf
    rw [f_X2_solve_r1_25] at hf
    have fr : ∀ c, c ∉ md_X2_solve_r1 → h c = h c := fun _ _ => rfl
    rcases zif_c hf with ⟨hc, hf⟩ | ⟨hc, hf⟩
    · skip
      obtain ⟨y15, ey15, hf⟩ := zlt_some hf
      exact fun c hc9 => (hk15 _ _ hf c hc9).trans (fr c hc9)
    · skip
      obtain ⟨hi, hf⟩ := zck_some hf
      obtain ⟨hi, hf⟩ := zck_some hf
      obtain ⟨r16, h17, er16, hf⟩ := zbd_some hf
      have fr : ∀ c, c ∉ md_X2_solve_r1 → h17 c = h c := fun c hc9 => (m_X4_laughOf _ _ _ _ er16 c (fun z => hc9 (sm_X2_solve_r1_X4_laughOf c z))).trans (fr c hc9)
      obtain ⟨hi, hf⟩ := zck_some hf
      obtain ⟨h18, eh18, hf⟩ := zst_some hf
      have fr : ∀ c, c ∉ md_X2_solve_r1 → h18 c = h c := fun c hc9 => (congrFun eh18 c).trans ((zup_ne c (fun z => hc9 (by rw [z]; decide))).trans (fr c hc9))
      obtain ⟨y19, ey19, hf⟩ := zlt_some hf
      exact fun c hc9 => (ih _ _ _ hf c hc9).trans (fr c hc9)
theorem m_X2_solve_r1_15   : ∀ n, ∀ (h0 : zH) (x2 : Int32), f_X2_solve_r1_15  n x2 h0 = some q → ∀ c, c ∉ md_X2_solve_r1 → q.2 c = h0 c := by
  intro n
  induction n with
  | zero => intro h x2 hf; cases hf
  | succ n ih =>
    intro h x2 hf
    rw [f_X2_solve_r1_15] at hf
    have fr : ∀ c, c ∉ md_X2_solve_r1 → h c = h c := fun _ _ => rfl
    rcases zif_c hf with ⟨hc, hf⟩ | ⟨hc, hf⟩
    · skip
      obtain ⟨y3, ey3, hf⟩ := zlt_some hf
      exact fun c hc9 => (m_X2_solve_r1_82  zN _ _ _ hf c hc9).trans (fr c hc9)
    · skip
      exact fun c hc9 => (m_X2_solve_r1_25 ih zN _ _ _ hf c hc9).trans (fr c hc9)
theorem m_X2_solve_r1 : ∀ (h0 : zH) {q : Int32 × zH}, f_X2_solve_r1 h0 = some q → ∀ c, c ∉ md_X2_solve_r1 → q.2 c = h0 c := by
  intro h q hf
  unfold f_X2_solve_r1 at hf
  have fr : ∀ c, c ∉ md_X2_solve_r1 → h c = h c := fun _ _ => rfl
  obtain ⟨r1, h2, er1, hf⟩ := zbd_some hf
  have fr : ∀ c, c ∉ md_X2_solve_r1 → h2 c = h c := fun c hc9 => (m_X2_gather_r2 _ er1 c (fun z => hc9 (sm_X2_solve_r1_X2_gather_r2 c z))).trans (fr c hc9)
  rcases zif_n hf with ⟨hc, hf⟩ | ⟨hc, hf⟩
  · skip
    exact fun c hc9 => (m_X2_solve_r1_15  zN _ _ hf c hc9).trans (fr c hc9)
  · skip
    cases hf
    exact fr
end
section
abbrev md_X10_areAlike : List Nat := []
variable {q : Int32 × zH}
theorem m_X10_areAlike_3   : ∀ n, ∀ (h0 : zH) (x1 : Int32) (x2 : Int32) (x3 : Int32) (x4 : Int32), f_X10_areAlike_3  n x1 x2 x3 x4 h0 = some q → ∀ c, c ∉ md_X10_areAlike → q.2 c = h0 c := by
  intro n
  induction n with
  | zero => intro h x1 x2 x3 x4 hf; cases hf
  | succ n ih =>
    intro h x1 x2 x3 x4 hf
    rw [f_X10_areAlike_3] at hf
    have fr : ∀ c, c ∉ md_X10_areAlike → h c = h c := fun _ _ => rfl
    rcases zif_c hf with ⟨hc, hf⟩ | ⟨hc, hf⟩
    · skip
      cases hf
      exact fr
    · skip
      obtain ⟨hi, hf⟩ := zck_some hf
      obtain ⟨hi, hf⟩ := zck_some hf
      rcases zif_c hf with ⟨hc, hf⟩ | ⟨hc, hf⟩
      · skip
        obtain ⟨y1, ey1, hf⟩ := zlt_some hf
        exact fun c hc9 => (ih _ _ _ _ _ hf c hc9).trans (fr c hc9)
      · skip
        cases hf
        exact fr
theorem m_X10_areAlike : ∀ (h0 : zH) (x1 : Int32) (x2 : Int32) (x3 : Int32) {q : Int32 × zH}, f_X10_areAlike x1 x2 x3 h0 = some q → ∀ c, c ∉ md_X10_areAlike → q.2 c = h0 c := by
  intro h x1 x2 x3 q hf
  unfold f_X10_areAlike at hf
  have fr : ∀ c, c ∉ md_X10_areAlike → h c = h c := fun _ _ => rfl
  exact fun c hc9 => (m_X10_areAlike_3  zN _ _ _ _ _ hf c hc9).trans (fr c hc9)
end
