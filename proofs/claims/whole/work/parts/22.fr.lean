section
abbrev md_X12_fit : List Nat := [100, 108, 109, 110, 111, 112, 113]
theorem sm_X12_fit_X12_sorts : ∀ c ∈ md_X12_sorts, c ∈ md_X12_fit := by decide
theorem sm_X12_fit_X12_laysFit : ∀ c ∈ md_X12_laysFit, c ∈ md_X12_fit := by decide
theorem sm_X12_fit_X12_fitted : ∀ c ∈ md_X12_fitted, c ∈ md_X12_fit := by decide
theorem sm_X12_fit_X12_isIn : ∀ c ∈ md_X12_isIn, c ∈ md_X12_fit := by decide
variable {q : Int32 × zH}
theorem m_X12_fit_46   : ∀ (h0 : zH), f_X12_fit_46  h0 = some q → ∀ c, c ∉ md_X12_fit → q.2 c = h0 c := by
  intro h hf
  unfold f_X12_fit_46 at hf
  have fr : ∀ c, c ∉ md_X12_fit → h c = h c := fun _ _ => rfl
  cases hf
  exact fr
theorem m_X12_fit_24   : ∀ (h0 : zH) (x1 : Int32), f_X12_fit_24  x1 h0 = some q → ∀ c, c ∉ md_X12_fit → q.2 c = h0 c := by
  intro h x1 hf
  unfold f_X12_fit_24 at hf
  have fr : ∀ c, c ∉ md_X12_fit → h c = h c := fun _ _ => rfl
  obtain ⟨r1, h2, er1, hf⟩ := zbd_some hf
  have fr : ∀ c, c ∉ md_X12_fit → h2 c = h c := fun c hc9 => (m_X12_sorts _ er1 c (fun z => hc9 (sm_X12_fit_X12_sorts c z))).trans (fr c hc9)
  rcases zif_c hf with ⟨hc, hf⟩ | ⟨hc, hf⟩
  · skip
    exact fun c hc9 => (m_X12_fit_46  _ hf c hc9).trans (fr c hc9)
  · skip
    rcases zif_c hf with ⟨hc, hf⟩ | ⟨hc, hf⟩
    · skip
      obtain ⟨r3, h4, er3, hf⟩ := zbd_some hf
      have fr : ∀ c, c ∉ md_X12_fit → h4 c = h c := fun c hc9 => (m_X12_laysFit _ er3 c (fun z => hc9 (sm_X12_fit_X12_laysFit c z))).trans (fr c hc9)
      rcases zif_n hf with ⟨hc, hf⟩ | ⟨hc, hf⟩
      · skip
        obtain ⟨hi, hf⟩ := zck_some hf
        cases hf
        exact fr
      · skip
        obtain ⟨r5, h6, er5, hf⟩ := zbd_some hf
        have fr : ∀ c, c ∉ md_X12_fit → h6 c = h c := fun c hc9 => (m_X12_fitted _ _ _ er5 c (fun z => hc9 (sm_X12_fit_X12_fitted c z))).trans (fr c hc9)
        cases hf
        exact fr
    · skip
      exact fun c hc9 => (m_X12_fit_46  _ hf c hc9).trans (fr c hc9)
theorem m_X12_fit : ∀ (h0 : zH) (x1 : Int32) {q : Int32 × zH}, f_X12_fit x1 h0 = some q → ∀ c, c ∉ md_X12_fit → q.2 c = h0 c := by
  intro h x1 q hf
  unfold f_X12_fit at hf
  have fr : ∀ c, c ∉ md_X12_fit → h c = h c := fun _ _ => rfl
  rcases zif_c hf with ⟨hc, hf⟩ | ⟨hc, hf⟩
  · skip
    exact fun c hc9 => (m_X12_fit_24  _ _ hf c hc9).trans (fr c hc9)
  · skip
    obtain ⟨r7, h8, er7, hf⟩ := zbd_some hf
    have fr : ∀ c, c ∉ md_X12_fit → h8 c = h c := fun c hc9 => (m_X12_isIn _ _ _ _ er7 c (fun z => hc9 (sm_X12_fit_X12_isIn c z))).trans (fr c hc9)
    rcases zif_n hf with ⟨hc, hf⟩ | ⟨hc, hf⟩
    · skip
      exact fun c hc9 => (m_X12_fit_24  _ _ hf c hc9).trans (fr c hc9)
    · skip
      cases hf
      exact fr
end
section
abbrev md_X12_isAlike : List Nat := []
variable {q : Int32 × zH}
theorem m_X12_isAlike_2   : ∀ n, ∀ (h0 : zH) (x1 : Int32) (x2 : Int32) (x3 : Int32), f_X12_isAlike_2  n x1 x2 x3 h0 = some q → ∀ c, c ∉ md_X12_isAlike → q.2 c = h0 c := by
  intro n
  induction n with
  | zero => intro h x1 x2 x3 hf; cases hf
  | succ n ih =>
    intro h x1 x2 x3 hf
    rw [f_X12_isAlike_2] at hf
    have fr : ∀ c, c ∉ md_X12_isAlike → h c = h c := fun _ _ => rfl
    rcases zif_c hf with ⟨hc, hf⟩ | ⟨hc, hf⟩
    · skip
      cases hf
      exact fr
    · skip
      obtain ⟨hi, hf⟩ := zck_some hf
      obtain ⟨hi, hf⟩ := zck_some hf
      rcases zif_c hf with ⟨hc, hf⟩ | ⟨hc, hf⟩
      · skip
        obtain ⟨y1, ey1, hf⟩ := zlt_some hf
        exact fun c hc9 => (ih _ _ _ _ hf c hc9).trans (fr c hc9)
      · skip
        cases hf
        exact fr
theorem m_X12_isAlike : ∀ (h0 : zH) (x1 : Int32) (x2 : Int32) {q : Int32 × zH}, f_X12_isAlike x1 x2 h0 = some q → ∀ c, c ∉ md_X12_isAlike → q.2 c = h0 c := by
  intro h x1 x2 q hf
  unfold f_X12_isAlike at hf
  have fr : ∀ c, c ∉ md_X12_isAlike → h c = h c := fun _ _ => rfl
  exact fun c hc9 => (m_X12_isAlike_2  zN _ _ _ _ hf c hc9).trans (fr c hc9)
end
section
abbrev md_X12_worthBehind : List Nat := [108, 109]
theorem sm_X12_worthBehind_X12_ofHalf : ∀ c ∈ md_X12_ofHalf, c ∈ md_X12_worthBehind := by decide
theorem sm_X12_worthBehind_X12_isFront : ∀ c ∈ md_X12_isFront, c ∈ md_X12_worthBehind := by decide
theorem sm_X12_worthBehind_X12_laughOf : ∀ c ∈ md_X12_laughOf, c ∈ md_X12_worthBehind := by decide
theorem sm_X12_worthBehind_X12_most : ∀ c ∈ md_X12_most, c ∈ md_X12_worthBehind := by decide
variable {q : Int32 × zH}
theorem m_X12_worthBehind_84 {k5 : Int32 → Int32 → Int32 → Int32 → zH → zR} (hk5 : ∀ (h0 : zH) (x1 : Int32) (x2 : Int32) (x3 : Int32) (x4 : Int32), k5 x1 x2 x3 x4 h0 = some q → ∀ c, c ∉ md_X12_worthBehind → q.2 c = h0 c) : ∀ (h0 : zH) (x1 : Int32) (x2 : Int32) (x3 : Int32) (x4 : Int32), f_X12_worthBehind_84 k5 x1 x2 x3 x4 h0 = some q → ∀ c, c ∉ md_X12_worthBehind → q.2 c = h0 c := by
  intro h x1 x2 x3 x4 hf
  unfold f_X12_worthBehind_84 at hf
  have fr : ∀ c, c ∉ md_X12_worthBehind → h c = h c := fun _ _ => rfl
  obtain ⟨y11, ey11, hf⟩ := zlt_some hf
  exact fun c hc9 => (hk5 _ _ _ _ _ hf c hc9).trans (fr c hc9)
theorem m_X12_worthBehind_60 {k5 : Int32 → Int32 → Int32 → Int32 → zH → zR} (hk5 : ∀ (h0 : zH) (x1 : Int32) (x2 : Int32) (x3 : Int32) (x4 : Int32), k5 x1 x2 x3 x4 h0 = some q → ∀ c, c ∉ md_X12_worthBehind → q.2 c = h0 c) : ∀ (h0 : zH) (x1 : Int32) (x2 : Int32) (x3 : Int32) (x4 : Int32) (s0 : Int32), f_X12_worthBehind_60 k5 x1 x2 x3 x4 s0 h0 = some q → ∀ c, c ∉ md_X12_worthBehind → q.2 c = h0 c := by
  intro h x1 x2 x3 x4 s0 hf
  unfold f_X12_worthBehind_60 at hf
  have fr : ∀ c, c ∉ md_X12_worthBehind → h c = h c := fun _ _ => rfl
  obtain ⟨hi, hf⟩ := zck_some hf
  obtain ⟨r9, h10, er9, hf⟩ := zbd_some hf
  have fr : ∀ c, c ∉ md_X12_worthBehind → h10 c = h c := fun c hc9 => (m_X12_most _ _ _ er9 c (fun z => hc9 (sm_X12_worthBehind_X12_most c z))).trans (fr c hc9)
  exact fun c hc9 => (m_X12_worthBehind_84 hk5 _ _ _ _ _ hf c hc9).trans (fr c hc9)
theorem m_X12_worthBehind_5   : ∀ n, ∀ (h0 : zH) (x1 : Int32) (x2 : Int32) (x3 : Int32) (x4 : Int32), f_X12_worthBehind_5  n x1 x2 x3 x4 h0 = some q → ∀ c, c ∉ md_X12_worthBehind → q.2 c = h0 c := by
  intro n
  induction n with
  | zero => intro h x1 x2 x3 x4 hf; cases hf
  | succ n ih =>
    intro h x1 x2 x3 x4 hf
    rw [f_X12_worthBehind_5] at hf
    have fr : ∀ c, c ∉ md_X12_worthBehind → h c = h c := fun _ _ => rfl
    rcases zif_c hf with ⟨hc, hf⟩ | ⟨hc, hf⟩
    · skip
      cases hf
      exact fr
    · skip
      obtain ⟨r1, h2, er1, hf⟩ := zbd_some hf
      have fr : ∀ c, c ∉ md_X12_worthBehind → h2 c = h c := fun c hc9 => (m_X12_ofHalf _ _ _ er1 c (fun z => hc9 (sm_X12_worthBehind_X12_ofHalf c z))).trans (fr c hc9)
      obtain ⟨r3, h4, er3, hf⟩ := zbd_some hf
      have fr : ∀ c, c ∉ md_X12_worthBehind → h4 c = h c := fun c hc9 => (m_X12_ofHalf _ _ _ er3 c (fun z => hc9 (sm_X12_worthBehind_X12_ofHalf c z))).trans (fr c hc9)
      rcases zif_n hf with ⟨hc, hf⟩ | ⟨hc, hf⟩
      · skip
        obtain ⟨r5, h6, er5, hf⟩ := zbd_some hf
        have fr : ∀ c, c ∉ md_X12_worthBehind → h6 c = h c := fun c hc9 => (m_X12_isFront _ _ er5 c (fun z => hc9 (sm_X12_worthBehind_X12_isFront c z))).trans (fr c hc9)
        rcases zif_c hf with ⟨hc, hf⟩ | ⟨hc, hf⟩
        · skip
          obtain ⟨r7, h8, er7, hf⟩ := zbd_some hf
          have fr : ∀ c, c ∉ md_X12_worthBehind → h8 c = h c := fun c hc9 => (m_X12_laughOf _ _ _ er7 c (fun z => hc9 (sm_X12_worthBehind_X12_laughOf c z))).trans (fr c hc9)
          exact fun c hc9 => (m_X12_worthBehind_60 ih _ _ _ _ _ _ hf c hc9).trans (fr c hc9)
        · skip
          obtain ⟨r12, h13, er12, hf⟩ := zbd_some hf
          have fr : ∀ c, c ∉ md_X12_worthBehind → h13 c = h c := fun c hc9 => (m_X12_laughOf _ _ _ er12 c (fun z => hc9 (sm_X12_worthBehind_X12_laughOf c z))).trans (fr c hc9)
          exact fun c hc9 => (m_X12_worthBehind_60 ih _ _ _ _ _ _ hf c hc9).trans (fr c hc9)
      · skip
        exact fun c hc9 => (m_X12_worthBehind_84 ih _ _ _ _ _ hf c hc9).trans (fr c hc9)
theorem m_X12_worthBehind : ∀ (h0 : zH) (x1 : Int32) (x2 : Int32) {q : Int32 × zH}, f_X12_worthBehind x1 x2 h0 = some q → ∀ c, c ∉ md_X12_worthBehind → q.2 c = h0 c := by
  intro h x1 x2 q hf
  unfold f_X12_worthBehind at hf
  have fr : ∀ c, c ∉ md_X12_worthBehind → h c = h c := fun _ _ => rfl
  exact fun c hc9 => (m_X12_worthBehind_5  zN _ _ _ _ _ hf c hc9).trans (fr c hc9)
end
section
abbrev md_X12_worth : List Nat := [108, 109, 116]
theorem sm_X12_worth_X12_isIn : ∀ c ∈ md_X12_isIn, c ∈ md_X12_worth := by decide
theorem sm_X12_worth_X12_isAlike : ∀ c ∈ md_X12_isAlike, c ∈ md_X12_worth := by decide
theorem sm_X12_worth_X12_worthBehind : ∀ c ∈ md_X12_worthBehind, c ∈ md_X12_worth := by decide
theorem sm_X12_worth_X12_ofHalf : ∀ c ∈ md_X12_ofHalf, c ∈ md_X12_worth := by decide
variable {q : Int32 × zH}
theorem m_X12_worth_176 {k144 : Int32 → Int32 → zH → zR} (hk144 : ∀ (h0 : zH) (x2 : Int32) (x3 : Int32), k144 x2 x3 h0 = some q → ∀ c, c ∉ md_X12_worth → q.2 c = h0 c) : ∀ n, ∀ (h0 : zH) (x2 : Int32) (x3 : Int32) (x4 : Int32), f_X12_worth_176 k144 n x2 x3 x4 h0 = some q → ∀ c, c ∉ md_X12_worth → q.2 c = h0 c := by
  intro n
  induction n with
  | zero => intro h x2 x3 x4 hf; cases hf
  | succ n ih =>
    intro h x2 x3 x4 hf
    rw [f_X12_worth_176] at hf
    have fr : ∀ c, c ∉ md_X12_worth → h c = h c := fun _ _ => rfl
    rcases zif_c hf with ⟨hc, hf⟩ | ⟨hc, hf⟩
    · skip
      obtain ⟨y5, ey5, hf⟩ := zlt_some hf
      exact fun c hc9 => (hk144 _ _ _ hf c hc9).trans (fr c hc9)
    · skip
      obtain ⟨r6, h7, er6, hf⟩ := zbd_some hf
      have fr : ∀ c, c ∉ md_X12_worth → h7 c = h c := fun c hc9 => (m_X12_isAlike _ _ _ er6 c (fun z => hc9 (sm_X12_worth_X12_isAlike c z))).trans (fr c hc9)
      rcases zif_c hf with ⟨hc, hf⟩ | ⟨hc, hf⟩
      · skip
        obtain ⟨y8, ey8, hf⟩ := zlt_some hf
        exact fun c hc9 => (ih _ _ _ _ hf c hc9).trans (fr c hc9)
      · skip
        rcases zif_n hf with ⟨hc, hf⟩ | ⟨hc, hf⟩
        · skip
          cases hf
          exact fr
        · skip
          cases hf
          exact fr
theorem m_X12_worth_144   : ∀ n, ∀ (h0 : zH) (x2 : Int32) (x3 : Int32), f_X12_worth_144  n x2 x3 h0 = some q → ∀ c, c ∉ md_X12_worth → q.2 c = h0 c := by
  intro n
  induction n with
  | zero => intro h x2 x3 hf; cases hf
  | succ n ih =>
    intro h x2 x3 hf
    rw [f_X12_worth_144] at hf
    have fr : ∀ c, c ∉ md_X12_worth → h c = h c := fun _ _ => rfl
    rcases zif_c hf with ⟨hc, hf⟩ | ⟨hc, hf⟩
    · skip
      rcases zif_n hf with ⟨hc, hf⟩ | ⟨hc, hf⟩
      · skip
        cases hf
        exact fr
      · skip
        cases hf
        exact fr
    · skip
      obtain ⟨r3, h4, er3, hf⟩ := zbd_some hf
      have fr : ∀ c, c ∉ md_X12_worth → h4 c = h c := fun c hc9 => (m_X12_isAlike _ _ _ er3 c (fun z => hc9 (sm_X12_worth_X12_isAlike c z))).trans (fr c hc9)
      rcases zif_c hf with ⟨hc, hf⟩ | ⟨hc, hf⟩
      · skip
        exact fun c hc9 => (m_X12_worth_176 ih zN _ _ _ _ hf c hc9).trans (fr c hc9)
      · skip
        rcases zif_n hf with ⟨hc, hf⟩ | ⟨hc, hf⟩
        · skip
          cases hf
          exact fr
        · skip
          cases hf
          exact fr
theorem m_X12_worth_80 {k71 : Int32 → Int32 → Int32 → zH → zR} (hk71 : ∀ (h0 : zH) (x1 : Int32) (x2 : Int32) (x3 : Int32), k71 x1 x2 x3 h0 = some q → ∀ c, c ∉ md_X12_worth → q.2 c = h0 c) : ∀ n, ∀ (h0 : zH) (x1 : Int32) (x2 : Int32) (x3 : Int32) (x4 : Int32), f_X12_worth_80 k71 n x1 x2 x3 x4 h0 = some q → ∀ c, c ∉ md_X12_worth → q.2 c = h0 c := by
  intro n
  induction n with
  | zero => intro h x1 x2 x3 x4 hf; cases hf
  | succ n ih =>
    intro h x1 x2 x3 x4 hf
    rw [f_X12_worth_80] at hf
    have fr : ∀ c, c ∉ md_X12_worth → h c = h c := fun _ _ => rfl
    rcases zif_c hf with ⟨hc, hf⟩ | ⟨hc, hf⟩
    · skip
      obtain ⟨y9, ey9, hf⟩ := zlt_some hf
      exact fun c hc9 => (hk71 _ _ _ _ hf c hc9).trans (fr c hc9)
    · skip
      obtain ⟨r10, h11, er10, hf⟩ := zbd_some hf
      have fr : ∀ c, c ∉ md_X12_worth → h11 c = h c := fun c hc9 => (m_X12_worthBehind _ _ _ er10 c (fun z => hc9 (sm_X12_worth_X12_worthBehind c z))).trans (fr c hc9)
      obtain ⟨hi, hf⟩ := zck_some hf
      obtain ⟨h12, eh12, hf⟩ := zst_some hf
      have fr : ∀ c, c ∉ md_X12_worth → h12 c = h c := fun c hc9 => (congrFun eh12 c).trans ((zup_ne c (fun z => hc9 (by rw [z]; decide))).trans (fr c hc9))
      obtain ⟨y13, ey13, hf⟩ := zlt_some hf
      exact fun c hc9 => (ih _ _ _ _ _ hf c hc9).trans (fr c hc9)
theorem m_X12_worth_71   : ∀ n, ∀ (h0 : zH) (x1 : Int32) (x2 : Int32) (x3 : Int32), f_X12_worth_71  n x1 x2 x3 h0 = some q → ∀ c, c ∉ md_X12_worth → q.2 c = h0 c := by
  intro n
  induction n with
  | zero => intro h x1 x2 x3 hf; cases hf
  | succ n ih =>
    intro h x1 x2 x3 hf
    rw [f_X12_worth_71] at hf
    have fr : ∀ c, c ∉ md_X12_worth → h c = h c := fun _ _ => rfl
    rcases zif_c hf with ⟨hc, hf⟩ | ⟨hc, hf⟩
    · skip
      rcases zif_c hf with ⟨hc, hf⟩ | ⟨hc, hf⟩
      · skip
        exact fun c hc9 => (m_X12_worth_144  zN _ _ _ hf c hc9).trans (fr c hc9)
      · skip
        obtain ⟨hi, hf⟩ := zck_some hf
        cases hf
        exact fr
    · skip
      exact fun c hc9 => (m_X12_worth_80 ih zN _ _ _ _ _ hf c hc9).trans (fr c hc9)
theorem m_X12_worth_41   : ∀ n, ∀ (h0 : zH) (x1 : Int32) (x2 : Int32) (x3 : Int32), f_X12_worth_41  n x1 x2 x3 h0 = some q → ∀ c, c ∉ md_X12_worth → q.2 c = h0 c := by
  intro n
  induction n with
  | zero => intro h x1 x2 x3 hf; cases hf
  | succ n ih =>
    intro h x1 x2 x3 hf
    rw [f_X12_worth_41] at hf
    have fr : ∀ c, c ∉ md_X12_worth → h c = h c := fun _ _ => rfl
    rcases zif_c hf with ⟨hc, hf⟩ | ⟨hc, hf⟩
    · skip
      exact fun c hc9 => (m_X12_worth_71  zN _ _ _ _ hf c hc9).trans (fr c hc9)
    · skip
      obtain ⟨r14, h15, er14, hf⟩ := zbd_some hf
      have fr : ∀ c, c ∉ md_X12_worth → h15 c = h c := fun c hc9 => (m_X12_ofHalf _ _ _ er14 c (fun z => hc9 (sm_X12_worth_X12_ofHalf c z))).trans (fr c hc9)
      obtain ⟨hi, hf⟩ := zck_some hf
      obtain ⟨h16, eh16, hf⟩ := zst_some hf
      have fr : ∀ c, c ∉ md_X12_worth → h16 c = h c := fun c hc9 => (congrFun eh16 c).trans ((zup_ne c (fun z => hc9 (by rw [z]; decide))).trans (fr c hc9))
      obtain ⟨y17, ey17, hf⟩ := zlt_some hf
      exact fun c hc9 => (ih _ _ _ _ hf c hc9).trans (fr c hc9)
theorem m_X12_worth_39   : ∀ (h0 : zH) (x1 : Int32) (x2 : Int32), f_X12_worth_39  x1 x2 h0 = some q → ∀ c, c ∉ md_X12_worth → q.2 c = h0 c := by
  intro h x1 x2 hf
  unfold f_X12_worth_39 at hf
  have fr : ∀ c, c ∉ md_X12_worth → h c = h c := fun _ _ => rfl
  exact fun c hc9 => (m_X12_worth_41  zN _ _ _ _ hf c hc9).trans (fr c hc9)
theorem m_X12_worth_37   : ∀ (h0 : zH), f_X12_worth_37  h0 = some q → ∀ c, c ∉ md_X12_worth → q.2 c = h0 c := by
  intro h hf
  unfold f_X12_worth_37 at hf
  have fr : ∀ c, c ∉ md_X12_worth → h c = h c := fun _ _ => rfl
  cases hf
  exact fr
theorem m_X12_worth : ∀ (h0 : zH) (x1 : Int32) (x2 : Int32) {q : Int32 × zH}, f_X12_worth x1 x2 h0 = some q → ∀ c, c ∉ md_X12_worth → q.2 c = h0 c := by
  intro h x1 x2 q hf
  unfold f_X12_worth at hf
  have fr : ∀ c, c ∉ md_X12_worth → h c = h c := fun _ _ => rfl
  obtain ⟨r1, h2, er1, hf⟩ := zbd_some hf
  have fr : ∀ c, c ∉ md_X12_worth → h2 c = h c := fun c hc9 => (m_X12_isIn _ _ _ _ er1 c (fun z => hc9 (sm_X12_worth_X12_isIn c z))).trans (fr c hc9)
  rcases zif_n hf with ⟨hc, hf⟩ | ⟨hc, hf⟩
  · skip
    exact fun c hc9 => (m_X12_worth_39  _ _ _ hf c hc9).trans (fr c hc9)
  · skip
    obtain ⟨r18, h19, er18, hf⟩ := zbd_some hf
    have fr : ∀ c, c ∉ md_X12_worth → h19 c = h c := fun c hc9 => (m_X12_isIn _ _ _ _ er18 c (fun z => hc9 (sm_X12_worth_X12_isIn c z))).trans (fr c hc9)
    rcases zif_c hf with ⟨hc, hf⟩ | ⟨hc, hf⟩
    · skip
      exact fun c hc9 => (m_X12_worth_37  _ hf c hc9).trans (fr c hc9)
    · skip
      obtain ⟨r20, h21, er20, hf⟩ := zbd_some hf
      have fr : ∀ c, c ∉ md_X12_worth → h21 c = h c := fun c hc9 => (m_X12_isIn _ _ _ _ er20 c (fun z => hc9 (sm_X12_worth_X12_isIn c z))).trans (fr c hc9)
      rcases zif_n hf with ⟨hc, hf⟩ | ⟨hc, hf⟩
      · skip
        exact fun c hc9 => (m_X12_worth_39  _ _ _ hf c hc9).trans (fr c hc9)
      · skip
        exact fun c hc9 => (m_X12_worth_37  _ hf c hc9).trans (fr c hc9)
end
section
abbrev md_X7_addToken : List Nat := [29, 31, 32, 33]
variable {q : Int32 × zH}
theorem m_X7_addToken : ∀ (h0 : zH) (x1 : Int32) (x2 : Int32) (x3 : Int32) {q : Int32 × zH}, f_X7_addToken x1 x2 x3 h0 = some q → ∀ c, c ∉ md_X7_addToken → q.2 c = h0 c := by
  intro h x1 x2 x3 q hf
  unfold f_X7_addToken at hf
  have fr : ∀ c, c ∉ md_X7_addToken → h c = h c := fun _ _ => rfl
  rcases zif_c hf with ⟨hc, hf⟩ | ⟨hc, hf⟩
  · skip
    cases hf
    exact fr
  · skip
    obtain ⟨hi, hf⟩ := zck_some hf
    obtain ⟨h1, eh1, hf⟩ := zst_some hf
    have fr : ∀ c, c ∉ md_X7_addToken → h1 c = h c := fun c hc9 => (congrFun eh1 c).trans ((zup_ne c (fun z => hc9 (by rw [z]; decide))).trans (fr c hc9))
    obtain ⟨hi, hf⟩ := zck_some hf
    obtain ⟨h2, eh2, hf⟩ := zst_some hf
    have fr : ∀ c, c ∉ md_X7_addToken → h2 c = h c := fun c hc9 => (congrFun eh2 c).trans ((zup_ne c (fun z => hc9 (by rw [z]; decide))).trans (fr c hc9))
    obtain ⟨hi, hf⟩ := zck_some hf
    obtain ⟨h3, eh3, hf⟩ := zst_some hf
    have fr : ∀ c, c ∉ md_X7_addToken → h3 c = h c := fun c hc9 => (congrFun eh3 c).trans ((zup_ne c (fun z => hc9 (by rw [z]; decide))).trans (fr c hc9))
    obtain ⟨h4, eh4, hf⟩ := zst_some hf
    have fr : ∀ c, c ∉ md_X7_addToken → h4 c = h c := fun c hc9 => (congrFun eh4 c).trans ((zup_ne c (fun z => hc9 (by rw [z]; decide))).trans (fr c hc9))
    cases hf
    exact fr
end
section
abbrev md_X7_isLetter : List Nat := []
variable {q : Int32 × zH}
theorem m_X7_isLetter_28   : ∀ (h0 : zH), f_X7_isLetter_28  h0 = some q → ∀ c, c ∉ md_X7_isLetter → q.2 c = h0 c := by
  intro h hf
  unfold f_X7_isLetter_28 at hf
  have fr : ∀ c, c ∉ md_X7_isLetter → h c = h c := fun _ _ => rfl
  cases hf
  exact fr
theorem m_X7_isLetter_24   : ∀ (h0 : zH), f_X7_isLetter_24  h0 = some q → ∀ c, c ∉ md_X7_isLetter → q.2 c = h0 c := by
  intro h hf
  unfold f_X7_isLetter_24 at hf
  have fr : ∀ c, c ∉ md_X7_isLetter → h c = h c := fun _ _ => rfl
  cases hf
  exact fr
theorem m_X7_isLetter_12   : ∀ (h0 : zH) (x0 : Int32), f_X7_isLetter_12  x0 h0 = some q → ∀ c, c ∉ md_X7_isLetter → q.2 c = h0 c := by
  intro h x0 hf
  unfold f_X7_isLetter_12 at hf
  have fr : ∀ c, c ∉ md_X7_isLetter → h c = h c := fun _ _ => rfl
  rcases zif_c hf with ⟨hc, hf⟩ | ⟨hc, hf⟩
  · skip
    exact fun c hc9 => (m_X7_isLetter_28  _ hf c hc9).trans (fr c hc9)
  · skip
    rcases zif_c hf with ⟨hc, hf⟩ | ⟨hc, hf⟩
    · skip
      exact fun c hc9 => (m_X7_isLetter_28  _ hf c hc9).trans (fr c hc9)
    · skip
      exact fun c hc9 => (m_X7_isLetter_24  _ hf c hc9).trans (fr c hc9)
theorem m_X7_isLetter : ∀ (h0 : zH) (x0 : Int32) {q : Int32 × zH}, f_X7_isLetter x0 h0 = some q → ∀ c, c ∉ md_X7_isLetter → q.2 c = h0 c := by
  intro h x0 q hf
  unfold f_X7_isLetter at hf
  have fr : ∀ c, c ∉ md_X7_isLetter → h c = h c := fun _ _ => rfl
  rcases zif_c hf with ⟨hc, hf⟩ | ⟨hc, hf⟩
  · skip
    exact fun c hc9 => (m_X7_isLetter_12  _ _ hf c hc9).trans (fr c hc9)
  · skip
    rcases zif_c hf with ⟨hc, hf⟩ | ⟨hc, hf⟩
    · skip
      exact fun c hc9 => (m_X7_isLetter_24  _ hf c hc9).trans (fr c hc9)
    · skip
      exact fun c hc9 => (m_X7_isLetter_12  _ _ hf c hc9).trans (fr c hc9)
end
section
abbrev md_X7_isDigit : List Nat := []
variable {q : Int32 × zH}
theorem m_X7_isDigit_16   : ∀ (h0 : zH), f_X7_isDigit_16  h0 = some q → ∀ c, c ∉ md_X7_isDigit → q.2 c = h0 c := by
  intro h hf
  unfold f_X7_isDigit_16 at hf
  have fr : ∀ c, c ∉ md_X7_isDigit → h c = h c := fun _ _ => rfl
  cases hf
  exact fr
theorem m_X7_isDigit : ∀ (h0 : zH) (x0 : Int32) {q : Int32 × zH}, f_X7_isDigit x0 h0 = some q → ∀ c, c ∉ md_X7_isDigit → q.2 c = h0 c := by
  intro h x0 q hf
  unfold f_X7_isDigit at hf
  have fr : ∀ c, c ∉ md_X7_isDigit → h c = h c := fun _ _ => rfl
  rcases zif_c hf with ⟨hc, hf⟩ | ⟨hc, hf⟩
  · skip
    exact fun c hc9 => (m_X7_isDigit_16  _ hf c hc9).trans (fr c hc9)
  · skip
    rcases zif_c hf with ⟨hc, hf⟩ | ⟨hc, hf⟩
    · skip
      exact fun c hc9 => (m_X7_isDigit_16  _ hf c hc9).trans (fr c hc9)
    · skip
      cases hf
      exact fr
end
section
abbrev md_J0_isLatin1_aae02 : List Nat := []
variable {q : Int32 × zH}
theorem m_J0_isLatin1_aae02_17   : ∀ (h0 : zH), f_J0_isLatin1_aae02_17  h0 = some q → ∀ c, c ∉ md_J0_isLatin1_aae02 → q.2 c = h0 c := by
  intro h hf
  unfold f_J0_isLatin1_aae02_17 at hf
  have fr : ∀ c, c ∉ md_J0_isLatin1_aae02 → h c = h c := fun _ _ => rfl
  cases hf
  exact fr
theorem m_J0_isLatin1_aae02 : ∀ (h0 : zH) (i0 : Nat) {q : Int32 × zH}, f_J0_isLatin1_aae02 i0 h0 = some q → ∀ c, c ∉ md_J0_isLatin1_aae02 → q.2 c = h0 c := by
  intro h i0 q hf
  unfold f_J0_isLatin1_aae02 at hf
  have fr : ∀ c, c ∉ md_J0_isLatin1_aae02 → h c = h c := fun _ _ => rfl
  rcases zif_c hf with ⟨hc, hf⟩ | ⟨hc, hf⟩
  · skip
    exact fun c hc9 => (m_J0_isLatin1_aae02_17  _ hf c hc9).trans (fr c hc9)
  · skip
    rcases zif_n hf with ⟨hc, hf⟩ | ⟨hc, hf⟩
    · skip
      exact fun c hc9 => (m_J0_isLatin1_aae02_17  _ hf c hc9).trans (fr c hc9)
    · skip
      cases hf
      exact fr
end
section
abbrev md_J0_coder_7d493 : List Nat := []
variable {q : Int32 × zH}
theorem m_J0_coder_7d493 : ∀ (h0 : zH) (i0 : Nat) {q : Int32 × zH}, f_J0_coder_7d493 i0 h0 = some q → ∀ c, c ∉ md_J0_coder_7d493 → q.2 c = h0 c := by
  intro h i0 q hf
  unfold f_J0_coder_7d493 at hf
  have fr : ∀ c, c ∉ md_J0_coder_7d493 → h c = h c := fun _ _ => rfl
  rcases zif_c hf with ⟨hc, hf⟩ | ⟨hc, hf⟩
  · skip
    cases hf
    exact fr
  · skip
    cases hf
    exact fr
end
section
abbrev md_J0_length_8abf5 : List Nat := []
theorem sm_J0_length_8abf5_J0_coder_7d493 : ∀ c ∈ md_J0_coder_7d493, c ∈ md_J0_length_8abf5 := by decide
variable {q : Int32 × zH}
theorem m_J0_length_8abf5 : ∀ (h0 : zH) (i0 : Nat) {q : Int32 × zH}, f_J0_length_8abf5 i0 h0 = some q → ∀ c, c ∉ md_J0_length_8abf5 → q.2 c = h0 c := by
  intro h i0 q hf
  unfold f_J0_length_8abf5 at hf
  have fr : ∀ c, c ∉ md_J0_length_8abf5 → h c = h c := fun _ _ => rfl
  obtain ⟨r1, h2, er1, hf⟩ := zbd_some hf
  have fr : ∀ c, c ∉ md_J0_length_8abf5 → h2 c = h c := fun c hc9 => (m_J0_coder_7d493 _ _ er1 c (fun z => hc9 (sm_J0_length_8abf5_J0_coder_7d493 c z))).trans (fr c hc9)
  cases hf
  exact fr
end
section
abbrev md_J1_canEncode_9a6ad : List Nat := []
variable {q : Int32 × zH}
theorem m_J1_canEncode_9a6ad_15   : ∀ (h0 : zH), f_J1_canEncode_9a6ad_15  h0 = some q → ∀ c, c ∉ md_J1_canEncode_9a6ad → q.2 c = h0 c := by
  intro h hf
  unfold f_J1_canEncode_9a6ad_15 at hf
  have fr : ∀ c, c ∉ md_J1_canEncode_9a6ad → h c = h c := fun _ _ => rfl
  cases hf
  exact fr
theorem m_J1_canEncode_9a6ad : ∀ (h0 : zH) (x0 : Int32) {q : Int32 × zH}, f_J1_canEncode_9a6ad x0 h0 = some q → ∀ c, c ∉ md_J1_canEncode_9a6ad → q.2 c = h0 c := by
  intro h x0 q hf
  unfold f_J1_canEncode_9a6ad at hf
  have fr : ∀ c, c ∉ md_J1_canEncode_9a6ad → h c = h c := fun _ _ => rfl
  rcases zif_c hf with ⟨hc, hf⟩ | ⟨hc, hf⟩
  · skip
    exact fun c hc9 => (m_J1_canEncode_9a6ad_15  _ hf c hc9).trans (fr c hc9)
  · skip
    rcases zif_c hf with ⟨hc, hf⟩ | ⟨hc, hf⟩
    · skip
      exact fun c hc9 => (m_J1_canEncode_9a6ad_15  _ hf c hc9).trans (fr c hc9)
    · skip
      cases hf
      exact fr
end
section
abbrev md_J1_indexOfChar_4cfef : List Nat := []
variable {q : Int32 × zH}
theorem m_J1_indexOfChar_4cfef_7   : ∀ n, ∀ (h0 : zH) (i0 : Nat) (x3 : Int32) (x4 : Int32) (x5 : Int32), f_J1_indexOfChar_4cfef_7  n i0 x3 x4 x5 h0 = some q → ∀ c, c ∉ md_J1_indexOfChar_4cfef → q.2 c = h0 c := by
  intro n
  induction n with
  | zero => intro h i0 x3 x4 x5 hf; cases hf
  | succ n ih =>
    intro h i0 x3 x4 x5 hf
    rw [f_J1_indexOfChar_4cfef_7] at hf
    have fr : ∀ c, c ∉ md_J1_indexOfChar_4cfef → h c = h c := fun _ _ => rfl
    rcases zif_c hf with ⟨hc, hf⟩ | ⟨hc, hf⟩
    · skip
      cases hf
      exact fr
    · skip
      obtain ⟨hi, hf⟩ := zck_some hf
      rcases zif_n hf with ⟨hc, hf⟩ | ⟨hc, hf⟩
      · skip
        obtain ⟨y2, ey2, hf⟩ := zlt_some hf
        exact fun c hc9 => (ih _ _ _ _ _ hf c hc9).trans (fr c hc9)
      · skip
        cases hf
        exact fr
theorem m_J1_indexOfChar_4cfef : ∀ (h0 : zH) (i0 : Nat) (x1 : Int32) (x2 : Int32) (x3 : Int32) {q : Int32 × zH}, f_J1_indexOfChar_4cfef i0 x1 x2 x3 h0 = some q → ∀ c, c ∉ md_J1_indexOfChar_4cfef → q.2 c = h0 c := by
  intro h i0 x1 x2 x3 q hf
  unfold f_J1_indexOfChar_4cfef at hf
  have fr : ∀ c, c ∉ md_J1_indexOfChar_4cfef → h c = h c := fun _ _ => rfl
  obtain ⟨y1, ey1, hf⟩ := zlt_some hf
  exact fun c hc9 => (m_J1_indexOfChar_4cfef_7  zN _ _ _ _ _ hf c hc9).trans (fr c hc9)
end
section
abbrev md_J1_indexOf_4cfef : List Nat := []
theorem sm_J1_indexOf_4cfef_J1_canEncode_9a6ad : ∀ c ∈ md_J1_canEncode_9a6ad, c ∈ md_J1_indexOf_4cfef := by decide
theorem sm_J1_indexOf_4cfef_J1_indexOfChar_4cfef : ∀ c ∈ md_J1_indexOfChar_4cfef, c ∈ md_J1_indexOf_4cfef := by decide
variable {q : Int32 × zH}
theorem m_J1_indexOf_4cfef : ∀ (h0 : zH) (i0 : Nat) (x1 : Int32) (x2 : Int32) (x3 : Int32) {q : Int32 × zH}, f_J1_indexOf_4cfef i0 x1 x2 x3 h0 = some q → ∀ c, c ∉ md_J1_indexOf_4cfef → q.2 c = h0 c := by
  intro h i0 x1 x2 x3 q hf
  unfold f_J1_indexOf_4cfef at hf
  have fr : ∀ c, c ∉ md_J1_indexOf_4cfef → h c = h c := fun _ _ => rfl
  obtain ⟨r1, h2, er1, hf⟩ := zbd_some hf
  have fr : ∀ c, c ∉ md_J1_indexOf_4cfef → h2 c = h c := fun c hc9 => (m_J1_canEncode_9a6ad _ _ er1 c (fun z => hc9 (sm_J1_indexOf_4cfef_J1_canEncode_9a6ad c z))).trans (fr c hc9)
  rcases zif_n hf with ⟨hc, hf⟩ | ⟨hc, hf⟩
  · skip
    obtain ⟨y3, ey3, hf⟩ := zlt_some hf
    obtain ⟨y4, ey4, hf⟩ := zlt_some hf
    rcases zif_c hf with ⟨hc, hf⟩ | ⟨hc, hf⟩
    · skip
      obtain ⟨r5, h6, er5, hf⟩ := zbd_some hf
      have fr : ∀ c, c ∉ md_J1_indexOf_4cfef → h6 c = h c := fun c hc9 => (m_J1_indexOfChar_4cfef _ _ _ _ _ er5 c (fun z => hc9 (sm_J1_indexOf_4cfef_J1_indexOfChar_4cfef c z))).trans (fr c hc9)
      cases hf
      exact fr
    · skip
      cases hf
      exact fr
  · skip
    cases hf
    exact fr
end
section
abbrev md_J0_indexOf_7cf53 : List Nat := []
theorem sm_J0_indexOf_7cf53_J0_isLatin1_aae02 : ∀ c ∈ md_J0_isLatin1_aae02, c ∈ md_J0_indexOf_7cf53 := by decide
theorem sm_J0_indexOf_7cf53_J0_length_8abf5 : ∀ c ∈ md_J0_length_8abf5, c ∈ md_J0_indexOf_7cf53 := by decide
theorem sm_J0_indexOf_7cf53_J1_indexOf_4cfef : ∀ c ∈ md_J1_indexOf_4cfef, c ∈ md_J0_indexOf_7cf53 := by decide
variable {q : Int32 × zH}
theorem m_J0_indexOf_7cf53 : ∀ (h0 : zH) (i0 : Nat) (x1 : Int32) (x2 : Int32) {q : Int32 × zH}, f_J0_indexOf_7cf53 i0 x1 x2 h0 = some q → ∀ c, c ∉ md_J0_indexOf_7cf53 → q.2 c = h0 c := by
  intro h i0 x1 x2 q hf
  unfold f_J0_indexOf_7cf53 at hf
  have fr : ∀ c, c ∉ md_J0_indexOf_7cf53 → h c = h c := fun _ _ => rfl
  obtain ⟨r1, h2, er1, hf⟩ := zbd_some hf
  have fr : ∀ c, c ∉ md_J0_indexOf_7cf53 → h2 c = h c := fun c hc9 => (m_J0_isLatin1_aae02 _ _ er1 c (fun z => hc9 (sm_J0_indexOf_7cf53_J0_isLatin1_aae02 c z))).trans (fr c hc9)
  rcases zif_c hf with ⟨hc, hf⟩ | ⟨hc, hf⟩
  · skip
    obtain ⟨r3, h4, er3, hf⟩ := zbd_some hf
    have fr : ∀ c, c ∉ md_J0_indexOf_7cf53 → h4 c = h c := fun c hc9 => (m_J0_length_8abf5 _ _ er3 c (fun z => hc9 (sm_J0_indexOf_7cf53_J0_length_8abf5 c z))).trans (fr c hc9)
    cases hf
  · skip
    obtain ⟨r5, h6, er5, hf⟩ := zbd_some hf
    have fr : ∀ c, c ∉ md_J0_indexOf_7cf53 → h6 c = h c := fun c hc9 => (m_J0_length_8abf5 _ _ er5 c (fun z => hc9 (sm_J0_indexOf_7cf53_J0_length_8abf5 c z))).trans (fr c hc9)
    obtain ⟨r7, h8, er7, hf⟩ := zbd_some hf
    have fr : ∀ c, c ∉ md_J0_indexOf_7cf53 → h8 c = h c := fun c hc9 => (m_J1_indexOf_4cfef _ _ _ _ _ er7 c (fun z => hc9 (sm_J0_indexOf_7cf53_J1_indexOf_4cfef c z))).trans (fr c hc9)
    cases hf
    exact fr
end
section
abbrev md_J0_indexOf_0f7a4 : List Nat := []
theorem sm_J0_indexOf_0f7a4_J0_indexOf_7cf53 : ∀ c ∈ md_J0_indexOf_7cf53, c ∈ md_J0_indexOf_0f7a4 := by decide
variable {q : Int32 × zH}
theorem m_J0_indexOf_0f7a4 : ∀ (h0 : zH) (i0 : Nat) (x1 : Int32) {q : Int32 × zH}, f_J0_indexOf_0f7a4 i0 x1 h0 = some q → ∀ c, c ∉ md_J0_indexOf_0f7a4 → q.2 c = h0 c := by
  intro h i0 x1 q hf
  unfold f_J0_indexOf_0f7a4 at hf
  have fr : ∀ c, c ∉ md_J0_indexOf_0f7a4 → h c = h c := fun _ _ => rfl
  obtain ⟨r1, h2, er1, hf⟩ := zbd_some hf
  have fr : ∀ c, c ∉ md_J0_indexOf_0f7a4 → h2 c = h c := fun c hc9 => (m_J0_indexOf_7cf53 _ _ _ _ er1 c (fun z => hc9 (sm_J0_indexOf_0f7a4_J0_indexOf_7cf53 c z))).trans (fr c hc9)
  cases hf
  exact fr
end
section
abbrev md_X7_takeNumber : List Nat := [29, 31, 32, 33]
theorem sm_X7_takeNumber_X7_addToken : ∀ c ∈ md_X7_addToken, c ∈ md_X7_takeNumber := by decide
theorem sm_X7_takeNumber_X7_isDigit : ∀ c ∈ md_X7_isDigit, c ∈ md_X7_takeNumber := by decide
variable {q : Int32 × zH}
theorem m_X7_takeNumber_58   : ∀ (h0 : zH) (x1 : Int32) (x2 : Int32) (x3 : Int32) (s0 : Int32), f_X7_takeNumber_58  x1 x2 x3 s0 h0 = some q → ∀ c, c ∉ md_X7_takeNumber → q.2 c = h0 c := by
  intro h x1 x2 x3 s0 hf
  unfold f_X7_takeNumber_58 at hf
  have fr : ∀ c, c ∉ md_X7_takeNumber → h c = h c := fun _ _ => rfl
  obtain ⟨r1, h2, er1, hf⟩ := zbd_some hf
  have fr : ∀ c, c ∉ md_X7_takeNumber → h2 c = h c := fun c hc9 => (m_X7_addToken _ _ _ _ er1 c (fun z => hc9 (sm_X7_takeNumber_X7_addToken c z))).trans (fr c hc9)
  cases hf
  exact fr
theorem m_X7_takeNumber_45   : ∀ (h0 : zH) (x1 : Int32) (x2 : Int32) (x3 : Int32), f_X7_takeNumber_45  x1 x2 x3 h0 = some q → ∀ c, c ∉ md_X7_takeNumber → q.2 c = h0 c := by
  intro h x1 x2 x3 hf
  unfold f_X7_takeNumber_45 at hf
  have fr : ∀ c, c ∉ md_X7_takeNumber → h c = h c := fun _ _ => rfl
  rcases zif_c hf with ⟨hc, hf⟩ | ⟨hc, hf⟩
  · skip
    exact fun c hc9 => (m_X7_takeNumber_58  _ _ _ _ _ hf c hc9).trans (fr c hc9)
  · skip
    exact fun c hc9 => (m_X7_takeNumber_58  _ _ _ _ _ hf c hc9).trans (fr c hc9)
theorem m_X7_takeNumber_4   : ∀ n, ∀ (h0 : zH) (x1 : Int32) (x2 : Int32) (x3 : Int32), f_X7_takeNumber_4  n x1 x2 x3 h0 = some q → ∀ c, c ∉ md_X7_takeNumber → q.2 c = h0 c := by
  intro n
  induction n with
  | zero => intro h x1 x2 x3 hf; cases hf
  | succ n ih =>
    intro h x1 x2 x3 hf
    rw [f_X7_takeNumber_4] at hf
    have fr : ∀ c, c ∉ md_X7_takeNumber → h c = h c := fun _ _ => rfl
    rcases zif_c hf with ⟨hc, hf⟩ | ⟨hc, hf⟩
    · skip
      exact fun c hc9 => (m_X7_takeNumber_45  _ _ _ _ hf c hc9).trans (fr c hc9)
    · skip
      obtain ⟨hi, hf⟩ := zck_some hf
      obtain ⟨r3, h4, er3, hf⟩ := zbd_some hf
      have fr : ∀ c, c ∉ md_X7_takeNumber → h4 c = h c := fun c hc9 => (m_X7_isDigit _ _ er3 c (fun z => hc9 (sm_X7_takeNumber_X7_isDigit c z))).trans (fr c hc9)
      rcases zif_c hf with ⟨hc, hf⟩ | ⟨hc, hf⟩
      · skip
        exact fun c hc9 => (m_X7_takeNumber_45  _ _ _ _ hf c hc9).trans (fr c hc9)
      · skip
        obtain ⟨hi, hf⟩ := zck_some hf
        obtain ⟨y5, ey5, hf⟩ := zlt_some hf
        obtain ⟨y6, ey6, hf⟩ := zlt_some hf
        exact fun c hc9 => (ih _ _ _ _ hf c hc9).trans (fr c hc9)
theorem m_X7_takeNumber : ∀ (h0 : zH) (x1 : Int32) {q : Int32 × zH}, f_X7_takeNumber x1 h0 = some q → ∀ c, c ∉ md_X7_takeNumber → q.2 c = h0 c := by
  intro h x1 q hf
  unfold f_X7_takeNumber at hf
  have fr : ∀ c, c ∉ md_X7_takeNumber → h c = h c := fun _ _ => rfl
  exact fun c hc9 => (m_X7_takeNumber_4  zN _ _ _ _ hf c hc9).trans (fr c hc9)
end
section
abbrev md_J1_charAt_3b067 : List Nat := []
theorem sm_J1_charAt_3b067_J0_checkIndex_df160 : ∀ c ∈ md_J0_checkIndex_df160, c ∈ md_J1_charAt_3b067 := by decide
variable {q : Int32 × zH}
theorem m_J1_charAt_3b067 : ∀ (h0 : zH) (i0 : Nat) (x1 : Int32) {q : Int32 × zH}, f_J1_charAt_3b067 i0 x1 h0 = some q → ∀ c, c ∉ md_J1_charAt_3b067 → q.2 c = h0 c := by
  intro h i0 x1 q hf
  unfold f_J1_charAt_3b067 at hf
  have fr : ∀ c, c ∉ md_J1_charAt_3b067 → h c = h c := fun _ _ => rfl
  obtain ⟨r1, h2, er1, hf⟩ := zbd_some hf
  have fr : ∀ c, c ∉ md_J1_charAt_3b067 → h2 c = h c := fun c hc9 => (m_J0_checkIndex_df160 _ _ _ er1 c (fun z => hc9 (sm_J1_charAt_3b067_J0_checkIndex_df160 c z))).trans (fr c hc9)
  obtain ⟨hi, hf⟩ := zck_some hf
  cases hf
  exact fr
end
section
abbrev md_J0_charAt_5068e : List Nat := []
theorem sm_J0_charAt_5068e_J0_isLatin1_aae02 : ∀ c ∈ md_J0_isLatin1_aae02, c ∈ md_J0_charAt_5068e := by decide
theorem sm_J0_charAt_5068e_J1_charAt_3b067 : ∀ c ∈ md_J1_charAt_3b067, c ∈ md_J0_charAt_5068e := by decide
variable {q : Int32 × zH}
theorem m_J0_charAt_5068e : ∀ (h0 : zH) (i0 : Nat) (x1 : Int32) {q : Int32 × zH}, f_J0_charAt_5068e i0 x1 h0 = some q → ∀ c, c ∉ md_J0_charAt_5068e → q.2 c = h0 c := by
  intro h i0 x1 q hf
  unfold f_J0_charAt_5068e at hf
  have fr : ∀ c, c ∉ md_J0_charAt_5068e → h c = h c := fun _ _ => rfl
  obtain ⟨r1, h2, er1, hf⟩ := zbd_some hf
  have fr : ∀ c, c ∉ md_J0_charAt_5068e → h2 c = h c := fun c hc9 => (m_J0_isLatin1_aae02 _ _ er1 c (fun z => hc9 (sm_J0_charAt_5068e_J0_isLatin1_aae02 c z))).trans (fr c hc9)
  rcases zif_c hf with ⟨hc, hf⟩ | ⟨hc, hf⟩
  · skip
    cases hf
  · skip
    obtain ⟨r3, h4, er3, hf⟩ := zbd_some hf
    have fr : ∀ c, c ∉ md_J0_charAt_5068e → h4 c = h c := fun c hc9 => (m_J1_charAt_3b067 _ _ _ er3 c (fun z => hc9 (sm_J0_charAt_5068e_J1_charAt_3b067 c z))).trans (fr c hc9)
    obtain ⟨hb, hf⟩ := zch_some hf
    cases hf
    exact fr
end
section
abbrev md_X7_isWord : List Nat := []
theorem sm_X7_isWord_J0_charAt_5068e : ∀ c ∈ md_J0_charAt_5068e, c ∈ md_X7_isWord := by decide
variable {q : Int32 × zH}
theorem m_X7_isWord_40 {k12 : Int32 → Int32 → Int32 → Int32 → zH → zR} (hk12 : ∀ (h0 : zH) (x1 : Int32) (x2 : Int32) (x3 : Int32) (x4 : Int32), k12 x1 x2 x3 x4 h0 = some q → ∀ c, c ∉ md_X7_isWord → q.2 c = h0 c) : ∀ (h0 : zH) (x1 : Int32) (x2 : Int32) (x3 : Int32) (x4 : Int32) (s0 : Int32), f_X7_isWord_40 k12 x1 x2 x3 x4 s0 h0 = some q → ∀ c, c ∉ md_X7_isWord → q.2 c = h0 c := by
  intro h x1 x2 x3 x4 s0 hf
  unfold f_X7_isWord_40 at hf
  have fr : ∀ c, c ∉ md_X7_isWord → h c = h c := fun _ _ => rfl
  obtain ⟨r1, h2, er1, hf⟩ := zbd_some hf
  have fr : ∀ c, c ∉ md_X7_isWord → h2 c = h c := fun c hc9 => (m_J0_charAt_5068e _ _ _ er1 c (fun z => hc9 (sm_X7_isWord_J0_charAt_5068e c z))).trans (fr c hc9)
  rcases zif_c hf with ⟨hc, hf⟩ | ⟨hc, hf⟩
  · skip
    obtain ⟨y3, ey3, hf⟩ := zlt_some hf
    exact fun c hc9 => (hk12 _ _ _ _ _ hf c hc9).trans (fr c hc9)
  · skip
    cases hf
    exact fr
theorem m_X7_isWord_12   : ∀ n, ∀ (h0 : zH) (x1 : Int32) (x2 : Int32) (x3 : Int32) (x4 : Int32), f_X7_isWord_12  n x1 x2 x3 x4 h0 = some q → ∀ c, c ∉ md_X7_isWord → q.2 c = h0 c := by
  intro n
  induction n with
  | zero => intro h x1 x2 x3 x4 hf; cases hf
  | succ n ih =>
    intro h x1 x2 x3 x4 hf
    rw [f_X7_isWord_12] at hf
    have fr : ∀ c, c ∉ md_X7_isWord → h c = h c := fun _ _ => rfl
    rcases zif_c hf with ⟨hc, hf⟩ | ⟨hc, hf⟩
    · skip
      cases hf
      exact fr
    · skip
      rcases zif_c hf with ⟨hc, hf⟩ | ⟨hc, hf⟩
      · skip
        exact fun c hc9 => (m_X7_isWord_40 ih _ _ _ _ _ _ hf c hc9).trans (fr c hc9)
      · skip
        obtain ⟨hi, hf⟩ := zck_some hf
        exact fun c hc9 => (m_X7_isWord_40 ih _ _ _ _ _ _ hf c hc9).trans (fr c hc9)
theorem m_X7_isWord : ∀ (h0 : zH) (x1 : Int32) (x2 : Int32) (x3 : Int32) {q : Int32 × zH}, f_X7_isWord x1 x2 x3 h0 = some q → ∀ c, c ∉ md_X7_isWord → q.2 c = h0 c := by
  intro h x1 x2 x3 q hf
  unfold f_X7_isWord at hf
  have fr : ∀ c, c ∉ md_X7_isWord → h c = h c := fun _ _ => rfl
  rcases zif_c hf with ⟨hc, hf⟩ | ⟨hc, hf⟩
  · skip
    exact fun c hc9 => (m_X7_isWord_12  zN _ _ _ _ _ hf c hc9).trans (fr c hc9)
  · skip
    cases hf
    exact fr
end
section
abbrev md_X7_takeWord : List Nat := [29, 31, 32, 33]
theorem sm_X7_takeWord_X7_addToken : ∀ c ∈ md_X7_addToken, c ∈ md_X7_takeWord := by decide
theorem sm_X7_takeWord_X7_isWord : ∀ c ∈ md_X7_isWord, c ∈ md_X7_takeWord := by decide
theorem sm_X7_takeWord_X7_isLetter : ∀ c ∈ md_X7_isLetter, c ∈ md_X7_takeWord := by decide
variable {q : Int32 × zH}
theorem m_X7_takeWord_56 {k33 : Int32 → Int32 → Int32 → Int32 → zH → zR} (hk33 : ∀ (h0 : zH) (x1 : Int32) (x2 : Int32) (x3 : Int32) (x4 : Int32), k33 x1 x2 x3 x4 h0 = some q → ∀ c, c ∉ md_X7_takeWord → q.2 c = h0 c) : ∀ (h0 : zH) (x1 : Int32) (x2 : Int32) (x3 : Int32) (x4 : Int32), f_X7_takeWord_56 k33 x1 x2 x3 x4 h0 = some q → ∀ c, c ∉ md_X7_takeWord → q.2 c = h0 c := by
  intro h x1 x2 x3 x4 hf
  unfold f_X7_takeWord_56 at hf
  have fr : ∀ c, c ∉ md_X7_takeWord → h c = h c := fun _ _ => rfl
  obtain ⟨y5, ey5, hf⟩ := zlt_some hf
  exact fun c hc9 => (hk33 _ _ _ _ _ hf c hc9).trans (fr c hc9)
theorem m_X7_takeWord_33   : ∀ n, ∀ (h0 : zH) (x1 : Int32) (x2 : Int32) (x3 : Int32) (x4 : Int32), f_X7_takeWord_33  n x1 x2 x3 x4 h0 = some q → ∀ c, c ∉ md_X7_takeWord → q.2 c = h0 c := by
  intro n
  induction n with
  | zero => intro h x1 x2 x3 x4 hf; cases hf
  | succ n ih =>
    intro h x1 x2 x3 x4 hf
    rw [f_X7_takeWord_33] at hf
    have fr : ∀ c, c ∉ md_X7_takeWord → h c = h c := fun _ _ => rfl
    rcases zif_c hf with ⟨hc, hf⟩ | ⟨hc, hf⟩
    · skip
      obtain ⟨r1, h2, er1, hf⟩ := zbd_some hf
      have fr : ∀ c, c ∉ md_X7_takeWord → h2 c = h c := fun c hc9 => (m_X7_addToken _ _ _ _ er1 c (fun z => hc9 (sm_X7_takeWord_X7_addToken c z))).trans (fr c hc9)
      cases hf
      exact fr
    · skip
      obtain ⟨r3, h4, er3, hf⟩ := zbd_some hf
      have fr : ∀ c, c ∉ md_X7_takeWord → h4 c = h c := fun c hc9 => (m_X7_isWord _ _ _ _ er3 c (fun z => hc9 (sm_X7_takeWord_X7_isWord c z))).trans (fr c hc9)
      rcases zif_c hf with ⟨hc, hf⟩ | ⟨hc, hf⟩
      · skip
        exact fun c hc9 => (m_X7_takeWord_56 ih _ _ _ _ _ hf c hc9).trans (fr c hc9)
      · skip
        obtain ⟨y6, ey6, hf⟩ := zlt_some hf
        exact fun c hc9 => (m_X7_takeWord_56 ih _ _ _ _ _ hf c hc9).trans (fr c hc9)
theorem m_X7_takeWord_28   : ∀ (h0 : zH) (x1 : Int32) (x2 : Int32), f_X7_takeWord_28  x1 x2 h0 = some q → ∀ c, c ∉ md_X7_takeWord → q.2 c = h0 c := by
  intro h x1 x2 hf
  unfold f_X7_takeWord_28 at hf
  have fr : ∀ c, c ∉ md_X7_takeWord → h c = h c := fun _ _ => rfl
  exact fun c hc9 => (m_X7_takeWord_33  zN _ _ _ _ _ hf c hc9).trans (fr c hc9)
theorem m_X7_takeWord_2   : ∀ n, ∀ (h0 : zH) (x1 : Int32) (x2 : Int32), f_X7_takeWord_2  n x1 x2 h0 = some q → ∀ c, c ∉ md_X7_takeWord → q.2 c = h0 c := by
  intro n
  induction n with
  | zero => intro h x1 x2 hf; cases hf
  | succ n ih =>
    intro h x1 x2 hf
    rw [f_X7_takeWord_2] at hf
    have fr : ∀ c, c ∉ md_X7_takeWord → h c = h c := fun _ _ => rfl
    rcases zif_c hf with ⟨hc, hf⟩ | ⟨hc, hf⟩
    · skip
      exact fun c hc9 => (m_X7_takeWord_28  _ _ _ hf c hc9).trans (fr c hc9)
    · skip
      obtain ⟨hi, hf⟩ := zck_some hf
      obtain ⟨r7, h8, er7, hf⟩ := zbd_some hf
      have fr : ∀ c, c ∉ md_X7_takeWord → h8 c = h c := fun c hc9 => (m_X7_isLetter _ _ er7 c (fun z => hc9 (sm_X7_takeWord_X7_isLetter c z))).trans (fr c hc9)
      rcases zif_c hf with ⟨hc, hf⟩ | ⟨hc, hf⟩
      · skip
        exact fun c hc9 => (m_X7_takeWord_28  _ _ _ hf c hc9).trans (fr c hc9)
      · skip
        obtain ⟨y9, ey9, hf⟩ := zlt_some hf
        exact fun c hc9 => (ih _ _ _ hf c hc9).trans (fr c hc9)
theorem m_X7_takeWord : ∀ (h0 : zH) (x1 : Int32) {q : Int32 × zH}, f_X7_takeWord x1 h0 = some q → ∀ c, c ∉ md_X7_takeWord → q.2 c = h0 c := by
  intro h x1 q hf
  unfold f_X7_takeWord at hf
  have fr : ∀ c, c ∉ md_X7_takeWord → h c = h c := fun _ _ => rfl
  exact fun c hc9 => (m_X7_takeWord_2  zN _ _ _ hf c hc9).trans (fr c hc9)
end
section
abbrev md_X7_takeToken : List Nat := [29, 31, 32, 33]
theorem sm_X7_takeToken_X7_isLetter : ∀ c ∈ md_X7_isLetter, c ∈ md_X7_takeToken := by decide
theorem sm_X7_takeToken_X7_isDigit : ∀ c ∈ md_X7_isDigit, c ∈ md_X7_takeToken := by decide
theorem sm_X7_takeToken_J0_indexOf_0f7a4 : ∀ c ∈ md_J0_indexOf_0f7a4, c ∈ md_X7_takeToken := by decide
theorem sm_X7_takeToken_X7_addToken : ∀ c ∈ md_X7_addToken, c ∈ md_X7_takeToken := by decide
theorem sm_X7_takeToken_X7_takeNumber : ∀ c ∈ md_X7_takeNumber, c ∈ md_X7_takeToken := by decide
theorem sm_X7_takeToken_X7_takeWord : ∀ c ∈ md_X7_takeWord, c ∈ md_X7_takeToken := by decide
variable {q : Int32 × zH}
theorem m_X7_takeToken_19   : ∀ (h0 : zH) (x1 : Int32), f_X7_takeToken_19  x1 h0 = some q → ∀ c, c ∉ md_X7_takeToken → q.2 c = h0 c := by
  intro h x1 hf
  unfold f_X7_takeToken_19 at hf
  have fr : ∀ c, c ∉ md_X7_takeToken → h c = h c := fun _ _ => rfl
  cases hf
  exact fr
theorem m_X7_takeToken_69   : ∀ (h0 : zH) (x1 : Int32) (s0 : Int32), f_X7_takeToken_69  x1 s0 h0 = some q → ∀ c, c ∉ md_X7_takeToken → q.2 c = h0 c := by
  intro h x1 s0 hf
  unfold f_X7_takeToken_69 at hf
  have fr : ∀ c, c ∉ md_X7_takeToken → h c = h c := fun _ _ => rfl
  obtain ⟨r8, h9, er8, hf⟩ := zbd_some hf
  have fr : ∀ c, c ∉ md_X7_takeToken → h9 c = h c := fun c hc9 => (m_X7_addToken _ _ _ _ er8 c (fun z => hc9 (sm_X7_takeToken_X7_addToken c z))).trans (fr c hc9)
  cases hf
  exact fr
theorem m_X7_takeToken : ∀ (h0 : zH) (x1 : Int32) {q : Int32 × zH}, f_X7_takeToken x1 h0 = some q → ∀ c, c ∉ md_X7_takeToken → q.2 c = h0 c := by
  intro h x1 q hf
  unfold f_X7_takeToken at hf
  have fr : ∀ c, c ∉ md_X7_takeToken → h c = h c := fun _ _ => rfl
  obtain ⟨hi, hf⟩ := zck_some hf
  obtain ⟨y1, ey1, hf⟩ := zlt_some hf
  rcases zif_c hf with ⟨hc, hf⟩ | ⟨hc, hf⟩
  · skip
    exact fun c hc9 => (m_X7_takeToken_19  _ _ hf c hc9).trans (fr c hc9)
  · skip
    rcases zif_n hf with ⟨hc, hf⟩ | ⟨hc, hf⟩
    · skip
      obtain ⟨r2, h3, er2, hf⟩ := zbd_some hf
      have fr : ∀ c, c ∉ md_X7_takeToken → h3 c = h c := fun c hc9 => (m_X7_isLetter _ _ er2 c (fun z => hc9 (sm_X7_takeToken_X7_isLetter c z))).trans (fr c hc9)
      rcases zif_c hf with ⟨hc, hf⟩ | ⟨hc, hf⟩
      · skip
        obtain ⟨r4, h5, er4, hf⟩ := zbd_some hf
        have fr : ∀ c, c ∉ md_X7_takeToken → h5 c = h c := fun c hc9 => (m_X7_isDigit _ _ er4 c (fun z => hc9 (sm_X7_takeToken_X7_isDigit c z))).trans (fr c hc9)
        rcases zif_c hf with ⟨hc, hf⟩ | ⟨hc, hf⟩
        · skip
          obtain ⟨r6, h7, er6, hf⟩ := zbd_some hf
          have fr : ∀ c, c ∉ md_X7_takeToken → h7 c = h c := fun c hc9 => (m_J0_indexOf_0f7a4 _ _ _ er6 c (fun z => hc9 (sm_X7_takeToken_J0_indexOf_0f7a4 c z))).trans (fr c hc9)
          rcases zif_c hf with ⟨hc, hf⟩ | ⟨hc, hf⟩
          · skip
            exact fun c hc9 => (m_X7_takeToken_69  _ _ _ hf c hc9).trans (fr c hc9)
          · skip
            exact fun c hc9 => (m_X7_takeToken_69  _ _ _ hf c hc9).trans (fr c hc9)
        · skip
          obtain ⟨r10, h11, er10, hf⟩ := zbd_some hf
          have fr : ∀ c, c ∉ md_X7_takeToken → h11 c = h c := fun c hc9 => (m_X7_takeNumber _ _ er10 c (fun z => hc9 (sm_X7_takeToken_X7_takeNumber c z))).trans (fr c hc9)
          cases hf
          exact fr
      · skip
        obtain ⟨r12, h13, er12, hf⟩ := zbd_some hf
        have fr : ∀ c, c ∉ md_X7_takeToken → h13 c = h c := fun c hc9 => (m_X7_takeWord _ _ er12 c (fun z => hc9 (sm_X7_takeToken_X7_takeWord c z))).trans (fr c hc9)
        cases hf
        exact fr
    · skip
      exact fun c hc9 => (m_X7_takeToken_19  _ _ hf c hc9).trans (fr c hc9)
end
section
abbrev md_X7_split : List Nat := [29, 31, 32, 33]
theorem sm_X7_split_X7_addToken : ∀ c ∈ md_X7_addToken, c ∈ md_X7_split := by decide
theorem sm_X7_split_X7_takeToken : ∀ c ∈ md_X7_takeToken, c ∈ md_X7_split := by decide
variable {q : Int32 × zH}
theorem m_X7_split_7   : ∀ n, ∀ (h0 : zH) (x1 : Int32), f_X7_split_7  n x1 h0 = some q → ∀ c, c ∉ md_X7_split → q.2 c = h0 c := by
  intro n
  induction n with
  | zero => intro h x1 hf; cases hf
  | succ n ih =>
    intro h x1 hf
    rw [f_X7_split_7] at hf
    have fr : ∀ c, c ∉ md_X7_split → h c = h c := fun _ _ => rfl
    rcases zif_c hf with ⟨hc, hf⟩ | ⟨hc, hf⟩
    · skip
      obtain ⟨r2, h3, er2, hf⟩ := zbd_some hf
      have fr : ∀ c, c ∉ md_X7_split → h3 c = h c := fun c hc9 => (m_X7_addToken _ _ _ _ er2 c (fun z => hc9 (sm_X7_split_X7_addToken c z))).trans (fr c hc9)
      cases hf
      exact fr
    · skip
      obtain ⟨r4, h5, er4, hf⟩ := zbd_some hf
      have fr : ∀ c, c ∉ md_X7_split → h5 c = h c := fun c hc9 => (m_X7_takeToken _ _ er4 c (fun z => hc9 (sm_X7_split_X7_takeToken c z))).trans (fr c hc9)
      obtain ⟨y6, ey6, hf⟩ := zlt_some hf
      exact fun c hc9 => (ih _ _ hf c hc9).trans (fr c hc9)
theorem m_X7_split : ∀ (h0 : zH) {q : Int32 × zH}, f_X7_split h0 = some q → ∀ c, c ∉ md_X7_split → q.2 c = h0 c := by
  intro h q hf
  unfold f_X7_split at hf
  have fr : ∀ c, c ∉ md_X7_split → h c = h c := fun _ _ => rfl
  obtain ⟨h1, eh1, hf⟩ := zst_some hf
  have fr : ∀ c, c ∉ md_X7_split → h1 c = h c := fun c hc9 => (congrFun eh1 c).trans ((zup_ne c (fun z => hc9 (by rw [z]; decide))).trans (fr c hc9))
  exact fun c hc9 => (m_X7_split_7  zN _ _ hf c hc9).trans (fr c hc9)
end
section
abbrev md_X5_clear_t34 : List Nat := [34]
variable {q : Int32 × zH}
theorem m_X5_clear_t34 : ∀ (h0 : zH) {q : Int32 × zH}, f_X5_clear_t34 h0 = some q → ∀ c, c ∉ md_X5_clear_t34 → q.2 c = h0 c := by
  intro h q hf
  unfold f_X5_clear_t34 at hf
  have fr : ∀ c, c ∉ md_X5_clear_t34 → h c = h c := fun _ _ => rfl
  obtain ⟨h1, eh1, hf⟩ := zst_some hf
  have fr : ∀ c, c ∉ md_X5_clear_t34 → h1 c = h c := fun c hc9 => (congrFun eh1 c).trans ((zup_ne c (fun z => hc9 (by rw [z]; decide))).trans (fr c hc9))
  obtain ⟨h2, eh2, hf⟩ := zst_some hf
  have fr : ∀ c, c ∉ md_X5_clear_t34 → h2 c = h c := fun c hc9 => (congrFun eh2 c).trans ((zup_ne c (fun z => hc9 (by rw [z]; decide))).trans (fr c hc9))
  cases hf
  exact fr
end
section
abbrev md_X7_blame : List Nat := [29]
variable {q : Int32 × zH}
theorem m_X7_blame : ∀ (h0 : zH) (x1 : Int32) {q : Int32 × zH}, f_X7_blame x1 h0 = some q → ∀ c, c ∉ md_X7_blame → q.2 c = h0 c := by
  intro h x1 q hf
  unfold f_X7_blame at hf
  have fr : ∀ c, c ∉ md_X7_blame → h c = h c := fun _ _ => rfl
  rcases zif_n hf with ⟨hc, hf⟩ | ⟨hc, hf⟩
  · skip
    cases hf
    exact fr
  · skip
    obtain ⟨h1, eh1, hf⟩ := zst_some hf
    have fr : ∀ c, c ∉ md_X7_blame → h1 c = h c := fun c hc9 => (congrFun eh1 c).trans ((zup_ne c (fun z => hc9 (by rw [z]; decide))).trans (fr c hc9))
    obtain ⟨hi, hf⟩ := zck_some hf
    obtain ⟨h2, eh2, hf⟩ := zst_some hf
    have fr : ∀ c, c ∉ md_X7_blame → h2 c = h c := fun c hc9 => (congrFun eh2 c).trans ((zup_ne c (fun z => hc9 (by rw [z]; decide))).trans (fr c hc9))
    obtain ⟨h3, eh3, hf⟩ := zst_some hf
    have fr : ∀ c, c ∉ md_X7_blame → h3 c = h c := fun c hc9 => (congrFun eh3 c).trans ((zup_ne c (fun z => hc9 (by rw [z]; decide))).trans (fr c hc9))
    cases hf
    exact fr
end
section
abbrev md_X7_step : List Nat := [29]
variable {q : Int32 × zH}
theorem m_X7_step : ∀ (h0 : zH) {q : Int32 × zH}, f_X7_step h0 = some q → ∀ c, c ∉ md_X7_step → q.2 c = h0 c := by
  intro h q hf
  unfold f_X7_step at hf
  have fr : ∀ c, c ∉ md_X7_step → h c = h c := fun _ _ => rfl
  rcases zif_n hf with ⟨hc, hf⟩ | ⟨hc, hf⟩
  · skip
    cases hf
    exact fr
  · skip
    rcases zif_c hf with ⟨hc, hf⟩ | ⟨hc, hf⟩
    · skip
      cases hf
      exact fr
    · skip
      obtain ⟨h1, eh1, hf⟩ := zst_some hf
      have fr : ∀ c, c ∉ md_X7_step → h1 c = h c := fun c hc9 => (congrFun eh1 c).trans ((zup_ne c (fun z => hc9 (by rw [z]; decide))).trans (fr c hc9))
      obtain ⟨hi, hf⟩ := zck_some hf
      obtain ⟨h2, eh2, hf⟩ := zst_some hf
      have fr : ∀ c, c ∉ md_X7_step → h2 c = h c := fun c hc9 => (congrFun eh2 c).trans ((zup_ne c (fun z => hc9 (by rw [z]; decide))).trans (fr c hc9))
      cases hf
      exact fr
end
section
abbrev md_X7_expect : List Nat := [29]
theorem sm_X7_expect_X7_blame : ∀ c ∈ md_X7_blame, c ∈ md_X7_expect := by decide
theorem sm_X7_expect_X7_step : ∀ c ∈ md_X7_step, c ∈ md_X7_expect := by decide
variable {q : Int32 × zH}
theorem m_X7_expect_23   : ∀ (h0 : zH), f_X7_expect_23  h0 = some q → ∀ c, c ∉ md_X7_expect → q.2 c = h0 c := by
  intro h hf
  unfold f_X7_expect_23 at hf
  have fr : ∀ c, c ∉ md_X7_expect → h c = h c := fun _ _ => rfl
  obtain ⟨r1, h2, er1, hf⟩ := zbd_some hf
  have fr : ∀ c, c ∉ md_X7_expect → h2 c = h c := fun c hc9 => (m_X7_blame _ _ er1 c (fun z => hc9 (sm_X7_expect_X7_blame c z))).trans (fr c hc9)
  cases hf
  exact fr
theorem m_X7_expect : ∀ (h0 : zH) (x1 : Int32) (x2 : Int32) {q : Int32 × zH}, f_X7_expect x1 x2 h0 = some q → ∀ c, c ∉ md_X7_expect → q.2 c = h0 c := by
  intro h x1 x2 q hf
  unfold f_X7_expect at hf
  have fr : ∀ c, c ∉ md_X7_expect → h c = h c := fun _ _ => rfl
  rcases zif_c hf with ⟨hc, hf⟩ | ⟨hc, hf⟩
  · skip
    exact fun c hc9 => (m_X7_expect_23  _ hf c hc9).trans (fr c hc9)
  · skip
    rcases zif_c hf with ⟨hc, hf⟩ | ⟨hc, hf⟩
    · skip
      exact fun c hc9 => (m_X7_expect_23  _ hf c hc9).trans (fr c hc9)
    · skip
      obtain ⟨r3, h4, er3, hf⟩ := zbd_some hf
      have fr : ∀ c, c ∉ md_X7_expect → h4 c = h c := fun c hc9 => (m_X7_step _ er3 c (fun z => hc9 (sm_X7_expect_X7_step c z))).trans (fr c hc9)
      cases hf
      exact fr
end
section
abbrev md_X5_add_t34 : List Nat := [34, 35, 36]
variable {q : Int32 × zH}
theorem m_X5_add_t34 : ∀ (h0 : zH) (x1 : Int32) (x2 : Int32) {q : Int32 × zH}, f_X5_add_t34 x1 x2 h0 = some q → ∀ c, c ∉ md_X5_add_t34 → q.2 c = h0 c := by
  intro h x1 x2 q hf
  unfold f_X5_add_t34 at hf
  have fr : ∀ c, c ∉ md_X5_add_t34 → h c = h c := fun _ _ => rfl
  rcases zif_c hf with ⟨hc, hf⟩ | ⟨hc, hf⟩
  · skip
    cases hf
    exact fr
  · skip
    obtain ⟨hi, hf⟩ := zck_some hf
    obtain ⟨h1, eh1, hf⟩ := zst_some hf
    have fr : ∀ c, c ∉ md_X5_add_t34 → h1 c = h c := fun c hc9 => (congrFun eh1 c).trans ((zup_ne c (fun z => hc9 (by rw [z]; decide))).trans (fr c hc9))
    obtain ⟨hi, hf⟩ := zck_some hf
    obtain ⟨h2, eh2, hf⟩ := zst_some hf
    have fr : ∀ c, c ∉ md_X5_add_t34 → h2 c = h c := fun c hc9 => (congrFun eh2 c).trans ((zup_ne c (fun z => hc9 (by rw [z]; decide))).trans (fr c hc9))
    obtain ⟨h3, eh3, hf⟩ := zst_some hf
    have fr : ∀ c, c ∉ md_X5_add_t34 → h3 c = h c := fun c hc9 => (congrFun eh3 c).trans ((zup_ne c (fun z => hc9 (by rw [z]; decide))).trans (fr c hc9))
    cases hf
    exact fr
end
section
abbrev md_X7_readUnit : List Nat := [29, 34, 35, 36]
theorem sm_X7_readUnit_X5_add_t34 : ∀ c ∈ md_X5_add_t34, c ∈ md_X7_readUnit := by decide
theorem sm_X7_readUnit_X7_step : ∀ c ∈ md_X7_step, c ∈ md_X7_readUnit := by decide
theorem sm_X7_readUnit_X7_blame : ∀ c ∈ md_X7_blame, c ∈ md_X7_readUnit := by decide
variable {q : Int32 × zH}
theorem m_X7_readUnit_129   : ∀ (h0 : zH), f_X7_readUnit_129  h0 = some q → ∀ c, c ∉ md_X7_readUnit → q.2 c = h0 c := by
  intro h hf
  unfold f_X7_readUnit_129 at hf
  have fr : ∀ c, c ∉ md_X7_readUnit → h c = h c := fun _ _ => rfl
  obtain ⟨r3, h4, er3, hf⟩ := zbd_some hf
  have fr : ∀ c, c ∉ md_X7_readUnit → h4 c = h c := fun c hc9 => (m_X7_step _ er3 c (fun z => hc9 (sm_X7_readUnit_X7_step c z))).trans (fr c hc9)
  cases hf
  exact fr
theorem m_X7_readUnit_101   : ∀ (h0 : zH) (x1 : Int32) (s0 : Int32), f_X7_readUnit_101  x1 s0 h0 = some q → ∀ c, c ∉ md_X7_readUnit → q.2 c = h0 c := by
  intro h x1 s0 hf
  unfold f_X7_readUnit_101 at hf
  have fr : ∀ c, c ∉ md_X7_readUnit → h c = h c := fun _ _ => rfl
  obtain ⟨hi, hf⟩ := zck_some hf
  obtain ⟨r1, h2, er1, hf⟩ := zbd_some hf
  have fr : ∀ c, c ∉ md_X7_readUnit → h2 c = h c := fun c hc9 => (m_X5_add_t34 _ _ _ er1 c (fun z => hc9 (sm_X7_readUnit_X5_add_t34 c z))).trans (fr c hc9)
  rcases zif_n hf with ⟨hc, hf⟩ | ⟨hc, hf⟩
  · skip
    exact fun c hc9 => (m_X7_readUnit_129  _ hf c hc9).trans (fr c hc9)
  · skip
    obtain ⟨r5, h6, er5, hf⟩ := zbd_some hf
    have fr : ∀ c, c ∉ md_X7_readUnit → h6 c = h c := fun c hc9 => (m_X5_add_t34 _ _ _ er5 c (fun z => hc9 (sm_X7_readUnit_X5_add_t34 c z))).trans (fr c hc9)
    exact fun c hc9 => (m_X7_readUnit_129  _ hf c hc9).trans (fr c hc9)
theorem m_X7_readUnit_82   : ∀ (h0 : zH) (x1 : Int32), f_X7_readUnit_82  x1 h0 = some q → ∀ c, c ∉ md_X7_readUnit → q.2 c = h0 c := by
  intro h x1 hf
  unfold f_X7_readUnit_82 at hf
  have fr : ∀ c, c ∉ md_X7_readUnit → h c = h c := fun _ _ => rfl
  rcases zif_n hf with ⟨hc, hf⟩ | ⟨hc, hf⟩
  · skip
    exact fun c hc9 => (m_X7_readUnit_101  _ _ _ hf c hc9).trans (fr c hc9)
  · skip
    exact fun c hc9 => (m_X7_readUnit_101  _ _ _ hf c hc9).trans (fr c hc9)
theorem m_X7_readUnit_58   : ∀ (h0 : zH) (x1 : Int32), f_X7_readUnit_58  x1 h0 = some q → ∀ c, c ∉ md_X7_readUnit → q.2 c = h0 c := by
  intro h x1 hf
  unfold f_X7_readUnit_58 at hf
  have fr : ∀ c, c ∉ md_X7_readUnit → h c = h c := fun _ _ => rfl
  rcases zif_n hf with ⟨hc, hf⟩ | ⟨hc, hf⟩
  · skip
    exact fun c hc9 => (m_X7_readUnit_82  _ _ hf c hc9).trans (fr c hc9)
  · skip
    obtain ⟨hi, hf⟩ := zck_some hf
    rcases zif_n hf with ⟨hc, hf⟩ | ⟨hc, hf⟩
    · skip
      exact fun c hc9 => (m_X7_readUnit_82  _ _ hf c hc9).trans (fr c hc9)
    · skip
      obtain ⟨r7, h8, er7, hf⟩ := zbd_some hf
      have fr : ∀ c, c ∉ md_X7_readUnit → h8 c = h c := fun c hc9 => (m_X7_blame _ _ er7 c (fun z => hc9 (sm_X7_readUnit_X7_blame c z))).trans (fr c hc9)
      cases hf
      exact fr
theorem m_X7_readUnit_52   : ∀ (h0 : zH), f_X7_readUnit_52  h0 = some q → ∀ c, c ∉ md_X7_readUnit → q.2 c = h0 c := by
  intro h hf
  unfold f_X7_readUnit_52 at hf
  have fr : ∀ c, c ∉ md_X7_readUnit → h c = h c := fun _ _ => rfl
  obtain ⟨r9, h10, er9, hf⟩ := zbd_some hf
  have fr : ∀ c, c ∉ md_X7_readUnit → h10 c = h c := fun c hc9 => (m_X7_blame _ _ er9 c (fun z => hc9 (sm_X7_readUnit_X7_blame c z))).trans (fr c hc9)
  cases hf
  exact fr
theorem m_X7_readUnit_37   : ∀ (h0 : zH) (x1 : Int32) (x2 : Int32) (s0 : Int32), f_X7_readUnit_37  x1 x2 s0 h0 = some q → ∀ c, c ∉ md_X7_readUnit → q.2 c = h0 c := by
  intro h x1 x2 s0 hf
  unfold f_X7_readUnit_37 at hf
  have fr : ∀ c, c ∉ md_X7_readUnit → h c = h c := fun _ _ => rfl
  rcases zif_n hf with ⟨hc, hf⟩ | ⟨hc, hf⟩
  · skip
    exact fun c hc9 => (m_X7_readUnit_58  _ _ hf c hc9).trans (fr c hc9)
  · skip
    rcases zif_c hf with ⟨hc, hf⟩ | ⟨hc, hf⟩
    · skip
      exact fun c hc9 => (m_X7_readUnit_52  _ hf c hc9).trans (fr c hc9)
    · skip
      rcases zif_n hf with ⟨hc, hf⟩ | ⟨hc, hf⟩
      · skip
        exact fun c hc9 => (m_X7_readUnit_58  _ _ hf c hc9).trans (fr c hc9)
      · skip
        exact fun c hc9 => (m_X7_readUnit_52  _ hf c hc9).trans (fr c hc9)
theorem m_X7_readUnit_36   : ∀ (h0 : zH) (x1 : Int32) (x2 : Int32), f_X7_readUnit_36  x1 x2 h0 = some q → ∀ c, c ∉ md_X7_readUnit → q.2 c = h0 c := by
  intro h x1 x2 hf
  unfold f_X7_readUnit_36 at hf
  have fr : ∀ c, c ∉ md_X7_readUnit → h c = h c := fun _ _ => rfl
  exact fun c hc9 => (m_X7_readUnit_37  _ _ _ _ hf c hc9).trans (fr c hc9)
theorem m_X7_readUnit_13   : ∀ (h0 : zH) (x1 : Int32) (s0 : Int32), f_X7_readUnit_13  x1 s0 h0 = some q → ∀ c, c ∉ md_X7_readUnit → q.2 c = h0 c := by
  intro h x1 s0 hf
  unfold f_X7_readUnit_13 at hf
  have fr : ∀ c, c ∉ md_X7_readUnit → h c = h c := fun _ _ => rfl
  rcases zif_c hf with ⟨hc, hf⟩ | ⟨hc, hf⟩
  · skip
    exact fun c hc9 => (m_X7_readUnit_36  _ _ _ hf c hc9).trans (fr c hc9)
  · skip
    rcases zif_c hf with ⟨hc, hf⟩ | ⟨hc, hf⟩
    · skip
      exact fun c hc9 => (m_X7_readUnit_36  _ _ _ hf c hc9).trans (fr c hc9)
    · skip
      exact fun c hc9 => (m_X7_readUnit_37  _ _ _ _ hf c hc9).trans (fr c hc9)
theorem m_X7_readUnit : ∀ (h0 : zH) (x1 : Int32) {q : Int32 × zH}, f_X7_readUnit x1 h0 = some q → ∀ c, c ∉ md_X7_readUnit → q.2 c = h0 c := by
  intro h x1 q hf
  unfold f_X7_readUnit at hf
  have fr : ∀ c, c ∉ md_X7_readUnit → h c = h c := fun _ _ => rfl
  rcases zif_n hf with ⟨hc, hf⟩ | ⟨hc, hf⟩
  · skip
    exact fun c hc9 => (m_X7_readUnit_13  _ _ _ hf c hc9).trans (fr c hc9)
  · skip
    exact fun c hc9 => (m_X7_readUnit_13  _ _ _ hf c hc9).trans (fr c hc9)
end
section
abbrev md_X7_readSum : List Nat := [29, 34, 35, 36]
theorem sm_X7_readSum_X7_readUnit : ∀ c ∈ md_X7_readUnit, c ∈ md_X7_readSum := by decide
theorem sm_X7_readSum_X5_add_t34 : ∀ c ∈ md_X5_add_t34, c ∈ md_X7_readSum := by decide
theorem sm_X7_readSum_X7_step : ∀ c ∈ md_X7_step, c ∈ md_X7_readSum := by decide
variable {q : Int32 × zH}
theorem m_X7_readSum_131 {k6 : Int32 → Int32 → Int32 → zH → zR} (hk6 : ∀ (h0 : zH) (x1 : Int32) (x2 : Int32) (x3 : Int32), k6 x1 x2 x3 h0 = some q → ∀ c, c ∉ md_X7_readSum → q.2 c = h0 c) : ∀ (h0 : zH) (x1 : Int32) (x2 : Int32) (x3 : Int32), f_X7_readSum_131 k6 x1 x2 x3 h0 = some q → ∀ c, c ∉ md_X7_readSum → q.2 c = h0 c := by
  intro h x1 x2 x3 hf
  unfold f_X7_readSum_131 at hf
  have fr : ∀ c, c ∉ md_X7_readSum → h c = h c := fun _ _ => rfl
  obtain ⟨y6, ey6, hf⟩ := zlt_some hf
  exact fun c hc9 => (hk6 _ _ _ _ hf c hc9).trans (fr c hc9)
theorem m_X7_readSum_122 {k6 : Int32 → Int32 → Int32 → zH → zR} (hk6 : ∀ (h0 : zH) (x1 : Int32) (x2 : Int32) (x3 : Int32), k6 x1 x2 x3 h0 = some q → ∀ c, c ∉ md_X7_readSum → q.2 c = h0 c) : ∀ (h0 : zH) (x2 : Int32) (x3 : Int32) (s0 : Int32), f_X7_readSum_122 k6 x2 x3 s0 h0 = some q → ∀ c, c ∉ md_X7_readSum → q.2 c = h0 c := by
  intro h x2 x3 s0 hf
  unfold f_X7_readSum_122 at hf
  have fr : ∀ c, c ∉ md_X7_readSum → h c = h c := fun _ _ => rfl
  rcases zif_c hf with ⟨hc, hf⟩ | ⟨hc, hf⟩
  · skip
    exact fun c hc9 => (m_X7_readSum_131 hk6 _ _ _ _ hf c hc9).trans (fr c hc9)
  · skip
    obtain ⟨r7, h8, er7, hf⟩ := zbd_some hf
    have fr : ∀ c, c ∉ md_X7_readSum → h8 c = h c := fun c hc9 => (m_X7_step _ er7 c (fun z => hc9 (sm_X7_readSum_X7_step c z))).trans (fr c hc9)
    exact fun c hc9 => (m_X7_readSum_131 hk6 _ _ _ _ hf c hc9).trans (fr c hc9)
theorem m_X7_readSum_117 {k6 : Int32 → Int32 → Int32 → zH → zR} (hk6 : ∀ (h0 : zH) (x1 : Int32) (x2 : Int32) (x3 : Int32), k6 x1 x2 x3 h0 = some q → ∀ c, c ∉ md_X7_readSum → q.2 c = h0 c) : ∀ (h0 : zH) (x2 : Int32) (x3 : Int32), f_X7_readSum_117 k6 x2 x3 h0 = some q → ∀ c, c ∉ md_X7_readSum → q.2 c = h0 c := by
  intro h x2 x3 hf
  unfold f_X7_readSum_117 at hf
  have fr : ∀ c, c ∉ md_X7_readSum → h c = h c := fun _ _ => rfl
  exact fun c hc9 => (m_X7_readSum_122 hk6 _ _ _ _ hf c hc9).trans (fr c hc9)
theorem m_X7_readSum_94 {k6 : Int32 → Int32 → Int32 → zH → zR} (hk6 : ∀ (h0 : zH) (x1 : Int32) (x2 : Int32) (x3 : Int32), k6 x1 x2 x3 h0 = some q → ∀ c, c ∉ md_X7_readSum → q.2 c = h0 c) : ∀ (h0 : zH) (x3 : Int32), f_X7_readSum_94 k6 x3 h0 = some q → ∀ c, c ∉ md_X7_readSum → q.2 c = h0 c := by
  intro h x3 hf
  unfold f_X7_readSum_94 at hf
  have fr : ∀ c, c ∉ md_X7_readSum → h c = h c := fun _ _ => rfl
  obtain ⟨y5, ey5, hf⟩ := zlt_some hf
  rcases zif_c hf with ⟨hc, hf⟩ | ⟨hc, hf⟩
  · skip
    exact fun c hc9 => (m_X7_readSum_117 hk6 _ _ _ hf c hc9).trans (fr c hc9)
  · skip
    rcases zif_n hf with ⟨hc, hf⟩ | ⟨hc, hf⟩
    · skip
      exact fun c hc9 => (m_X7_readSum_122 hk6 _ _ _ _ hf c hc9).trans (fr c hc9)
    · skip
      exact fun c hc9 => (m_X7_readSum_117 hk6 _ _ _ hf c hc9).trans (fr c hc9)
theorem m_X7_readSum_85 {k6 : Int32 → Int32 → Int32 → zH → zR} (hk6 : ∀ (h0 : zH) (x1 : Int32) (x2 : Int32) (x3 : Int32), k6 x1 x2 x3 h0 = some q → ∀ c, c ∉ md_X7_readSum → q.2 c = h0 c) : ∀ (h0 : zH) (x2 : Int32) (x3 : Int32), f_X7_readSum_85 k6 x2 x3 h0 = some q → ∀ c, c ∉ md_X7_readSum → q.2 c = h0 c := by
  intro h x2 x3 hf
  unfold f_X7_readSum_85 at hf
  have fr : ∀ c, c ∉ md_X7_readSum → h c = h c := fun _ _ => rfl
  obtain ⟨r3, h4, er3, hf⟩ := zbd_some hf
  have fr : ∀ c, c ∉ md_X7_readSum → h4 c = h c := fun c hc9 => (m_X5_add_t34 _ _ _ er3 c (fun z => hc9 (sm_X7_readSum_X5_add_t34 c z))).trans (fr c hc9)
  exact fun c hc9 => (m_X7_readSum_94 hk6 _ _ hf c hc9).trans (fr c hc9)
theorem m_X7_readSum_73 {k6 : Int32 → Int32 → Int32 → zH → zR} (hk6 : ∀ (h0 : zH) (x1 : Int32) (x2 : Int32) (x3 : Int32), k6 x1 x2 x3 h0 = some q → ∀ c, c ∉ md_X7_readSum → q.2 c = h0 c) : ∀ (h0 : zH) (x2 : Int32) (x3 : Int32), f_X7_readSum_73 k6 x2 x3 h0 = some q → ∀ c, c ∉ md_X7_readSum → q.2 c = h0 c := by
  intro h x2 x3 hf
  unfold f_X7_readSum_73 at hf
  have fr : ∀ c, c ∉ md_X7_readSum → h c = h c := fun _ _ => rfl
  rcases zif_c hf with ⟨hc, hf⟩ | ⟨hc, hf⟩
  · skip
    exact fun c hc9 => (m_X7_readSum_85 hk6 _ _ _ hf c hc9).trans (fr c hc9)
  · skip
    rcases zif_n hf with ⟨hc, hf⟩ | ⟨hc, hf⟩
    · skip
      exact fun c hc9 => (m_X7_readSum_94 hk6 _ _ hf c hc9).trans (fr c hc9)
    · skip
      exact fun c hc9 => (m_X7_readSum_85 hk6 _ _ _ hf c hc9).trans (fr c hc9)
theorem m_X7_readSum_51 {k6 : Int32 → Int32 → Int32 → zH → zR} {k25 : Int32 → Int32 → Int32 → zH → zR} (hk6 : ∀ (h0 : zH) (x1 : Int32) (x2 : Int32) (x3 : Int32), k6 x1 x2 x3 h0 = some q → ∀ c, c ∉ md_X7_readSum → q.2 c = h0 c) (hk25 : ∀ (h0 : zH) (x2 : Int32) (x3 : Int32) (x4 : Int32), k25 x2 x3 x4 h0 = some q → ∀ c, c ∉ md_X7_readSum → q.2 c = h0 c) : ∀ (h0 : zH) (x2 : Int32) (x3 : Int32) (x4 : Int32), f_X7_readSum_51 k6 k25 x2 x3 x4 h0 = some q → ∀ c, c ∉ md_X7_readSum → q.2 c = h0 c := by
  intro h x2 x3 x4 hf
  unfold f_X7_readSum_51 at hf
  have fr : ∀ c, c ∉ md_X7_readSum → h c = h c := fun _ _ => rfl
  obtain ⟨y9, ey9, hf⟩ := zlt_some hf
  obtain ⟨r10, h11, er10, hf⟩ := zbd_some hf
  have fr : ∀ c, c ∉ md_X7_readSum → h11 c = h c := fun c hc9 => (m_X7_step _ er10 c (fun z => hc9 (sm_X7_readSum_X7_step c z))).trans (fr c hc9)
  obtain ⟨r12, h13, er12, hf⟩ := zbd_some hf
  have fr : ∀ c, c ∉ md_X7_readSum → h13 c = h c := fun c hc9 => (m_X7_readUnit _ _ er12 c (fun z => hc9 (sm_X7_readSum_X7_readUnit c z))).trans (fr c hc9)
  obtain ⟨y14, ey14, hf⟩ := zlt_some hf
  exact fun c hc9 => (hk25 _ _ _ _ hf c hc9).trans (fr c hc9)
theorem m_X7_readSum_25 {k6 : Int32 → Int32 → Int32 → zH → zR} (hk6 : ∀ (h0 : zH) (x1 : Int32) (x2 : Int32) (x3 : Int32), k6 x1 x2 x3 h0 = some q → ∀ c, c ∉ md_X7_readSum → q.2 c = h0 c) : ∀ n, ∀ (h0 : zH) (x2 : Int32) (x3 : Int32) (x4 : Int32), f_X7_readSum_25 k6 n x2 x3 x4 h0 = some q → ∀ c, c ∉ md_X7_readSum → q.2 c = h0 c := by
  intro n
  induction n with
  | zero => intro h x2 x3 x4 hf; cases hf
  | succ n ih =>
    intro h x2 x3 x4 hf
    rw [f_X7_readSum_25] at hf
    have fr : ∀ c, c ∉ md_X7_readSum → h c = h c := fun _ _ => rfl
    rcases zif_c hf with ⟨hc, hf⟩ | ⟨hc, hf⟩
    · skip
      exact fun c hc9 => (m_X7_readSum_73 hk6 _ _ _ hf c hc9).trans (fr c hc9)
    · skip
      rcases zif_c hf with ⟨hc, hf⟩ | ⟨hc, hf⟩
      · skip
        exact fun c hc9 => (m_X7_readSum_51 hk6 ih _ _ _ _ hf c hc9).trans (fr c hc9)
      · skip
        rcases zif_n hf with ⟨hc, hf⟩ | ⟨hc, hf⟩
        · skip
          exact fun c hc9 => (m_X7_readSum_73 hk6 _ _ _ hf c hc9).trans (fr c hc9)
        · skip
          exact fun c hc9 => (m_X7_readSum_51 hk6 ih _ _ _ _ hf c hc9).trans (fr c hc9)
theorem m_X7_readSum_6   : ∀ n, ∀ (h0 : zH) (x1 : Int32) (x2 : Int32) (x3 : Int32), f_X7_readSum_6  n x1 x2 x3 h0 = some q → ∀ c, c ∉ md_X7_readSum → q.2 c = h0 c := by
  intro n
  induction n with
  | zero => intro h x1 x2 x3 hf; cases hf
  | succ n ih =>
    intro h x1 x2 x3 hf
    rw [f_X7_readSum_6] at hf
    have fr : ∀ c, c ∉ md_X7_readSum → h c = h c := fun _ _ => rfl
    rcases zif_c hf with ⟨hc, hf⟩ | ⟨hc, hf⟩
    · skip
      cases hf
      exact fr
    · skip
      rcases zif_c hf with ⟨hc, hf⟩ | ⟨hc, hf⟩
      · skip
        cases hf
        exact fr
      · skip
        obtain ⟨r1, h2, er1, hf⟩ := zbd_some hf
        have fr : ∀ c, c ∉ md_X7_readSum → h2 c = h c := fun c hc9 => (m_X7_readUnit _ _ er1 c (fun z => hc9 (sm_X7_readSum_X7_readUnit c z))).trans (fr c hc9)
        exact fun c hc9 => (m_X7_readSum_25 ih zN _ _ _ _ hf c hc9).trans (fr c hc9)
theorem m_X7_readSum : ∀ (h0 : zH) {q : Int32 × zH}, f_X7_readSum h0 = some q → ∀ c, c ∉ md_X7_readSum → q.2 c = h0 c := by
  intro h q hf
  unfold f_X7_readSum at hf
  have fr : ∀ c, c ∉ md_X7_readSum → h c = h c := fun _ _ => rfl
  exact fun c hc9 => (m_X7_readSum_6  zN _ _ _ _ hf c hc9).trans (fr c hc9)
end
section
abbrev md_X7_readClause : List Nat := [29, 34, 35, 36]
theorem sm_X7_readClause_X7_step : ∀ c ∈ md_X7_step, c ∈ md_X7_readClause := by decide
theorem sm_X7_readClause_X5_add_t34 : ∀ c ∈ md_X5_add_t34, c ∈ md_X7_readClause := by decide
theorem sm_X7_readClause_X7_readClause : ∀ c ∈ md_X7_readClause, c ∈ md_X7_readClause := fun _ h => h
variable {q : Int32 × zH}
theorem m_X7_readCondition_110 {k7 : Int32 → Int32 → Int32 → Int32 → zH → zR} {F : Int32 → zH → zR} (hF : ∀ (h : zH) (x1 : Int32) (q : Int32 × zH), F x1 h = some q → ∀ c, c ∉ md_X7_readClause → q.2 c = h c) (hk7 : ∀ (h0 : zH) (x1 : Int32) (x2 : Int32) (x3 : Int32) (x4 : Int32), k7 x1 x2 x3 x4 h0 = some q → ∀ c, c ∉ md_X7_readClause → q.2 c = h0 c) : ∀ (h0 : zH) (x1 : Int32) (x2 : Int32) (x3 : Int32) (x4 : Int32), f_X7_readCondition_110 F k7 x1 x2 x3 x4 h0 = some q → ∀ c, c ∉ md_X7_readClause → q.2 c = h0 c := by
  intro h x1 x2 x3 x4 hf
  unfold f_X7_readCondition_110 at hf
  have fr : ∀ c, c ∉ md_X7_readClause → h c = h c := fun _ _ => rfl
  obtain ⟨y4, ey4, hf⟩ := zlt_some hf
  exact fun c hc9 => (hk7 _ _ _ _ _ hf c hc9).trans (fr c hc9)
theorem m_X7_readCondition_101 {k7 : Int32 → Int32 → Int32 → Int32 → zH → zR} {F : Int32 → zH → zR} (hF : ∀ (h : zH) (x1 : Int32) (q : Int32 × zH), F x1 h = some q → ∀ c, c ∉ md_X7_readClause → q.2 c = h c) (hk7 : ∀ (h0 : zH) (x1 : Int32) (x2 : Int32) (x3 : Int32) (x4 : Int32), k7 x1 x2 x3 x4 h0 = some q → ∀ c, c ∉ md_X7_readClause → q.2 c = h0 c) : ∀ (h0 : zH) (x1 : Int32) (x3 : Int32) (x4 : Int32) (s0 : Int32), f_X7_readCondition_101 F k7 x1 x3 x4 s0 h0 = some q → ∀ c, c ∉ md_X7_readClause → q.2 c = h0 c := by
  intro h x1 x3 x4 s0 hf
  unfold f_X7_readCondition_101 at hf
  have fr : ∀ c, c ∉ md_X7_readClause → h c = h c := fun _ _ => rfl
  rcases zif_c hf with ⟨hc, hf⟩ | ⟨hc, hf⟩
  · skip
    exact fun c hc9 => (m_X7_readCondition_110 hF hk7 _ _ _ _ _ hf c hc9).trans (fr c hc9)
  · skip
    obtain ⟨r5, h6, er5, hf⟩ := zbd_some hf
    have fr : ∀ c, c ∉ md_X7_readClause → h6 c = h c := fun c hc9 => (m_X7_step _ er5 c (fun z => hc9 (sm_X7_readClause_X7_step c z))).trans (fr c hc9)
    exact fun c hc9 => (m_X7_readCondition_110 hF hk7 _ _ _ _ _ hf c hc9).trans (fr c hc9)
theorem m_X7_readCondition_83 {k7 : Int32 → Int32 → Int32 → Int32 → zH → zR} {F : Int32 → zH → zR} (hF : ∀ (h : zH) (x1 : Int32) (q : Int32 × zH), F x1 h = some q → ∀ c, c ∉ md_X7_readClause → q.2 c = h c) (hk7 : ∀ (h0 : zH) (x1 : Int32) (x2 : Int32) (x3 : Int32) (x4 : Int32), k7 x1 x2 x3 x4 h0 = some q → ∀ c, c ∉ md_X7_readClause → q.2 c = h0 c) : ∀ (h0 : zH) (x1 : Int32) (x4 : Int32), f_X7_readCondition_83 F k7 x1 x4 h0 = some q → ∀ c, c ∉ md_X7_readClause → q.2 c = h0 c := by
  intro h x1 x4 hf
  unfold f_X7_readCondition_83 at hf
  have fr : ∀ c, c ∉ md_X7_readClause → h c = h c := fun _ _ => rfl
  obtain ⟨y3, ey3, hf⟩ := zlt_some hf
  rcases zif_n hf with ⟨hc, hf⟩ | ⟨hc, hf⟩
  · skip
    exact fun c hc9 => (m_X7_readCondition_101 hF hk7 _ _ _ _ _ hf c hc9).trans (fr c hc9)
  · skip
    exact fun c hc9 => (m_X7_readCondition_101 hF hk7 _ _ _ _ _ hf c hc9).trans (fr c hc9)
theorem m_X7_readCondition_69 {k7 : Int32 → Int32 → Int32 → Int32 → zH → zR} {F : Int32 → zH → zR} (hF : ∀ (h : zH) (x1 : Int32) (q : Int32 × zH), F x1 h = some q → ∀ c, c ∉ md_X7_readClause → q.2 c = h c) (hk7 : ∀ (h0 : zH) (x1 : Int32) (x2 : Int32) (x3 : Int32) (x4 : Int32), k7 x1 x2 x3 x4 h0 = some q → ∀ c, c ∉ md_X7_readClause → q.2 c = h0 c) : ∀ (h0 : zH) (x1 : Int32) (x3 : Int32) (x4 : Int32), f_X7_readCondition_69 F k7 x1 x3 x4 h0 = some q → ∀ c, c ∉ md_X7_readClause → q.2 c = h0 c := by
  intro h x1 x3 x4 hf
  unfold f_X7_readCondition_69 at hf
  have fr : ∀ c, c ∉ md_X7_readClause → h c = h c := fun _ _ => rfl
  rcases zif_n hf with ⟨hc, hf⟩ | ⟨hc, hf⟩
  · skip
    exact fun c hc9 => (m_X7_readCondition_83 hF hk7 _ _ _ hf c hc9).trans (fr c hc9)
  · skip
    obtain ⟨r7, h8, er7, hf⟩ := zbd_some hf
    have fr : ∀ c, c ∉ md_X7_readClause → h8 c = h c := fun c hc9 => (m_X5_add_t34 _ _ _ er7 c (fun z => hc9 (sm_X7_readClause_X5_add_t34 c z))).trans (fr c hc9)
    exact fun c hc9 => (m_X7_readCondition_83 hF hk7 _ _ _ hf c hc9).trans (fr c hc9)
theorem m_X7_readCondition_27 {k7 : Int32 → Int32 → Int32 → Int32 → zH → zR} {F : Int32 → zH → zR} (hF : ∀ (h : zH) (x1 : Int32) (q : Int32 × zH), F x1 h = some q → ∀ c, c ∉ md_X7_readClause → q.2 c = h c) (hk7 : ∀ (h0 : zH) (x1 : Int32) (x2 : Int32) (x3 : Int32) (x4 : Int32), k7 x1 x2 x3 x4 h0 = some q → ∀ c, c ∉ md_X7_readClause → q.2 c = h0 c) : ∀ n, ∀ (h0 : zH) (x1 : Int32) (x3 : Int32) (x4 : Int32) (x5 : Int32), f_X7_readCondition_27 F k7 n x1 x3 x4 x5 h0 = some q → ∀ c, c ∉ md_X7_readClause → q.2 c = h0 c := by
  intro n
  induction n with
  | zero => intro h x1 x3 x4 x5 hf; cases hf
  | succ n ih =>
    intro h x1 x3 x4 x5 hf
    rw [f_X7_readCondition_27] at hf
    have fr : ∀ c, c ∉ md_X7_readClause → h c = h c := fun _ _ => rfl
    rcases zif_c hf with ⟨hc, hf⟩ | ⟨hc, hf⟩
    · skip
      exact fun c hc9 => (m_X7_readCondition_69 hF hk7 _ _ _ _ hf c hc9).trans (fr c hc9)
    · skip
      rcases zif_n hf with ⟨hc, hf⟩ | ⟨hc, hf⟩
      · skip
        exact fun c hc9 => (m_X7_readCondition_69 hF hk7 _ _ _ _ hf c hc9).trans (fr c hc9)
      · skip
        obtain ⟨r9, h10, er9, hf⟩ := zbd_some hf
        have fr : ∀ c, c ∉ md_X7_readClause → h10 c = h c := fun c hc9 => (m_X7_step _ er9 c (fun z => hc9 (sm_X7_readClause_X7_step c z))).trans (fr c hc9)
        obtain ⟨r11, h12, er11, hf⟩ := zbd_some hf
        have fr : ∀ c, c ∉ md_X7_readClause → h12 c = h c := fun c hc9 => (hF _ _  (r11, h12) er11 c hc9).trans (fr c hc9)
        obtain ⟨r13, h14, er13, hf⟩ := zbd_some hf
        have fr : ∀ c, c ∉ md_X7_readClause → h14 c = h c := fun c hc9 => (m_X5_add_t34 _ _ _ er13 c (fun z => hc9 (sm_X7_readClause_X5_add_t34 c z))).trans (fr c hc9)
        obtain ⟨y15, ey15, hf⟩ := zlt_some hf
        exact fun c hc9 => (ih _ _ _ _ _ hf c hc9).trans (fr c hc9)
theorem m_X7_readCondition_7  {F : Int32 → zH → zR} (hF : ∀ (h : zH) (x1 : Int32) (q : Int32 × zH), F x1 h = some q → ∀ c, c ∉ md_X7_readClause → q.2 c = h c)  : ∀ n, ∀ (h0 : zH) (x1 : Int32) (x2 : Int32) (x3 : Int32) (x4 : Int32), f_X7_readCondition_7 F  n x1 x2 x3 x4 h0 = some q → ∀ c, c ∉ md_X7_readClause → q.2 c = h0 c := by
  intro n
  induction n with
  | zero => intro h x1 x2 x3 x4 hf; cases hf
  | succ n ih =>
    intro h x1 x2 x3 x4 hf
    rw [f_X7_readCondition_7] at hf
    have fr : ∀ c, c ∉ md_X7_readClause → h c = h c := fun _ _ => rfl
    rcases zif_c hf with ⟨hc, hf⟩ | ⟨hc, hf⟩
    · skip
      cases hf
      exact fr
    · skip
      rcases zif_c hf with ⟨hc, hf⟩ | ⟨hc, hf⟩
      · skip
        cases hf
        exact fr
      · skip
        obtain ⟨r1, h2, er1, hf⟩ := zbd_some hf
        have fr : ∀ c, c ∉ md_X7_readClause → h2 c = h c := fun c hc9 => (hF _ _  (r1, h2) er1 c hc9).trans (fr c hc9)
        exact fun c hc9 => (m_X7_readCondition_27 hF ih zN _ _ _ _ _ hf c hc9).trans (fr c hc9)
theorem m_X7_readCondition {F : Int32 → zH → zR} (hF : ∀ (h : zH) (x1 : Int32) (q : Int32 × zH), F x1 h = some q → ∀ c, c ∉ md_X7_readClause → q.2 c = h c) : ∀ (h0 : zH) (x1 : Int32) {q : Int32 × zH}, f_X7_readCondition F x1 h0 = some q → ∀ c, c ∉ md_X7_readClause → q.2 c = h0 c := by
  intro h x1 q hf
  unfold f_X7_readCondition at hf
  have fr : ∀ c, c ∉ md_X7_readClause → h c = h c := fun _ _ => rfl
  exact fun c hc9 => (m_X7_readCondition_7 hF  zN _ _ _ _ _ hf c hc9).trans (fr c hc9)
end
section
theorem sm_X7_readClause_X7_readSum : ∀ c ∈ md_X7_readSum, c ∈ md_X7_readClause := by decide
theorem sm_X7_readClause_X7_expect : ∀ c ∈ md_X7_expect, c ∈ md_X7_readClause := by decide
theorem sm_X7_readClause_X7_blame : ∀ c ∈ md_X7_blame, c ∈ md_X7_readClause := by decide
variable {q : Int32 × zH}
theorem m_X7_readClause_b_31  {F : Int32 → zH → zR} (hF : ∀ (h : zH) (x1 : Int32) (q : Int32 × zH), F x1 h = some q → ∀ c, c ∉ md_X7_readClause → q.2 c = h c)  : ∀ (h0 : zH) (x1 : Int32) (x2 : Int32), f_X7_readClause_b_31 F  x1 x2 h0 = some q → ∀ c, c ∉ md_X7_readClause → q.2 c = h0 c := by
  intro h x1 x2 hf
  unfold f_X7_readClause_b_31 at hf
  have fr : ∀ c, c ∉ md_X7_readClause → h c = h c := fun _ _ => rfl
  rcases zif_n hf with ⟨hc, hf⟩ | ⟨hc, hf⟩
  · skip
    rcases zif_n hf with ⟨hc, hf⟩ | ⟨hc, hf⟩
    · skip
      obtain ⟨r2, h3, er2, hf⟩ := zbd_some hf
      have fr : ∀ c, c ∉ md_X7_readClause → h3 c = h c := fun c hc9 => (m_X7_readSum _ er2 c (fun z => hc9 (sm_X7_readClause_X7_readSum c z))).trans (fr c hc9)
      obtain ⟨y4, ey4, hf⟩ := zlt_some hf
      obtain ⟨r5, h6, er5, hf⟩ := zbd_some hf
      have fr : ∀ c, c ∉ md_X7_readClause → h6 c = h c := fun c hc9 => (m_X7_expect _ _ _ er5 c (fun z => hc9 (sm_X7_readClause_X7_expect c z))).trans (fr c hc9)
      obtain ⟨r7, h8, er7, hf⟩ := zbd_some hf
      have fr : ∀ c, c ∉ md_X7_readClause → h8 c = h c := fun c hc9 => (m_X7_readSum _ er7 c (fun z => hc9 (sm_X7_readClause_X7_readSum c z))).trans (fr c hc9)
      obtain ⟨r9, h10, er9, hf⟩ := zbd_some hf
      have fr : ∀ c, c ∉ md_X7_readClause → h10 c = h c := fun c hc9 => (m_X5_add_t34 _ _ _ er9 c (fun z => hc9 (sm_X7_readClause_X5_add_t34 c z))).trans (fr c hc9)
      cases hf
      exact fr
    · skip
      obtain ⟨r11, h12, er11, hf⟩ := zbd_some hf
      have fr : ∀ c, c ∉ md_X7_readClause → h12 c = h c := fun c hc9 => (m_X7_step _ er11 c (fun z => hc9 (sm_X7_readClause_X7_step c z))).trans (fr c hc9)
      obtain ⟨r13, h14, er13, hf⟩ := zbd_some hf
      have fr : ∀ c, c ∉ md_X7_readClause → h14 c = h c := fun c hc9 => (m_X7_readCondition hF _ _ er13 c (fun z => hc9 (sm_X7_readClause_X7_readClause c z))).trans (fr c hc9)
      obtain ⟨r15, h16, er15, hf⟩ := zbd_some hf
      have fr : ∀ c, c ∉ md_X7_readClause → h16 c = h c := fun c hc9 => (m_X7_expect _ _ _ er15 c (fun z => hc9 (sm_X7_readClause_X7_expect c z))).trans (fr c hc9)
      cases hf
      exact fr
  · skip
    obtain ⟨r17, h18, er17, hf⟩ := zbd_some hf
    have fr : ∀ c, c ∉ md_X7_readClause → h18 c = h c := fun c hc9 => (m_X7_step _ er17 c (fun z => hc9 (sm_X7_readClause_X7_step c z))).trans (fr c hc9)
    obtain ⟨r19, h20, er19, hf⟩ := zbd_some hf
    have fr : ∀ c, c ∉ md_X7_readClause → h20 c = h c := fun c hc9 => (hF _ _  (r19, h20) er19 c hc9).trans (fr c hc9)
    obtain ⟨r21, h22, er21, hf⟩ := zbd_some hf
    have fr : ∀ c, c ∉ md_X7_readClause → h22 c = h c := fun c hc9 => (m_X5_add_t34 _ _ _ er21 c (fun z => hc9 (sm_X7_readClause_X5_add_t34 c z))).trans (fr c hc9)
    cases hf
    exact fr
theorem m_X7_readClause_b_17  {F : Int32 → zH → zR} (hF : ∀ (h : zH) (x1 : Int32) (q : Int32 × zH), F x1 h = some q → ∀ c, c ∉ md_X7_readClause → q.2 c = h c)  : ∀ (h0 : zH) (x1 : Int32) (x2 : Int32), f_X7_readClause_b_17 F  x1 x2 h0 = some q → ∀ c, c ∉ md_X7_readClause → q.2 c = h0 c := by
  intro h x1 x2 hf
  unfold f_X7_readClause_b_17 at hf
  have fr : ∀ c, c ∉ md_X7_readClause → h c = h c := fun _ _ => rfl
  rcases zif_c hf with ⟨hc, hf⟩ | ⟨hc, hf⟩
  · skip
    exact fun c hc9 => (m_X7_readClause_b_31 hF  _ _ _ hf c hc9).trans (fr c hc9)
  · skip
    obtain ⟨r23, h24, er23, hf⟩ := zbd_some hf
    have fr : ∀ c, c ∉ md_X7_readClause → h24 c = h c := fun c hc9 => (m_X7_blame _ _ er23 c (fun z => hc9 (sm_X7_readClause_X7_blame c z))).trans (fr c hc9)
    cases hf
    exact fr
theorem m_X7_readClause_b {F : Int32 → zH → zR} (hF : ∀ (h : zH) (x1 : Int32) (q : Int32 × zH), F x1 h = some q → ∀ c, c ∉ md_X7_readClause → q.2 c = h c) : ∀ (h0 : zH) (x1 : Int32) {q : Int32 × zH}, f_X7_readClause_b F x1 h0 = some q → ∀ c, c ∉ md_X7_readClause → q.2 c = h0 c := by
  intro h x1 q hf
  unfold f_X7_readClause_b at hf
  have fr : ∀ c, c ∉ md_X7_readClause → h c = h c := fun _ _ => rfl
  obtain ⟨y1, ey1, hf⟩ := zlt_some hf
  rcases zif_c hf with ⟨hc, hf⟩ | ⟨hc, hf⟩
  · skip
    exact fun c hc9 => (m_X7_readClause_b_17 hF  _ _ _ hf c hc9).trans (fr c hc9)
  · skip
    rcases zif_n hf with ⟨hc, hf⟩ | ⟨hc, hf⟩
    · skip
      exact fun c hc9 => (m_X7_readClause_b_31 hF  _ _ _ hf c hc9).trans (fr c hc9)
    · skip
      exact fun c hc9 => (m_X7_readClause_b_17 hF  _ _ _ hf c hc9).trans (fr c hc9)
theorem m_X7_readClause : ∀ (d : Nat) (h : zH) (x1 : Int32) (q : Int32 × zH), f_X7_readClause d x1 h = some q → ∀ c, c ∉ md_X7_readClause → q.2 c = h c := by
  intro d
  induction d with
  | zero => intro h x1 q hf; cases hf
  | succ d ih => intro h x1 q hf; exact m_X7_readClause_b ih h x1 hf
end
section
abbrev md_X7_readLine : List Nat := [29, 34, 35, 36]
theorem sm_X7_readLine_X7_expect : ∀ c ∈ md_X7_expect, c ∈ md_X7_readLine := by decide
theorem sm_X7_readLine_X7_readSum : ∀ c ∈ md_X7_readSum, c ∈ md_X7_readLine := by decide
theorem sm_X7_readLine_X5_add_t34 : ∀ c ∈ md_X5_add_t34, c ∈ md_X7_readLine := by decide
theorem sm_X7_readLine_X7_step : ∀ c ∈ md_X7_step, c ∈ md_X7_readLine := by decide
theorem sm_X7_readLine_X7_readClause : ∀ c ∈ md_X7_readClause, c ∈ md_X7_readLine := by decide
theorem sm_X7_readLine_X7_blame : ∀ c ∈ md_X7_blame, c ∈ md_X7_readLine := by decide
variable {q : Int32 × zH}
theorem m_X7_readLine_55   : ∀ (h0 : zH) (x1 : Int32), f_X7_readLine_55  x1 h0 = some q → ∀ c, c ∉ md_X7_readLine → q.2 c = h0 c := by
  intro h x1 hf
  unfold f_X7_readLine_55 at hf
  have fr : ∀ c, c ∉ md_X7_readLine → h c = h c := fun _ _ => rfl
  obtain ⟨r6, h7, er6, hf⟩ := zbd_some hf
  have fr : ∀ c, c ∉ md_X7_readLine → h7 c = h c := fun c hc9 => (m_X7_expect _ _ _ er6 c (fun z => hc9 (sm_X7_readLine_X7_expect c z))).trans (fr c hc9)
  obtain ⟨r8, h9, er8, hf⟩ := zbd_some hf
  have fr : ∀ c, c ∉ md_X7_readLine → h9 c = h c := fun c hc9 => (m_X5_add_t34 _ _ _ er8 c (fun z => hc9 (sm_X7_readLine_X5_add_t34 c z))).trans (fr c hc9)
  obtain ⟨h10, eh10, hf⟩ := zst_some hf
  have fr : ∀ c, c ∉ md_X7_readLine → h10 c = h c := fun c hc9 => (congrFun eh10 c).trans ((zup_ne c (fun z => hc9 (by rw [z]; decide))).trans (fr c hc9))
  cases hf
  exact fr
theorem m_X7_readLine_26   : ∀ (h0 : zH), f_X7_readLine_26  h0 = some q → ∀ c, c ∉ md_X7_readLine → q.2 c = h0 c := by
  intro h hf
  unfold f_X7_readLine_26 at hf
  have fr : ∀ c, c ∉ md_X7_readLine → h c = h c := fun _ _ => rfl
  obtain ⟨r1, h2, er1, hf⟩ := zbd_some hf
  have fr : ∀ c, c ∉ md_X7_readLine → h2 c = h c := fun c hc9 => (m_X7_expect _ _ _ er1 c (fun z => hc9 (sm_X7_readLine_X7_expect c z))).trans (fr c hc9)
  obtain ⟨r3, h4, er3, hf⟩ := zbd_some hf
  have fr : ∀ c, c ∉ md_X7_readLine → h4 c = h c := fun c hc9 => (m_X7_readSum _ er3 c (fun z => hc9 (sm_X7_readLine_X7_readSum c z))).trans (fr c hc9)
  obtain ⟨y5, ey5, hf⟩ := zlt_some hf
  rcases zif_n hf with ⟨hc, hf⟩ | ⟨hc, hf⟩
  · skip
    exact fun c hc9 => (m_X7_readLine_55  _ _ hf c hc9).trans (fr c hc9)
  · skip
    obtain ⟨r11, h12, er11, hf⟩ := zbd_some hf
    have fr : ∀ c, c ∉ md_X7_readLine → h12 c = h c := fun c hc9 => (m_X7_step _ er11 c (fun z => hc9 (sm_X7_readLine_X7_step c z))).trans (fr c hc9)
    obtain ⟨r13, h14, er13, hf⟩ := zbd_some hf
    have fr : ∀ c, c ∉ md_X7_readLine → h14 c = h c := fun c hc9 => (m_X7_readCondition (m_X7_readClause 12) _ _ er13 c (fun z => hc9 (sm_X7_readLine_X7_readClause c z))).trans (fr c hc9)
    exact fun c hc9 => (m_X7_readLine_55  _ _ hf c hc9).trans (fr c hc9)
theorem m_X7_readLine : ∀ (h0 : zH) {q : Int32 × zH}, f_X7_readLine h0 = some q → ∀ c, c ∉ md_X7_readLine → q.2 c = h0 c := by
  intro h q hf
  unfold f_X7_readLine at hf
  have fr : ∀ c, c ∉ md_X7_readLine → h c = h c := fun _ _ => rfl
  rcases zif_n hf with ⟨hc, hf⟩ | ⟨hc, hf⟩
  · skip
    exact fun c hc9 => (m_X7_readLine_26  _ hf c hc9).trans (fr c hc9)
  · skip
    rcases zif_c hf with ⟨hc, hf⟩ | ⟨hc, hf⟩
    · skip
      exact fun c hc9 => (m_X7_readLine_26  _ hf c hc9).trans (fr c hc9)
    · skip
      obtain ⟨r15, h16, er15, hf⟩ := zbd_some hf
      have fr : ∀ c, c ∉ md_X7_readLine → h16 c = h c := fun c hc9 => (m_X7_blame _ _ er15 c (fun z => hc9 (sm_X7_readLine_X7_blame c z))).trans (fr c hc9)
      cases hf
      exact fr
end
section
abbrev md_X7_readLaw : List Nat := [29, 31, 32, 33, 34, 35, 36]
theorem sm_X7_readLaw_X7_split : ∀ c ∈ md_X7_split, c ∈ md_X7_readLaw := by decide
theorem sm_X7_readLaw_X5_clear_t34 : ∀ c ∈ md_X5_clear_t34, c ∈ md_X7_readLaw := by decide
theorem sm_X7_readLaw_X7_readLine : ∀ c ∈ md_X7_readLine, c ∈ md_X7_readLaw := by decide
variable {q : Int32 × zH}
theorem m_X7_readLaw_69   : ∀ (h0 : zH), f_X7_readLaw_69  h0 = some q → ∀ c, c ∉ md_X7_readLaw → q.2 c = h0 c := by
  intro h hf
  unfold f_X7_readLaw_69 at hf
  have fr : ∀ c, c ∉ md_X7_readLaw → h c = h c := fun _ _ => rfl
  rcases zif_n hf with ⟨hc, hf⟩ | ⟨hc, hf⟩
  · skip
    cases hf
    exact fr
  · skip
    cases hf
    exact fr
theorem m_X7_readLaw_38   : ∀ n, ∀ (h0 : zH) (x1 : Int32), f_X7_readLaw_38  n x1 h0 = some q → ∀ c, c ∉ md_X7_readLaw → q.2 c = h0 c := by
  intro n
  induction n with
  | zero => intro h x1 hf; cases hf
  | succ n ih =>
    intro h x1 hf
    rw [f_X7_readLaw_38] at hf
    have fr : ∀ c, c ∉ md_X7_readLaw → h c = h c := fun _ _ => rfl
    rcases zif_c hf with ⟨hc, hf⟩ | ⟨hc, hf⟩
    · skip
      exact fun c hc9 => (m_X7_readLaw_69  _ hf c hc9).trans (fr c hc9)
    · skip
      rcases zif_c hf with ⟨hc, hf⟩ | ⟨hc, hf⟩
      · skip
        exact fun c hc9 => (m_X7_readLaw_69  _ hf c hc9).trans (fr c hc9)
      · skip
        rcases zif_n hf with ⟨hc, hf⟩ | ⟨hc, hf⟩
        · skip
          exact fun c hc9 => (m_X7_readLaw_69  _ hf c hc9).trans (fr c hc9)
        · skip
          obtain ⟨r9, h10, er9, hf⟩ := zbd_some hf
          have fr : ∀ c, c ∉ md_X7_readLaw → h10 c = h c := fun c hc9 => (m_X7_readLine _ er9 c (fun z => hc9 (sm_X7_readLaw_X7_readLine c z))).trans (fr c hc9)
          obtain ⟨y11, ey11, hf⟩ := zlt_some hf
          exact fun c hc9 => (ih _ _ hf c hc9).trans (fr c hc9)
theorem m_X7_readLaw : ∀ (h0 : zH) {q : Int32 × zH}, f_X7_readLaw h0 = some q → ∀ c, c ∉ md_X7_readLaw → q.2 c = h0 c := by
  intro h q hf
  unfold f_X7_readLaw at hf
  have fr : ∀ c, c ∉ md_X7_readLaw → h c = h c := fun _ _ => rfl
  obtain ⟨r1, h2, er1, hf⟩ := zbd_some hf
  have fr : ∀ c, c ∉ md_X7_readLaw → h2 c = h c := fun c hc9 => (m_X7_split _ er1 c (fun z => hc9 (sm_X7_readLaw_X7_split c z))).trans (fr c hc9)
  obtain ⟨r3, h4, er3, hf⟩ := zbd_some hf
  have fr : ∀ c, c ∉ md_X7_readLaw → h4 c = h c := fun c hc9 => (m_X5_clear_t34 _ er3 c (fun z => hc9 (sm_X7_readLaw_X5_clear_t34 c z))).trans (fr c hc9)
  obtain ⟨h5, eh5, hf⟩ := zst_some hf
  have fr : ∀ c, c ∉ md_X7_readLaw → h5 c = h c := fun c hc9 => (congrFun eh5 c).trans ((zup_ne c (fun z => hc9 (by rw [z]; decide))).trans (fr c hc9))
  obtain ⟨h6, eh6, hf⟩ := zst_some hf
  have fr : ∀ c, c ∉ md_X7_readLaw → h6 c = h c := fun c hc9 => (congrFun eh6 c).trans ((zup_ne c (fun z => hc9 (by rw [z]; decide))).trans (fr c hc9))
  obtain ⟨h7, eh7, hf⟩ := zst_some hf
  have fr : ∀ c, c ∉ md_X7_readLaw → h7 c = h c := fun c hc9 => (congrFun eh7 c).trans ((zup_ne c (fun z => hc9 (by rw [z]; decide))).trans (fr c hc9))
  obtain ⟨h8, eh8, hf⟩ := zst_some hf
  have fr : ∀ c, c ∉ md_X7_readLaw → h8 c = h c := fun c hc9 => (congrFun eh8 c).trans ((zup_ne c (fun z => hc9 (by rw [z]; decide))).trans (fr c hc9))
  exact fun c hc9 => (m_X7_readLaw_38  zN _ _ hf c hc9).trans (fr c hc9)
end
section
abbrev md_X11_text : List Nat := [16, 17, 18, 29, 31, 32, 33, 34, 35, 36]
theorem sm_X11_text_X7_readLaw : ∀ c ∈ md_X7_readLaw, c ∈ md_X11_text := by decide
theorem sm_X11_text_X5_copyFrom_r34 : ∀ c ∈ md_X5_copyFrom_r34, c ∈ md_X11_text := by decide
variable {q : Int32 × zH}
theorem m_X11_text : ∀ (h0 : zH) {q : Int32 × zH}, f_X11_text h0 = some q → ∀ c, c ∉ md_X11_text → q.2 c = h0 c := by
  intro h q hf
  unfold f_X11_text at hf
  have fr : ∀ c, c ∉ md_X11_text → h c = h c := fun _ _ => rfl
  obtain ⟨r1, h2, er1, hf⟩ := zbd_some hf
  have fr : ∀ c, c ∉ md_X11_text → h2 c = h c := fun c hc9 => (m_X7_readLaw _ er1 c (fun z => hc9 (sm_X11_text_X7_readLaw c z))).trans (fr c hc9)
  obtain ⟨h3, eh3, hf⟩ := zst_some hf
  have fr : ∀ c, c ∉ md_X11_text → h3 c = h c := fun c hc9 => (congrFun eh3 c).trans ((zup_ne c (fun z => hc9 (by rw [z]; decide))).trans (fr c hc9))
  rcases zif_n hf with ⟨hc, hf⟩ | ⟨hc, hf⟩
  · skip
    obtain ⟨r4, h5, er4, hf⟩ := zbd_some hf
    have fr : ∀ c, c ∉ md_X11_text → h5 c = h c := fun c hc9 => (m_X5_copyFrom_r34 _ er4 c (fun z => hc9 (sm_X11_text_X5_copyFrom_r34 c z))).trans (fr c hc9)
    cases hf
    exact fr
  · skip
    cases hf
    exact fr
end
section
abbrev md_X12_see : List Nat := []
variable {q : Int32 × zH}
theorem m_X12_see : ∀ (h0 : zH) (x1 : Int32) {q : Int32 × zH}, f_X12_see x1 h0 = some q → ∀ c, c ∉ md_X12_see → q.2 c = h0 c := by
  intro h x1 q hf
  unfold f_X12_see at hf
  have fr : ∀ c, c ∉ md_X12_see → h c = h c := fun _ _ => rfl
  rcases zif_c hf with ⟨hc, hf⟩ | ⟨hc, hf⟩
  · skip
    cases hf
    exact fr
  · skip
    obtain ⟨hi, hf⟩ := zck_some hf
    cases hf
    exact fr
end
section
abbrev md_X12_isLetter : List Nat := []
theorem sm_X12_isLetter_X12_isIn : ∀ c ∈ md_X12_isIn, c ∈ md_X12_isLetter := by decide
variable {q : Int32 × zH}
theorem m_X12_isLetter_22   : ∀ (h0 : zH), f_X12_isLetter_22  h0 = some q → ∀ c, c ∉ md_X12_isLetter → q.2 c = h0 c := by
  intro h hf
  unfold f_X12_isLetter_22 at hf
  have fr : ∀ c, c ∉ md_X12_isLetter → h c = h c := fun _ _ => rfl
  cases hf
  exact fr
theorem m_X12_isLetter : ∀ (h0 : zH) (x0 : Int32) {q : Int32 × zH}, f_X12_isLetter x0 h0 = some q → ∀ c, c ∉ md_X12_isLetter → q.2 c = h0 c := by
  intro h x0 q hf
  unfold f_X12_isLetter at hf
  have fr : ∀ c, c ∉ md_X12_isLetter → h c = h c := fun _ _ => rfl
  obtain ⟨r1, h2, er1, hf⟩ := zbd_some hf
  have fr : ∀ c, c ∉ md_X12_isLetter → h2 c = h c := fun c hc9 => (m_X12_isIn _ _ _ _ er1 c (fun z => hc9 (sm_X12_isLetter_X12_isIn c z))).trans (fr c hc9)
  rcases zif_n hf with ⟨hc, hf⟩ | ⟨hc, hf⟩
  · skip
    exact fun c hc9 => (m_X12_isLetter_22  _ hf c hc9).trans (fr c hc9)
  · skip
    obtain ⟨r3, h4, er3, hf⟩ := zbd_some hf
    have fr : ∀ c, c ∉ md_X12_isLetter → h4 c = h c := fun c hc9 => (m_X12_isIn _ _ _ _ er3 c (fun z => hc9 (sm_X12_isLetter_X12_isIn c z))).trans (fr c hc9)
    rcases zif_c hf with ⟨hc, hf⟩ | ⟨hc, hf⟩
    · skip
      cases hf
      exact fr
    · skip
      exact fun c hc9 => (m_X12_isLetter_22  _ hf c hc9).trans (fr c hc9)
end
section
abbrev md_X12_isDigit : List Nat := []
theorem sm_X12_isDigit_X12_isIn : ∀ c ∈ md_X12_isIn, c ∈ md_X12_isDigit := by decide
variable {q : Int32 × zH}
theorem m_X12_isDigit : ∀ (h0 : zH) (x0 : Int32) {q : Int32 × zH}, f_X12_isDigit x0 h0 = some q → ∀ c, c ∉ md_X12_isDigit → q.2 c = h0 c := by
  intro h x0 q hf
  unfold f_X12_isDigit at hf
  have fr : ∀ c, c ∉ md_X12_isDigit → h c = h c := fun _ _ => rfl
  obtain ⟨r1, h2, er1, hf⟩ := zbd_some hf
  have fr : ∀ c, c ∉ md_X12_isDigit → h2 c = h c := fun c hc9 => (m_X12_isIn _ _ _ _ er1 c (fun z => hc9 (sm_X12_isDigit_X12_isIn c z))).trans (fr c hc9)
  obtain ⟨hb, hf⟩ := zbo_some hf
  cases hf
  exact fr
end
section
abbrev md_X12_is : List Nat := []
theorem sm_X12_is_J0_length_8abf5 : ∀ c ∈ md_J0_length_8abf5, c ∈ md_X12_is := by decide
theorem sm_X12_is_J0_charAt_5068e : ∀ c ∈ md_J0_charAt_5068e, c ∈ md_X12_is := by decide
variable {q : Int32 × zH}
theorem m_X12_is_67   : ∀ (h0 : zH) (x2 : Int32), f_X12_is_67  x2 h0 = some q → ∀ c, c ∉ md_X12_is → q.2 c = h0 c := by
  intro h x2 hf
  unfold f_X12_is_67 at hf
  have fr : ∀ c, c ∉ md_X12_is → h c = h c := fun _ _ => rfl
  obtain ⟨hb, hf⟩ := zbo_some hf
  cases hf
  exact fr
theorem m_X12_is_60 {k24 : Nat → Int32 → Int32 → zH → zR} (hk24 : ∀ (h0 : zH) (i1 : Nat) (x2 : Int32) (x3 : Int32), k24 i1 x2 x3 h0 = some q → ∀ c, c ∉ md_X12_is → q.2 c = h0 c) : ∀ (h0 : zH) (i1 : Nat) (x3 : Int32) (s0 : Int32), f_X12_is_60 k24 i1 x3 s0 h0 = some q → ∀ c, c ∉ md_X12_is → q.2 c = h0 c := by
  intro h i1 x3 s0 hf
  unfold f_X12_is_60 at hf
  have fr : ∀ c, c ∉ md_X12_is → h c = h c := fun _ _ => rfl
  obtain ⟨y7, ey7, hf⟩ := zlt_some hf
  exact fun c hc9 => (hk24 _ _ _ _ hf c hc9).trans (fr c hc9)
theorem m_X12_is_24   : ∀ n, ∀ (h0 : zH) (i1 : Nat) (x2 : Int32) (x3 : Int32), f_X12_is_24  n i1 x2 x3 h0 = some q → ∀ c, c ∉ md_X12_is → q.2 c = h0 c := by
  intro n
  induction n with
  | zero => intro h i1 x2 x3 hf; cases hf
  | succ n ih =>
    intro h i1 x2 x3 hf
    rw [f_X12_is_24] at hf
    have fr : ∀ c, c ∉ md_X12_is → h c = h c := fun _ _ => rfl
    obtain ⟨r3, h4, er3, hf⟩ := zbd_some hf
    have fr : ∀ c, c ∉ md_X12_is → h4 c = h c := fun c hc9 => (m_J0_length_8abf5 _ _ er3 c (fun z => hc9 (sm_X12_is_J0_length_8abf5 c z))).trans (fr c hc9)
    rcases zif_c hf with ⟨hc, hf⟩ | ⟨hc, hf⟩
    · skip
      exact fun c hc9 => (m_X12_is_67  _ _ hf c hc9).trans (fr c hc9)
    · skip
      rcases zif_c hf with ⟨hc, hf⟩ | ⟨hc, hf⟩
      · skip
        exact fun c hc9 => (m_X12_is_67  _ _ hf c hc9).trans (fr c hc9)
      · skip
        obtain ⟨hi, hf⟩ := zck_some hf
        obtain ⟨r5, h6, er5, hf⟩ := zbd_some hf
        have fr : ∀ c, c ∉ md_X12_is → h6 c = h c := fun c hc9 => (m_J0_charAt_5068e _ _ _ er5 c (fun z => hc9 (sm_X12_is_J0_charAt_5068e c z))).trans (fr c hc9)
        rcases zif_n hf with ⟨hc, hf⟩ | ⟨hc, hf⟩
        · skip
          exact fun c hc9 => (m_X12_is_60 ih _ _ _ _ hf c hc9).trans (fr c hc9)
        · skip
          exact fun c hc9 => (m_X12_is_60 ih _ _ _ _ hf c hc9).trans (fr c hc9)
theorem m_X12_is_21   : ∀ (h0 : zH) (i1 : Nat) (s0 : Int32), f_X12_is_21  i1 s0 h0 = some q → ∀ c, c ∉ md_X12_is → q.2 c = h0 c := by
  intro h i1 s0 hf
  unfold f_X12_is_21 at hf
  have fr : ∀ c, c ∉ md_X12_is → h c = h c := fun _ _ => rfl
  exact fun c hc9 => (m_X12_is_24  zN _ _ _ _ hf c hc9).trans (fr c hc9)
theorem m_X12_is : ∀ (h0 : zH) (i1 : Nat) {q : Int32 × zH}, f_X12_is i1 h0 = some q → ∀ c, c ∉ md_X12_is → q.2 c = h0 c := by
  intro h i1 q hf
  unfold f_X12_is at hf
  have fr : ∀ c, c ∉ md_X12_is → h c = h c := fun _ _ => rfl
  obtain ⟨r1, h2, er1, hf⟩ := zbd_some hf
  have fr : ∀ c, c ∉ md_X12_is → h2 c = h c := fun c hc9 => (m_J0_length_8abf5 _ _ er1 c (fun z => hc9 (sm_X12_is_J0_length_8abf5 c z))).trans (fr c hc9)
  rcases zif_n hf with ⟨hc, hf⟩ | ⟨hc, hf⟩
  · skip
    exact fun c hc9 => (m_X12_is_21  _ _ _ hf c hc9).trans (fr c hc9)
  · skip
    exact fun c hc9 => (m_X12_is_21  _ _ _ hf c hc9).trans (fr c hc9)
end
section
abbrev md_X12_nameWord : List Nat := []
theorem sm_X12_nameWord_X12_is : ∀ c ∈ md_X12_is, c ∈ md_X12_nameWord := by decide
variable {q : Int32 × zH}
theorem m_X12_nameWord : ∀ (h0 : zH) {q : Int32 × zH}, f_X12_nameWord h0 = some q → ∀ c, c ∉ md_X12_nameWord → q.2 c = h0 c := by
  intro h q hf
  unfold f_X12_nameWord at hf
  have fr : ∀ c, c ∉ md_X12_nameWord → h c = h c := fun _ _ => rfl
  obtain ⟨r1, h2, er1, hf⟩ := zbd_some hf
  have fr : ∀ c, c ∉ md_X12_nameWord → h2 c = h c := fun c hc9 => (m_X12_is _ _ er1 c (fun z => hc9 (sm_X12_nameWord_X12_is c z))).trans (fr c hc9)
  rcases zif_c hf with ⟨hc, hf⟩ | ⟨hc, hf⟩
  · skip
    obtain ⟨r3, h4, er3, hf⟩ := zbd_some hf
    have fr : ∀ c, c ∉ md_X12_nameWord → h4 c = h c := fun c hc9 => (m_X12_is _ _ er3 c (fun z => hc9 (sm_X12_nameWord_X12_is c z))).trans (fr c hc9)
    rcases zif_c hf with ⟨hc, hf⟩ | ⟨hc, hf⟩
    · skip
      obtain ⟨r5, h6, er5, hf⟩ := zbd_some hf
      have fr : ∀ c, c ∉ md_X12_nameWord → h6 c = h c := fun c hc9 => (m_X12_is _ _ er5 c (fun z => hc9 (sm_X12_nameWord_X12_is c z))).trans (fr c hc9)
      rcases zif_c hf with ⟨hc, hf⟩ | ⟨hc, hf⟩
      · skip
        obtain ⟨r7, h8, er7, hf⟩ := zbd_some hf
        have fr : ∀ c, c ∉ md_X12_nameWord → h8 c = h c := fun c hc9 => (m_X12_is _ _ er7 c (fun z => hc9 (sm_X12_nameWord_X12_is c z))).trans (fr c hc9)
        rcases zif_c hf with ⟨hc, hf⟩ | ⟨hc, hf⟩
        · skip
          obtain ⟨r9, h10, er9, hf⟩ := zbd_some hf
          have fr : ∀ c, c ∉ md_X12_nameWord → h10 c = h c := fun c hc9 => (m_X12_is _ _ er9 c (fun z => hc9 (sm_X12_nameWord_X12_is c z))).trans (fr c hc9)
          rcases zif_c hf with ⟨hc, hf⟩ | ⟨hc, hf⟩
          · skip
            obtain ⟨r11, h12, er11, hf⟩ := zbd_some hf
            have fr : ∀ c, c ∉ md_X12_nameWord → h12 c = h c := fun c hc9 => (m_X12_is _ _ er11 c (fun z => hc9 (sm_X12_nameWord_X12_is c z))).trans (fr c hc9)
            rcases zif_c hf with ⟨hc, hf⟩ | ⟨hc, hf⟩
            · skip
              obtain ⟨r13, h14, er13, hf⟩ := zbd_some hf
              have fr : ∀ c, c ∉ md_X12_nameWord → h14 c = h c := fun c hc9 => (m_X12_is _ _ er13 c (fun z => hc9 (sm_X12_nameWord_X12_is c z))).trans (fr c hc9)
              rcases zif_c hf with ⟨hc, hf⟩ | ⟨hc, hf⟩
              · skip
                cases hf
                exact fr
              · skip
                cases hf
                exact fr
            · skip
              cases hf
              exact fr
          · skip
            cases hf
            exact fr
        · skip
          cases hf
          exact fr
      · skip
        cases hf
        exact fr
    · skip
      cases hf
      exact fr
  · skip
    cases hf
    exact fr
end
section
abbrev md_X12_word : List Nat := []
theorem sm_X12_word_X12_is : ∀ c ∈ md_X12_is, c ∈ md_X12_word := by decide
theorem sm_X12_word_X12_nameWord : ∀ c ∈ md_X12_nameWord, c ∈ md_X12_word := by decide
variable {q : Int32 × zH}
theorem m_X12_word : ∀ (h0 : zH) {q : Int32 × zH}, f_X12_word h0 = some q → ∀ c, c ∉ md_X12_word → q.2 c = h0 c := by
  intro h q hf
  unfold f_X12_word at hf
  have fr : ∀ c, c ∉ md_X12_word → h c = h c := fun _ _ => rfl
  obtain ⟨r1, h2, er1, hf⟩ := zbd_some hf
  have fr : ∀ c, c ∉ md_X12_word → h2 c = h c := fun c hc9 => (m_X12_is _ _ er1 c (fun z => hc9 (sm_X12_word_X12_is c z))).trans (fr c hc9)
  rcases zif_c hf with ⟨hc, hf⟩ | ⟨hc, hf⟩
  · skip
    obtain ⟨r3, h4, er3, hf⟩ := zbd_some hf
    have fr : ∀ c, c ∉ md_X12_word → h4 c = h c := fun c hc9 => (m_X12_is _ _ er3 c (fun z => hc9 (sm_X12_word_X12_is c z))).trans (fr c hc9)
    rcases zif_c hf with ⟨hc, hf⟩ | ⟨hc, hf⟩
    · skip
      obtain ⟨r5, h6, er5, hf⟩ := zbd_some hf
      have fr : ∀ c, c ∉ md_X12_word → h6 c = h c := fun c hc9 => (m_X12_is _ _ er5 c (fun z => hc9 (sm_X12_word_X12_is c z))).trans (fr c hc9)
      rcases zif_c hf with ⟨hc, hf⟩ | ⟨hc, hf⟩
      · skip
        obtain ⟨r7, h8, er7, hf⟩ := zbd_some hf
        have fr : ∀ c, c ∉ md_X12_word → h8 c = h c := fun c hc9 => (m_X12_is _ _ er7 c (fun z => hc9 (sm_X12_word_X12_is c z))).trans (fr c hc9)
        rcases zif_c hf with ⟨hc, hf⟩ | ⟨hc, hf⟩
        · skip
          obtain ⟨r9, h10, er9, hf⟩ := zbd_some hf
          have fr : ∀ c, c ∉ md_X12_word → h10 c = h c := fun c hc9 => (m_X12_is _ _ er9 c (fun z => hc9 (sm_X12_word_X12_is c z))).trans (fr c hc9)
          rcases zif_c hf with ⟨hc, hf⟩ | ⟨hc, hf⟩
          · skip
            obtain ⟨r11, h12, er11, hf⟩ := zbd_some hf
            have fr : ∀ c, c ∉ md_X12_word → h12 c = h c := fun c hc9 => (m_X12_nameWord _ er11 c (fun z => hc9 (sm_X12_word_X12_nameWord c z))).trans (fr c hc9)
            cases hf
            exact fr
          · skip
            cases hf
            exact fr
        · skip
          cases hf
          exact fr
      · skip
        cases hf
        exact fr
    · skip
      cases hf
      exact fr
  · skip
    cases hf
    exact fr
end
section
abbrev md_X12_next0 : List Nat := [100]
theorem sm_X12_next0_X12_see : ∀ c ∈ md_X12_see, c ∈ md_X12_next0 := by decide
theorem sm_X12_next0_X12_isLetter : ∀ c ∈ md_X12_isLetter, c ∈ md_X12_next0 := by decide
theorem sm_X12_next0_X12_isDigit : ∀ c ∈ md_X12_isDigit, c ∈ md_X12_next0 := by decide
theorem sm_X12_next0_X12_word : ∀ c ∈ md_X12_word, c ∈ md_X12_next0 := by decide
variable {q : Int32 × zH}
theorem m_X12_next0_26 {k0 : zH → zR} (hk0 : ∀ (h0 : zH), k0 h0 = some q → ∀ c, c ∉ md_X12_next0 → q.2 c = h0 c) : ∀ (h0 : zH), f_X12_next0_26 k0 h0 = some q → ∀ c, c ∉ md_X12_next0 → q.2 c = h0 c := by
  intro h hf
  unfold f_X12_next0_26 at hf
  have fr : ∀ c, c ∉ md_X12_next0 → h c = h c := fun _ _ => rfl
  obtain ⟨h3, eh3, hf⟩ := zst_some hf
  have fr : ∀ c, c ∉ md_X12_next0 → h3 c = h c := fun c hc9 => (congrFun eh3 c).trans ((zup_ne c (fun z => hc9 (by rw [z]; decide))).trans (fr c hc9))
  exact fun c hc9 => (hk0 _ hf c hc9).trans (fr c hc9)
theorem m_X12_next0_303   : ∀ (h0 : zH) (s0 : Int32), f_X12_next0_303  s0 h0 = some q → ∀ c, c ∉ md_X12_next0 → q.2 c = h0 c := by
  intro h s0 hf
  unfold f_X12_next0_303 at hf
  have fr : ∀ c, c ∉ md_X12_next0 → h c = h c := fun _ _ => rfl
  obtain ⟨h14, eh14, hf⟩ := zst_some hf
  have fr : ∀ c, c ∉ md_X12_next0 → h14 c = h c := fun c hc9 => (congrFun eh14 c).trans ((zup_ne c (fun z => hc9 (by rw [z]; decide))).trans (fr c hc9))
  cases hf
  exact fr
theorem m_X12_next0_289   : ∀ (h0 : zH) (x1 : Int32) (s0 : Int32), f_X12_next0_289  x1 s0 h0 = some q → ∀ c, c ∉ md_X12_next0 → q.2 c = h0 c := by
  intro h x1 s0 hf
  unfold f_X12_next0_289 at hf
  have fr : ∀ c, c ∉ md_X12_next0 → h c = h c := fun _ _ => rfl
  rcases zif_c hf with ⟨hc, hf⟩ | ⟨hc, hf⟩
  · skip
    exact fun c hc9 => (m_X12_next0_303  _ _ hf c hc9).trans (fr c hc9)
  · skip
    exact fun c hc9 => (m_X12_next0_303  _ _ hf c hc9).trans (fr c hc9)
theorem m_X12_next0_284   : ∀ (h0 : zH) (x1 : Int32), f_X12_next0_284  x1 h0 = some q → ∀ c, c ∉ md_X12_next0 → q.2 c = h0 c := by
  intro h x1 hf
  unfold f_X12_next0_284 at hf
  have fr : ∀ c, c ∉ md_X12_next0 → h c = h c := fun _ _ => rfl
  exact fun c hc9 => (m_X12_next0_289  _ _ _ hf c hc9).trans (fr c hc9)
theorem m_X12_next0_208   : ∀ (h0 : zH) (s0 : Int32), f_X12_next0_208  s0 h0 = some q → ∀ c, c ∉ md_X12_next0 → q.2 c = h0 c := by
  intro h s0 hf
  unfold f_X12_next0_208 at hf
  have fr : ∀ c, c ∉ md_X12_next0 → h c = h c := fun _ _ => rfl
  obtain ⟨h20, eh20, hf⟩ := zst_some hf
  have fr : ∀ c, c ∉ md_X12_next0 → h20 c = h c := fun c hc9 => (congrFun eh20 c).trans ((zup_ne c (fun z => hc9 (by rw [z]; decide))).trans (fr c hc9))
  cases hf
  exact fr
theorem m_X12_next0_176 {k126 : zH → zR} (hk126 : ∀ (h0 : zH), k126 h0 = some q → ∀ c, c ∉ md_X12_next0 → q.2 c = h0 c) : ∀ (h0 : zH), f_X12_next0_176 k126 h0 = some q → ∀ c, c ∉ md_X12_next0 → q.2 c = h0 c := by
  intro h hf
  unfold f_X12_next0_176 at hf
  have fr : ∀ c, c ∉ md_X12_next0 → h c = h c := fun _ _ => rfl
  obtain ⟨h21, eh21, hf⟩ := zst_some hf
  have fr : ∀ c, c ∉ md_X12_next0 → h21 c = h c := fun c hc9 => (congrFun eh21 c).trans ((zup_ne c (fun z => hc9 (by rw [z]; decide))).trans (fr c hc9))
  exact fun c hc9 => (hk126 _ hf c hc9).trans (fr c hc9)
theorem m_X12_next0_126   : ∀ n, ∀ (h0 : zH), f_X12_next0_126  n h0 = some q → ∀ c, c ∉ md_X12_next0 → q.2 c = h0 c := by
  intro n
  induction n with
  | zero => intro h hf; cases hf
  | succ n ih =>
    intro h hf
    rw [f_X12_next0_126] at hf
    have fr : ∀ c, c ∉ md_X12_next0 → h c = h c := fun _ _ => rfl
    obtain ⟨r16, h17, er16, hf⟩ := zbd_some hf
    have fr : ∀ c, c ∉ md_X12_next0 → h17 c = h c := fun c hc9 => (m_X12_see _ _ er16 c (fun z => hc9 (sm_X12_next0_X12_see c z))).trans (fr c hc9)
    obtain ⟨r18, h19, er18, hf⟩ := zbd_some hf
    have fr : ∀ c, c ∉ md_X12_next0 → h19 c = h c := fun c hc9 => (m_X12_isDigit _ _ er18 c (fun z => hc9 (sm_X12_next0_X12_isDigit c z))).trans (fr c hc9)
    rcases zif_c hf with ⟨hc, hf⟩ | ⟨hc, hf⟩
    · skip
      rcases zif_c hf with ⟨hc, hf⟩ | ⟨hc, hf⟩
      · skip
        exact fun c hc9 => (m_X12_next0_208  _ _ hf c hc9).trans (fr c hc9)
      · skip
        exact fun c hc9 => (m_X12_next0_208  _ _ hf c hc9).trans (fr c hc9)
    · skip
      rcases zif_c hf with ⟨hc, hf⟩ | ⟨hc, hf⟩
      · skip
        exact fun c hc9 => (m_X12_next0_176 ih _ hf c hc9).trans (fr c hc9)
      · skip
        obtain ⟨r22, h23, er22, hf⟩ := zbd_some hf
        have fr : ∀ c, c ∉ md_X12_next0 → h23 c = h c := fun c hc9 => (m_X12_see _ _ er22 c (fun z => hc9 (sm_X12_next0_X12_see c z))).trans (fr c hc9)
        obtain ⟨h24, eh24, hf⟩ := zst_some hf
        have fr : ∀ c, c ∉ md_X12_next0 → h24 c = h c := fun c hc9 => (congrFun eh24 c).trans ((zup_ne c (fun z => hc9 (by rw [z]; decide))).trans (fr c hc9))
        exact fun c hc9 => (m_X12_next0_176 ih _ hf c hc9).trans (fr c hc9)
theorem m_X12_next0_76   : ∀ n, ∀ (h0 : zH), f_X12_next0_76  n h0 = some q → ∀ c, c ∉ md_X12_next0 → q.2 c = h0 c := by
  intro n
  induction n with
  | zero => intro h hf; cases hf
  | succ n ih =>
    intro h hf
    rw [f_X12_next0_76] at hf
    have fr : ∀ c, c ∉ md_X12_next0 → h c = h c := fun _ _ => rfl
    obtain ⟨r25, h26, er25, hf⟩ := zbd_some hf
    have fr : ∀ c, c ∉ md_X12_next0 → h26 c = h c := fun c hc9 => (m_X12_see _ _ er25 c (fun z => hc9 (sm_X12_next0_X12_see c z))).trans (fr c hc9)
    obtain ⟨r27, h28, er27, hf⟩ := zbd_some hf
    have fr : ∀ c, c ∉ md_X12_next0 → h28 c = h c := fun c hc9 => (m_X12_isLetter _ _ er27 c (fun z => hc9 (sm_X12_next0_X12_isLetter c z))).trans (fr c hc9)
    rcases zif_c hf with ⟨hc, hf⟩ | ⟨hc, hf⟩
    · skip
      obtain ⟨r29, h30, er29, hf⟩ := zbd_some hf
      have fr : ∀ c, c ∉ md_X12_next0 → h30 c = h c := fun c hc9 => (m_X12_word _ er29 c (fun z => hc9 (sm_X12_next0_X12_word c z))).trans (fr c hc9)
      obtain ⟨h31, eh31, hf⟩ := zst_some hf
      have fr : ∀ c, c ∉ md_X12_next0 → h31 c = h c := fun c hc9 => (congrFun eh31 c).trans ((zup_ne c (fun z => hc9 (by rw [z]; decide))).trans (fr c hc9))
      cases hf
      exact fr
    · skip
      obtain ⟨h32, eh32, hf⟩ := zst_some hf
      have fr : ∀ c, c ∉ md_X12_next0 → h32 c = h c := fun c hc9 => (congrFun eh32 c).trans ((zup_ne c (fun z => hc9 (by rw [z]; decide))).trans (fr c hc9))
      exact fun c hc9 => (ih _ hf c hc9).trans (fr c hc9)
theorem m_X12_next0_0   : ∀ n, ∀ (h0 : zH), f_X12_next0_0  n h0 = some q → ∀ c, c ∉ md_X12_next0 → q.2 c = h0 c := by
  intro n
  induction n with
  | zero => intro h hf; cases hf
  | succ n ih =>
    intro h hf
    rw [f_X12_next0_0] at hf
    have fr : ∀ c, c ∉ md_X12_next0 → h c = h c := fun _ _ => rfl
    obtain ⟨r1, h2, er1, hf⟩ := zbd_some hf
    have fr : ∀ c, c ∉ md_X12_next0 → h2 c = h c := fun c hc9 => (m_X12_see _ _ er1 c (fun z => hc9 (sm_X12_next0_X12_see c z))).trans (fr c hc9)
    rcases zif_c hf with ⟨hc, hf⟩ | ⟨hc, hf⟩
    · skip
      exact fun c hc9 => (m_X12_next0_26 ih _ hf c hc9).trans (fr c hc9)
    · skip
      obtain ⟨r4, h5, er4, hf⟩ := zbd_some hf
      have fr : ∀ c, c ∉ md_X12_next0 → h5 c = h c := fun c hc9 => (m_X12_see _ _ er4 c (fun z => hc9 (sm_X12_next0_X12_see c z))).trans (fr c hc9)
      rcases zif_n hf with ⟨hc, hf⟩ | ⟨hc, hf⟩
      · skip
        obtain ⟨h6, eh6, hf⟩ := zst_some hf
        have fr : ∀ c, c ∉ md_X12_next0 → h6 c = h c := fun c hc9 => (congrFun eh6 c).trans ((zup_ne c (fun z => hc9 (by rw [z]; decide))).trans (fr c hc9))
        obtain ⟨r7, h8, er7, hf⟩ := zbd_some hf
        have fr : ∀ c, c ∉ md_X12_next0 → h8 c = h c := fun c hc9 => (m_X12_see _ _ er7 c (fun z => hc9 (sm_X12_next0_X12_see c z))).trans (fr c hc9)
        rcases zif_n hf with ⟨hc, hf⟩ | ⟨hc, hf⟩
        · skip
          obtain ⟨r9, h10, er9, hf⟩ := zbd_some hf
          have fr : ∀ c, c ∉ md_X12_next0 → h10 c = h c := fun c hc9 => (m_X12_isLetter _ _ er9 c (fun z => hc9 (sm_X12_next0_X12_isLetter c z))).trans (fr c hc9)
          rcases zif_c hf with ⟨hc, hf⟩ | ⟨hc, hf⟩
          · skip
            obtain ⟨r11, h12, er11, hf⟩ := zbd_some hf
            have fr : ∀ c, c ∉ md_X12_next0 → h12 c = h c := fun c hc9 => (m_X12_isDigit _ _ er11 c (fun z => hc9 (sm_X12_next0_X12_isDigit c z))).trans (fr c hc9)
            rcases zif_c hf with ⟨hc, hf⟩ | ⟨hc, hf⟩
            · skip
              obtain ⟨h13, eh13, hf⟩ := zst_some hf
              have fr : ∀ c, c ∉ md_X12_next0 → h13 c = h c := fun c hc9 => (congrFun eh13 c).trans ((zup_ne c (fun z => hc9 (by rw [z]; decide))).trans (fr c hc9))
              rcases zif_c hf with ⟨hc, hf⟩ | ⟨hc, hf⟩
              · skip
                exact fun c hc9 => (m_X12_next0_284  _ _ hf c hc9).trans (fr c hc9)
              · skip
                rcases zif_c hf with ⟨hc, hf⟩ | ⟨hc, hf⟩
                · skip
                  exact fun c hc9 => (m_X12_next0_284  _ _ hf c hc9).trans (fr c hc9)
                · skip
                  rcases zif_c hf with ⟨hc, hf⟩ | ⟨hc, hf⟩
                  · skip
                    exact fun c hc9 => (m_X12_next0_284  _ _ hf c hc9).trans (fr c hc9)
                  · skip
                    rcases zif_c hf with ⟨hc, hf⟩ | ⟨hc, hf⟩
                    · skip
                      exact fun c hc9 => (m_X12_next0_284  _ _ hf c hc9).trans (fr c hc9)
                    · skip
                      rcases zif_c hf with ⟨hc, hf⟩ | ⟨hc, hf⟩
                      · skip
                        exact fun c hc9 => (m_X12_next0_284  _ _ hf c hc9).trans (fr c hc9)
                      · skip
                        rcases zif_c hf with ⟨hc, hf⟩ | ⟨hc, hf⟩
                        · skip
                          exact fun c hc9 => (m_X12_next0_284  _ _ hf c hc9).trans (fr c hc9)
                        · skip
                          rcases zif_c hf with ⟨hc, hf⟩ | ⟨hc, hf⟩
                          · skip
                            exact fun c hc9 => (m_X12_next0_284  _ _ hf c hc9).trans (fr c hc9)
                          · skip
                            rcases zif_c hf with ⟨hc, hf⟩ | ⟨hc, hf⟩
                            · skip
                              exact fun c hc9 => (m_X12_next0_284  _ _ hf c hc9).trans (fr c hc9)
                            · skip
                              rcases zif_c hf with ⟨hc, hf⟩ | ⟨hc, hf⟩
                              · skip
                                exact fun c hc9 => (m_X12_next0_284  _ _ hf c hc9).trans (fr c hc9)
                              · skip
                                rcases zif_n hf with ⟨hc, hf⟩ | ⟨hc, hf⟩
                                · skip
                                  exact fun c hc9 => (m_X12_next0_289  _ _ _ hf c hc9).trans (fr c hc9)
                                · skip
                                  exact fun c hc9 => (m_X12_next0_284  _ _ hf c hc9).trans (fr c hc9)
            · skip
              obtain ⟨h15, eh15, hf⟩ := zst_some hf
              have fr : ∀ c, c ∉ md_X12_next0 → h15 c = h c := fun c hc9 => (congrFun eh15 c).trans ((zup_ne c (fun z => hc9 (by rw [z]; decide))).trans (fr c hc9))
              exact fun c hc9 => (m_X12_next0_126  zN _ hf c hc9).trans (fr c hc9)
          · skip
            exact fun c hc9 => (m_X12_next0_76  zN _ hf c hc9).trans (fr c hc9)
        · skip
          obtain ⟨h33, eh33, hf⟩ := zst_some hf
          have fr : ∀ c, c ∉ md_X12_next0 → h33 c = h c := fun c hc9 => (congrFun eh33 c).trans ((zup_ne c (fun z => hc9 (by rw [z]; decide))).trans (fr c hc9))
          cases hf
          exact fr
      · skip
        exact fun c hc9 => (m_X12_next0_26 ih _ hf c hc9).trans (fr c hc9)
theorem m_X12_next0 : ∀ (h0 : zH) {q : Int32 × zH}, f_X12_next0 h0 = some q → ∀ c, c ∉ md_X12_next0 → q.2 c = h0 c := by
  intro h q hf
  unfold f_X12_next0 at hf
  have fr : ∀ c, c ∉ md_X12_next0 → h c = h c := fun _ _ => rfl
  exact fun c hc9 => (m_X12_next0_0  zN _ hf c hc9).trans (fr c hc9)
end
section
abbrev md_X12_lay : List Nat := [100, 106]
variable {q : Int32 × zH}
theorem m_X12_lay : ∀ (h0 : zH) (x1 : Int32) (x2 : Int32) {q : Int32 × zH}, f_X12_lay x1 x2 h0 = some q → ∀ c, c ∉ md_X12_lay → q.2 c = h0 c := by
  intro h x1 x2 q hf
  unfold f_X12_lay at hf
  have fr : ∀ c, c ∉ md_X12_lay → h c = h c := fun _ _ => rfl
  obtain ⟨hi, hf⟩ := zck_some hf
  obtain ⟨h1, eh1, hf⟩ := zst_some hf
  have fr : ∀ c, c ∉ md_X12_lay → h1 c = h c := fun c hc9 => (congrFun eh1 c).trans ((zup_ne c (fun z => hc9 (by rw [z]; decide))).trans (fr c hc9))
  obtain ⟨hi, hf⟩ := zck_some hf
  obtain ⟨h2, eh2, hf⟩ := zst_some hf
  have fr : ∀ c, c ∉ md_X12_lay → h2 c = h c := fun c hc9 => (congrFun eh2 c).trans ((zup_ne c (fun z => hc9 (by rw [z]; decide))).trans (fr c hc9))
  obtain ⟨h3, eh3, hf⟩ := zst_some hf
  have fr : ∀ c, c ∉ md_X12_lay → h3 c = h c := fun c hc9 => (congrFun eh3 c).trans ((zup_ne c (fun z => hc9 (by rw [z]; decide))).trans (fr c hc9))
  cases hf
  exact fr
end
section
abbrev md_X12_bad : List Nat := [100]
variable {q : Int32 × zH}
theorem m_X12_bad : ∀ (h0 : zH) (x1 : Int32) {q : Int32 × zH}, f_X12_bad x1 h0 = some q → ∀ c, c ∉ md_X12_bad → q.2 c = h0 c := by
  intro h x1 q hf
  unfold f_X12_bad at hf
  have fr : ∀ c, c ∉ md_X12_bad → h c = h c := fun _ _ => rfl
  obtain ⟨h1, eh1, hf⟩ := zst_some hf
  have fr : ∀ c, c ∉ md_X12_bad → h1 c = h c := fun c hc9 => (congrFun eh1 c).trans ((zup_ne c (fun z => hc9 (by rw [z]; decide))).trans (fr c hc9))
  obtain ⟨h2, eh2, hf⟩ := zst_some hf
  have fr : ∀ c, c ∉ md_X12_bad → h2 c = h c := fun c hc9 => (congrFun eh2 c).trans ((zup_ne c (fun z => hc9 (by rw [z]; decide))).trans (fr c hc9))
  cases hf
  exact fr
end
section
abbrev md_X12_unit : List Nat := [100, 106]
theorem sm_X12_unit_X12_isIn : ∀ c ∈ md_X12_isIn, c ∈ md_X12_unit := by decide
theorem sm_X12_unit_X12_lay : ∀ c ∈ md_X12_lay, c ∈ md_X12_unit := by decide
theorem sm_X12_unit_X12_next0 : ∀ c ∈ md_X12_next0, c ∈ md_X12_unit := by decide
theorem sm_X12_unit_X12_bad : ∀ c ∈ md_X12_bad, c ∈ md_X12_unit := by decide
variable {q : Int32 × zH}
theorem m_X12_unit_46   : ∀ (h0 : zH) (s0 : Int32), f_X12_unit_46  s0 h0 = some q → ∀ c, c ∉ md_X12_unit → q.2 c = h0 c := by
  intro h s0 hf
  unfold f_X12_unit_46 at hf
  have fr : ∀ c, c ∉ md_X12_unit → h c = h c := fun _ _ => rfl
  obtain ⟨r3, h4, er3, hf⟩ := zbd_some hf
  have fr : ∀ c, c ∉ md_X12_unit → h4 c = h c := fun c hc9 => (m_X12_lay _ _ _ er3 c (fun z => hc9 (sm_X12_unit_X12_lay c z))).trans (fr c hc9)
  obtain ⟨r5, h6, er5, hf⟩ := zbd_some hf
  have fr : ∀ c, c ∉ md_X12_unit → h6 c = h c := fun c hc9 => (m_X12_next0 _ er5 c (fun z => hc9 (sm_X12_unit_X12_next0 c z))).trans (fr c hc9)
  cases hf
  exact fr
theorem m_X12_unit_30   : ∀ (h0 : zH) (x1 : Int32), f_X12_unit_30  x1 h0 = some q → ∀ c, c ∉ md_X12_unit → q.2 c = h0 c := by
  intro h x1 hf
  unfold f_X12_unit_30 at hf
  have fr : ∀ c, c ∉ md_X12_unit → h c = h c := fun _ _ => rfl
  rcases zif_c hf with ⟨hc, hf⟩ | ⟨hc, hf⟩
  · skip
    exact fun c hc9 => (m_X12_unit_46  _ _ hf c hc9).trans (fr c hc9)
  · skip
    exact fun c hc9 => (m_X12_unit_46  _ _ hf c hc9).trans (fr c hc9)
theorem m_X12_unit : ∀ (h0 : zH) {q : Int32 × zH}, f_X12_unit h0 = some q → ∀ c, c ∉ md_X12_unit → q.2 c = h0 c := by
  intro h q hf
  unfold f_X12_unit at hf
  have fr : ∀ c, c ∉ md_X12_unit → h c = h c := fun _ _ => rfl
  obtain ⟨r1, h2, er1, hf⟩ := zbd_some hf
  have fr : ∀ c, c ∉ md_X12_unit → h2 c = h c := fun c hc9 => (m_X12_isIn _ _ _ _ er1 c (fun z => hc9 (sm_X12_unit_X12_isIn c z))).trans (fr c hc9)
  rcases zif_c hf with ⟨hc, hf⟩ | ⟨hc, hf⟩
  · skip
    exact fun c hc9 => (m_X12_unit_30  _ _ hf c hc9).trans (fr c hc9)
  · skip
    rcases zif_n hf with ⟨hc, hf⟩ | ⟨hc, hf⟩
    · skip
      exact fun c hc9 => (m_X12_unit_30  _ _ hf c hc9).trans (fr c hc9)
    · skip
      obtain ⟨r7, h8, er7, hf⟩ := zbd_some hf
      have fr : ∀ c, c ∉ md_X12_unit → h8 c = h c := fun c hc9 => (m_X12_bad _ _ er7 c (fun z => hc9 (sm_X12_unit_X12_bad c z))).trans (fr c hc9)
      obtain ⟨hb, hf⟩ := zbo_some hf
      cases hf
      exact fr
end
section
abbrev md_X12_product : List Nat := [100, 106]
theorem sm_X12_product_X12_unit : ∀ c ∈ md_X12_unit, c ∈ md_X12_product := by decide
theorem sm_X12_product_X12_next0 : ∀ c ∈ md_X12_next0, c ∈ md_X12_product := by decide
theorem sm_X12_product_X12_lay : ∀ c ∈ md_X12_lay, c ∈ md_X12_product := by decide
theorem sm_X12_product_X12_bad : ∀ c ∈ md_X12_bad, c ∈ md_X12_product := by decide
variable {q : Int32 × zH}
theorem m_X12_product_112 {k9 : zH → zR} (hk9 : ∀ (h0 : zH), k9 h0 = some q → ∀ c, c ∉ md_X12_product → q.2 c = h0 c) : ∀ (h0 : zH), f_X12_product_112 k9 h0 = some q → ∀ c, c ∉ md_X12_product → q.2 c = h0 c := by
  intro h hf
  unfold f_X12_product_112 at hf
  have fr : ∀ c, c ∉ md_X12_product → h c = h c := fun _ _ => rfl
  exact fun c hc9 => (hk9 _ hf c hc9).trans (fr c hc9)
theorem m_X12_product_44 {k9 : zH → zR} (hk9 : ∀ (h0 : zH), k9 h0 = some q → ∀ c, c ∉ md_X12_product → q.2 c = h0 c) : ∀ (h0 : zH) (s0 : Int32), f_X12_product_44 k9 s0 h0 = some q → ∀ c, c ∉ md_X12_product → q.2 c = h0 c := by
  intro h s0 hf
  unfold f_X12_product_44 at hf
  have fr : ∀ c, c ∉ md_X12_product → h c = h c := fun _ _ => rfl
  obtain ⟨r3, h4, er3, hf⟩ := zbd_some hf
  have fr : ∀ c, c ∉ md_X12_product → h4 c = h c := fun c hc9 => (m_X12_next0 _ er3 c (fun z => hc9 (sm_X12_product_X12_next0 c z))).trans (fr c hc9)
  rcases zif_c hf with ⟨hc, hf⟩ | ⟨hc, hf⟩
  · skip
    obtain ⟨r5, h6, er5, hf⟩ := zbd_some hf
    have fr : ∀ c, c ∉ md_X12_product → h6 c = h c := fun c hc9 => (m_X12_unit _ er5 c (fun z => hc9 (sm_X12_product_X12_unit c z))).trans (fr c hc9)
    rcases zif_n hf with ⟨hc, hf⟩ | ⟨hc, hf⟩
    · skip
      obtain ⟨r7, h8, er7, hf⟩ := zbd_some hf
      have fr : ∀ c, c ∉ md_X12_product → h8 c = h c := fun c hc9 => (m_X12_lay _ _ _ er7 c (fun z => hc9 (sm_X12_product_X12_lay c z))).trans (fr c hc9)
      exact fun c hc9 => (m_X12_product_112 hk9 _ hf c hc9).trans (fr c hc9)
    · skip
      cases hf
      exact fr
  · skip
    obtain ⟨y9, ey9, hf⟩ := zlt_some hf
    rcases zif_c hf with ⟨hc, hf⟩ | ⟨hc, hf⟩
    · skip
      rcases zif_n hf with ⟨hc, hf⟩ | ⟨hc, hf⟩
      · skip
        obtain ⟨r10, h11, er10, hf⟩ := zbd_some hf
        have fr : ∀ c, c ∉ md_X12_product → h11 c = h c := fun c hc9 => (m_X12_next0 _ er10 c (fun z => hc9 (sm_X12_product_X12_next0 c z))).trans (fr c hc9)
        obtain ⟨r12, h13, er12, hf⟩ := zbd_some hf
        have fr : ∀ c, c ∉ md_X12_product → h13 c = h c := fun c hc9 => (m_X12_lay _ _ _ er12 c (fun z => hc9 (sm_X12_product_X12_lay c z))).trans (fr c hc9)
        exact fun c hc9 => (m_X12_product_112 hk9 _ hf c hc9).trans (fr c hc9)
      · skip
        obtain ⟨r14, h15, er14, hf⟩ := zbd_some hf
        have fr : ∀ c, c ∉ md_X12_product → h15 c = h c := fun c hc9 => (m_X12_bad _ _ er14 c (fun z => hc9 (sm_X12_product_X12_bad c z))).trans (fr c hc9)
        obtain ⟨hb, hf⟩ := zbo_some hf
        cases hf
        exact fr
    · skip
      obtain ⟨r16, h17, er16, hf⟩ := zbd_some hf
      have fr : ∀ c, c ∉ md_X12_product → h17 c = h c := fun c hc9 => (m_X12_bad _ _ er16 c (fun z => hc9 (sm_X12_product_X12_bad c z))).trans (fr c hc9)
      obtain ⟨hb, hf⟩ := zbo_some hf
      cases hf
      exact fr
theorem m_X12_product_29 {k9 : zH → zR} (hk9 : ∀ (h0 : zH), k9 h0 = some q → ∀ c, c ∉ md_X12_product → q.2 c = h0 c) : ∀ (h0 : zH), f_X12_product_29 k9 h0 = some q → ∀ c, c ∉ md_X12_product → q.2 c = h0 c := by
  intro h hf
  unfold f_X12_product_29 at hf
  have fr : ∀ c, c ∉ md_X12_product → h c = h c := fun _ _ => rfl
  rcases zif_n hf with ⟨hc, hf⟩ | ⟨hc, hf⟩
  · skip
    exact fun c hc9 => (m_X12_product_44 hk9 _ _ hf c hc9).trans (fr c hc9)
  · skip
    exact fun c hc9 => (m_X12_product_44 hk9 _ _ hf c hc9).trans (fr c hc9)
theorem m_X12_product_9   : ∀ n, ∀ (h0 : zH), f_X12_product_9  n h0 = some q → ∀ c, c ∉ md_X12_product → q.2 c = h0 c := by
  intro n
  induction n with
  | zero => intro h hf; cases hf
  | succ n ih =>
    intro h hf
    rw [f_X12_product_9] at hf
    have fr : ∀ c, c ∉ md_X12_product → h c = h c := fun _ _ => rfl
    rcases zif_c hf with ⟨hc, hf⟩ | ⟨hc, hf⟩
    · skip
      exact fun c hc9 => (m_X12_product_29 ih _ hf c hc9).trans (fr c hc9)
    · skip
      rcases zif_n hf with ⟨hc, hf⟩ | ⟨hc, hf⟩
      · skip
        cases hf
        exact fr
      · skip
        exact fun c hc9 => (m_X12_product_29 ih _ hf c hc9).trans (fr c hc9)
theorem m_X12_product : ∀ (h0 : zH) {q : Int32 × zH}, f_X12_product h0 = some q → ∀ c, c ∉ md_X12_product → q.2 c = h0 c := by
  intro h q hf
  unfold f_X12_product at hf
  have fr : ∀ c, c ∉ md_X12_product → h c = h c := fun _ _ => rfl
  obtain ⟨r1, h2, er1, hf⟩ := zbd_some hf
  have fr : ∀ c, c ∉ md_X12_product → h2 c = h c := fun c hc9 => (m_X12_unit _ er1 c (fun z => hc9 (sm_X12_product_X12_unit c z))).trans (fr c hc9)
  rcases zif_n hf with ⟨hc, hf⟩ | ⟨hc, hf⟩
  · skip
    exact fun c hc9 => (m_X12_product_9  zN _ hf c hc9).trans (fr c hc9)
  · skip
    cases hf
    exact fr
end
section
abbrev md_X12_sumUp : List Nat := [100, 106]
theorem sm_X12_sumUp_X12_product : ∀ c ∈ md_X12_product, c ∈ md_X12_sumUp := by decide
theorem sm_X12_sumUp_X12_next0 : ∀ c ∈ md_X12_next0, c ∈ md_X12_sumUp := by decide
theorem sm_X12_sumUp_X12_lay : ∀ c ∈ md_X12_lay, c ∈ md_X12_sumUp := by decide
variable {q : Int32 × zH}
theorem m_X12_sumUp_46 {k9 : zH → zR} (hk9 : ∀ (h0 : zH), k9 h0 = some q → ∀ c, c ∉ md_X12_sumUp → q.2 c = h0 c) : ∀ (h0 : zH) (s0 : Int32), f_X12_sumUp_46 k9 s0 h0 = some q → ∀ c, c ∉ md_X12_sumUp → q.2 c = h0 c := by
  intro h s0 hf
  unfold f_X12_sumUp_46 at hf
  have fr : ∀ c, c ∉ md_X12_sumUp → h c = h c := fun _ _ => rfl
  obtain ⟨r3, h4, er3, hf⟩ := zbd_some hf
  have fr : ∀ c, c ∉ md_X12_sumUp → h4 c = h c := fun c hc9 => (m_X12_next0 _ er3 c (fun z => hc9 (sm_X12_sumUp_X12_next0 c z))).trans (fr c hc9)
  obtain ⟨r5, h6, er5, hf⟩ := zbd_some hf
  have fr : ∀ c, c ∉ md_X12_sumUp → h6 c = h c := fun c hc9 => (m_X12_product _ er5 c (fun z => hc9 (sm_X12_sumUp_X12_product c z))).trans (fr c hc9)
  rcases zif_n hf with ⟨hc, hf⟩ | ⟨hc, hf⟩
  · skip
    obtain ⟨r7, h8, er7, hf⟩ := zbd_some hf
    have fr : ∀ c, c ∉ md_X12_sumUp → h8 c = h c := fun c hc9 => (m_X12_lay _ _ _ er7 c (fun z => hc9 (sm_X12_sumUp_X12_lay c z))).trans (fr c hc9)
    exact fun c hc9 => (hk9 _ hf c hc9).trans (fr c hc9)
  · skip
    cases hf
    exact fr
theorem m_X12_sumUp_29 {k9 : zH → zR} (hk9 : ∀ (h0 : zH), k9 h0 = some q → ∀ c, c ∉ md_X12_sumUp → q.2 c = h0 c) : ∀ (h0 : zH), f_X12_sumUp_29 k9 h0 = some q → ∀ c, c ∉ md_X12_sumUp → q.2 c = h0 c := by
  intro h hf
  unfold f_X12_sumUp_29 at hf
  have fr : ∀ c, c ∉ md_X12_sumUp → h c = h c := fun _ _ => rfl
  rcases zif_n hf with ⟨hc, hf⟩ | ⟨hc, hf⟩
  · skip
    exact fun c hc9 => (m_X12_sumUp_46 hk9 _ _ hf c hc9).trans (fr c hc9)
  · skip
    exact fun c hc9 => (m_X12_sumUp_46 hk9 _ _ hf c hc9).trans (fr c hc9)
theorem m_X12_sumUp_9   : ∀ n, ∀ (h0 : zH), f_X12_sumUp_9  n h0 = some q → ∀ c, c ∉ md_X12_sumUp → q.2 c = h0 c := by
  intro n
  induction n with
  | zero => intro h hf; cases hf
  | succ n ih =>
    intro h hf
    rw [f_X12_sumUp_9] at hf
    have fr : ∀ c, c ∉ md_X12_sumUp → h c = h c := fun _ _ => rfl
    rcases zif_c hf with ⟨hc, hf⟩ | ⟨hc, hf⟩
    · skip
      exact fun c hc9 => (m_X12_sumUp_29 ih _ hf c hc9).trans (fr c hc9)
    · skip
      rcases zif_n hf with ⟨hc, hf⟩ | ⟨hc, hf⟩
      · skip
        cases hf
        exact fr
      · skip
        exact fun c hc9 => (m_X12_sumUp_29 ih _ hf c hc9).trans (fr c hc9)
theorem m_X12_sumUp : ∀ (h0 : zH) {q : Int32 × zH}, f_X12_sumUp h0 = some q → ∀ c, c ∉ md_X12_sumUp → q.2 c = h0 c := by
  intro h q hf
  unfold f_X12_sumUp at hf
  have fr : ∀ c, c ∉ md_X12_sumUp → h c = h c := fun _ _ => rfl
  obtain ⟨r1, h2, er1, hf⟩ := zbd_some hf
  have fr : ∀ c, c ∉ md_X12_sumUp → h2 c = h c := fun c hc9 => (m_X12_product _ er1 c (fun z => hc9 (sm_X12_sumUp_X12_product c z))).trans (fr c hc9)
  rcases zif_n hf with ⟨hc, hf⟩ | ⟨hc, hf⟩
  · skip
    exact fun c hc9 => (m_X12_sumUp_9  zN _ hf c hc9).trans (fr c hc9)
  · skip
    cases hf
    exact fr
end
section
abbrev md_X12_need : List Nat := [100]
theorem sm_X12_need_X12_next0 : ∀ c ∈ md_X12_next0, c ∈ md_X12_need := by decide
theorem sm_X12_need_X12_bad : ∀ c ∈ md_X12_bad, c ∈ md_X12_need := by decide
variable {q : Int32 × zH}
theorem m_X12_need : ∀ (h0 : zH) (x1 : Int32) {q : Int32 × zH}, f_X12_need x1 h0 = some q → ∀ c, c ∉ md_X12_need → q.2 c = h0 c := by
  intro h x1 q hf
  unfold f_X12_need at hf
  have fr : ∀ c, c ∉ md_X12_need → h c = h c := fun _ _ => rfl
  rcases zif_c hf with ⟨hc, hf⟩ | ⟨hc, hf⟩
  · skip
    obtain ⟨r1, h2, er1, hf⟩ := zbd_some hf
    have fr : ∀ c, c ∉ md_X12_need → h2 c = h c := fun c hc9 => (m_X12_next0 _ er1 c (fun z => hc9 (sm_X12_need_X12_next0 c z))).trans (fr c hc9)
    cases hf
    exact fr
  · skip
    obtain ⟨r3, h4, er3, hf⟩ := zbd_some hf
    have fr : ∀ c, c ∉ md_X12_need → h4 c = h c := fun c hc9 => (m_X12_bad _ _ er3 c (fun z => hc9 (sm_X12_need_X12_bad c z))).trans (fr c hc9)
    obtain ⟨hb, hf⟩ := zbo_some hf
    cases hf
    exact fr
end
section
abbrev md_X12_oneTest : List Nat := [100, 106]
theorem sm_X12_oneTest_X12_next0 : ∀ c ∈ md_X12_next0, c ∈ md_X12_oneTest := by decide
theorem sm_X12_oneTest_X12_lay : ∀ c ∈ md_X12_lay, c ∈ md_X12_oneTest := by decide
theorem sm_X12_oneTest_X12_oneTest : ∀ c ∈ md_X12_oneTest, c ∈ md_X12_oneTest := fun _ h => h
variable {q : Int32 × zH}
theorem m_X12_every_9  {F : zH → zR} (hF : ∀ (h : zH) (q : Int32 × zH), F  h = some q → ∀ c, c ∉ md_X12_oneTest → q.2 c = h c)  : ∀ n, ∀ (h0 : zH), f_X12_every_9 F  n h0 = some q → ∀ c, c ∉ md_X12_oneTest → q.2 c = h0 c := by
  intro n
  induction n with
  | zero => intro h hf; cases hf
  | succ n ih =>
    intro h hf
    rw [f_X12_every_9] at hf
    have fr : ∀ c, c ∉ md_X12_oneTest → h c = h c := fun _ _ => rfl
    rcases zif_n hf with ⟨hc, hf⟩ | ⟨hc, hf⟩
    · skip
      cases hf
      exact fr
    · skip
      obtain ⟨r3, h4, er3, hf⟩ := zbd_some hf
      have fr : ∀ c, c ∉ md_X12_oneTest → h4 c = h c := fun c hc9 => (m_X12_next0 _ er3 c (fun z => hc9 (sm_X12_oneTest_X12_next0 c z))).trans (fr c hc9)
      obtain ⟨r5, h6, er5, hf⟩ := zbd_some hf
      have fr : ∀ c, c ∉ md_X12_oneTest → h6 c = h c := fun c hc9 => (hF _  (r5, h6) er5 c hc9).trans (fr c hc9)
      rcases zif_n hf with ⟨hc, hf⟩ | ⟨hc, hf⟩
      · skip
        obtain ⟨r7, h8, er7, hf⟩ := zbd_some hf
        have fr : ∀ c, c ∉ md_X12_oneTest → h8 c = h c := fun c hc9 => (m_X12_lay _ _ _ er7 c (fun z => hc9 (sm_X12_oneTest_X12_lay c z))).trans (fr c hc9)
        exact fun c hc9 => (ih _ hf c hc9).trans (fr c hc9)
      · skip
        cases hf
        exact fr
theorem m_X12_every {F : zH → zR} (hF : ∀ (h : zH) (q : Int32 × zH), F  h = some q → ∀ c, c ∉ md_X12_oneTest → q.2 c = h c) : ∀ (h0 : zH) {q : Int32 × zH}, f_X12_every F h0 = some q → ∀ c, c ∉ md_X12_oneTest → q.2 c = h0 c := by
  intro h q hf
  unfold f_X12_every at hf
  have fr : ∀ c, c ∉ md_X12_oneTest → h c = h c := fun _ _ => rfl
  obtain ⟨r1, h2, er1, hf⟩ := zbd_some hf
  have fr : ∀ c, c ∉ md_X12_oneTest → h2 c = h c := fun c hc9 => (hF _  (r1, h2) er1 c hc9).trans (fr c hc9)
  rcases zif_n hf with ⟨hc, hf⟩ | ⟨hc, hf⟩
  · skip
    exact fun c hc9 => (m_X12_every_9 hF  zN _ hf c hc9).trans (fr c hc9)
  · skip
    cases hf
    exact fr
end
section
variable {q : Int32 × zH}
theorem m_X12_any_9  {F : zH → zR} (hF : ∀ (h : zH) (q : Int32 × zH), F  h = some q → ∀ c, c ∉ md_X12_oneTest → q.2 c = h c)  : ∀ n, ∀ (h0 : zH), f_X12_any_9 F  n h0 = some q → ∀ c, c ∉ md_X12_oneTest → q.2 c = h0 c := by
  intro n
  induction n with
  | zero => intro h hf; cases hf
  | succ n ih =>
    intro h hf
    rw [f_X12_any_9] at hf
    have fr : ∀ c, c ∉ md_X12_oneTest → h c = h c := fun _ _ => rfl
    rcases zif_n hf with ⟨hc, hf⟩ | ⟨hc, hf⟩
    · skip
      cases hf
      exact fr
    · skip
      obtain ⟨r3, h4, er3, hf⟩ := zbd_some hf
      have fr : ∀ c, c ∉ md_X12_oneTest → h4 c = h c := fun c hc9 => (m_X12_next0 _ er3 c (fun z => hc9 (sm_X12_oneTest_X12_next0 c z))).trans (fr c hc9)
      obtain ⟨r5, h6, er5, hf⟩ := zbd_some hf
      have fr : ∀ c, c ∉ md_X12_oneTest → h6 c = h c := fun c hc9 => (m_X12_every hF _ er5 c (fun z => hc9 (sm_X12_oneTest_X12_oneTest c z))).trans (fr c hc9)
      rcases zif_n hf with ⟨hc, hf⟩ | ⟨hc, hf⟩
      · skip
        obtain ⟨r7, h8, er7, hf⟩ := zbd_some hf
        have fr : ∀ c, c ∉ md_X12_oneTest → h8 c = h c := fun c hc9 => (m_X12_lay _ _ _ er7 c (fun z => hc9 (sm_X12_oneTest_X12_lay c z))).trans (fr c hc9)
        exact fun c hc9 => (ih _ hf c hc9).trans (fr c hc9)
      · skip
        cases hf
        exact fr
theorem m_X12_any {F : zH → zR} (hF : ∀ (h : zH) (q : Int32 × zH), F  h = some q → ∀ c, c ∉ md_X12_oneTest → q.2 c = h c) : ∀ (h0 : zH) {q : Int32 × zH}, f_X12_any F h0 = some q → ∀ c, c ∉ md_X12_oneTest → q.2 c = h0 c := by
  intro h q hf
  unfold f_X12_any at hf
  have fr : ∀ c, c ∉ md_X12_oneTest → h c = h c := fun _ _ => rfl
  obtain ⟨r1, h2, er1, hf⟩ := zbd_some hf
  have fr : ∀ c, c ∉ md_X12_oneTest → h2 c = h c := fun c hc9 => (m_X12_every hF _ er1 c (fun z => hc9 (sm_X12_oneTest_X12_oneTest c z))).trans (fr c hc9)
  rcases zif_n hf with ⟨hc, hf⟩ | ⟨hc, hf⟩
  · skip
    exact fun c hc9 => (m_X12_any_9 hF  zN _ hf c hc9).trans (fr c hc9)
  · skip
    cases hf
    exact fr
end
section
abbrev md_X12_opens : List Nat := [100]
theorem sm_X12_opens_X12_next0 : ∀ c ∈ md_X12_next0, c ∈ md_X12_opens := by decide
theorem sm_X12_opens_X12_bad : ∀ c ∈ md_X12_bad, c ∈ md_X12_opens := by decide
variable {q : Int32 × zH}
theorem m_X12_opens : ∀ (h0 : zH) {q : Int32 × zH}, f_X12_opens h0 = some q → ∀ c, c ∉ md_X12_opens → q.2 c = h0 c := by
  intro h q hf
  unfold f_X12_opens at hf
  have fr : ∀ c, c ∉ md_X12_opens → h c = h c := fun _ _ => rfl
  rcases zif_n hf with ⟨hc, hf⟩ | ⟨hc, hf⟩
  · skip
    obtain ⟨h1, eh1, hf⟩ := zst_some hf
    have fr : ∀ c, c ∉ md_X12_opens → h1 c = h c := fun c hc9 => (congrFun eh1 c).trans ((zup_ne c (fun z => hc9 (by rw [z]; decide))).trans (fr c hc9))
    obtain ⟨r2, h3, er2, hf⟩ := zbd_some hf
    have fr : ∀ c, c ∉ md_X12_opens → h3 c = h c := fun c hc9 => (m_X12_next0 _ er2 c (fun z => hc9 (sm_X12_opens_X12_next0 c z))).trans (fr c hc9)
    cases hf
    exact fr
  · skip
    obtain ⟨r4, h5, er4, hf⟩ := zbd_some hf
    have fr : ∀ c, c ∉ md_X12_opens → h5 c = h c := fun c hc9 => (m_X12_bad _ _ er4 c (fun z => hc9 (sm_X12_opens_X12_bad c z))).trans (fr c hc9)
    obtain ⟨hb, hf⟩ := zbo_some hf
    cases hf
    exact fr
end
section
theorem sm_X12_oneTest_X12_sumUp : ∀ c ∈ md_X12_sumUp, c ∈ md_X12_oneTest := by decide
theorem sm_X12_oneTest_X12_bad : ∀ c ∈ md_X12_bad, c ∈ md_X12_oneTest := by decide
theorem sm_X12_oneTest_X12_opens : ∀ c ∈ md_X12_opens, c ∈ md_X12_oneTest := by decide
theorem sm_X12_oneTest_X12_need : ∀ c ∈ md_X12_need, c ∈ md_X12_oneTest := by decide
variable {q : Int32 × zH}
theorem m_X12_oneTest_b_147  {F : zH → zR} (hF : ∀ (h : zH) (q : Int32 × zH), F  h = some q → ∀ c, c ∉ md_X12_oneTest → q.2 c = h c)  : ∀ (h0 : zH) (s0 : Int32), f_X12_oneTest_b_147 F  s0 h0 = some q → ∀ c, c ∉ md_X12_oneTest → q.2 c = h0 c := by
  intro h s0 hf
  unfold f_X12_oneTest_b_147 at hf
  have fr : ∀ c, c ∉ md_X12_oneTest → h c = h c := fun _ _ => rfl
  rcases zif_n hf with ⟨hc, hf⟩ | ⟨hc, hf⟩
  · skip
    obtain ⟨r3, h4, er3, hf⟩ := zbd_some hf
    have fr : ∀ c, c ∉ md_X12_oneTest → h4 c = h c := fun c hc9 => (m_X12_next0 _ er3 c (fun z => hc9 (sm_X12_oneTest_X12_next0 c z))).trans (fr c hc9)
    obtain ⟨r5, h6, er5, hf⟩ := zbd_some hf
    have fr : ∀ c, c ∉ md_X12_oneTest → h6 c = h c := fun c hc9 => (m_X12_sumUp _ er5 c (fun z => hc9 (sm_X12_oneTest_X12_sumUp c z))).trans (fr c hc9)
    rcases zif_n hf with ⟨hc, hf⟩ | ⟨hc, hf⟩
    · skip
      obtain ⟨r7, h8, er7, hf⟩ := zbd_some hf
      have fr : ∀ c, c ∉ md_X12_oneTest → h8 c = h c := fun c hc9 => (m_X12_lay _ _ _ er7 c (fun z => hc9 (sm_X12_oneTest_X12_lay c z))).trans (fr c hc9)
      cases hf
      exact fr
    · skip
      cases hf
      exact fr
  · skip
    obtain ⟨r9, h10, er9, hf⟩ := zbd_some hf
    have fr : ∀ c, c ∉ md_X12_oneTest → h10 c = h c := fun c hc9 => (m_X12_bad _ _ er9 c (fun z => hc9 (sm_X12_oneTest_X12_bad c z))).trans (fr c hc9)
    obtain ⟨hb, hf⟩ := zbo_some hf
    cases hf
    exact fr
theorem m_X12_oneTest_b_78  {F : zH → zR} (hF : ∀ (h : zH) (q : Int32 × zH), F  h = some q → ∀ c, c ∉ md_X12_oneTest → q.2 c = h c)  : ∀ (h0 : zH), f_X12_oneTest_b_78 F  h0 = some q → ∀ c, c ∉ md_X12_oneTest → q.2 c = h0 c := by
  intro h hf
  unfold f_X12_oneTest_b_78 at hf
  have fr : ∀ c, c ∉ md_X12_oneTest → h c = h c := fun _ _ => rfl
  cases hf
  exact fr
theorem m_X12_oneTest_b_23  {F : zH → zR} (hF : ∀ (h : zH) (q : Int32 × zH), F  h = some q → ∀ c, c ∉ md_X12_oneTest → q.2 c = h c)  : ∀ (h0 : zH), f_X12_oneTest_b_23 F  h0 = some q → ∀ c, c ∉ md_X12_oneTest → q.2 c = h0 c := by
  intro h hf
  unfold f_X12_oneTest_b_23 at hf
  have fr : ∀ c, c ∉ md_X12_oneTest → h c = h c := fun _ _ => rfl
  cases hf
  exact fr
theorem m_X12_oneTest_b {F : zH → zR} (hF : ∀ (h : zH) (q : Int32 × zH), F  h = some q → ∀ c, c ∉ md_X12_oneTest → q.2 c = h c) : ∀ (h0 : zH) {q : Int32 × zH}, f_X12_oneTest_b F h0 = some q → ∀ c, c ∉ md_X12_oneTest → q.2 c = h0 c := by
  intro h q hf
  unfold f_X12_oneTest_b at hf
  have fr : ∀ c, c ∉ md_X12_oneTest → h c = h c := fun _ _ => rfl
  rcases zif_n hf with ⟨hc, hf⟩ | ⟨hc, hf⟩
  · skip
    rcases zif_n hf with ⟨hc, hf⟩ | ⟨hc, hf⟩
    · skip
      obtain ⟨r1, h2, er1, hf⟩ := zbd_some hf
      have fr : ∀ c, c ∉ md_X12_oneTest → h2 c = h c := fun c hc9 => (m_X12_sumUp _ er1 c (fun z => hc9 (sm_X12_oneTest_X12_sumUp c z))).trans (fr c hc9)
      rcases zif_n hf with ⟨hc, hf⟩ | ⟨hc, hf⟩
      · skip
        rcases zif_n hf with ⟨hc, hf⟩ | ⟨hc, hf⟩
        · skip
          rcases zif_n hf with ⟨hc, hf⟩ | ⟨hc, hf⟩
          · skip
            rcases zif_n hf with ⟨hc, hf⟩ | ⟨hc, hf⟩
            · skip
              exact fun c hc9 => (m_X12_oneTest_b_147 hF  _ _ hf c hc9).trans (fr c hc9)
            · skip
              exact fun c hc9 => (m_X12_oneTest_b_147 hF  _ _ hf c hc9).trans (fr c hc9)
          · skip
            exact fun c hc9 => (m_X12_oneTest_b_147 hF  _ _ hf c hc9).trans (fr c hc9)
        · skip
          exact fun c hc9 => (m_X12_oneTest_b_147 hF  _ _ hf c hc9).trans (fr c hc9)
      · skip
        cases hf
        exact fr
    · skip
      obtain ⟨r11, h12, er11, hf⟩ := zbd_some hf
      have fr : ∀ c, c ∉ md_X12_oneTest → h12 c = h c := fun c hc9 => (m_X12_opens _ er11 c (fun z => hc9 (sm_X12_oneTest_X12_opens c z))).trans (fr c hc9)
      rcases zif_c hf with ⟨hc, hf⟩ | ⟨hc, hf⟩
      · skip
        exact fun c hc9 => (m_X12_oneTest_b_78 hF  _ hf c hc9).trans (fr c hc9)
      · skip
        obtain ⟨r13, h14, er13, hf⟩ := zbd_some hf
        have fr : ∀ c, c ∉ md_X12_oneTest → h14 c = h c := fun c hc9 => (m_X12_any hF _ er13 c (fun z => hc9 (sm_X12_oneTest_X12_oneTest c z))).trans (fr c hc9)
        rcases zif_c hf with ⟨hc, hf⟩ | ⟨hc, hf⟩
        · skip
          exact fun c hc9 => (m_X12_oneTest_b_78 hF  _ hf c hc9).trans (fr c hc9)
        · skip
          obtain ⟨r15, h16, er15, hf⟩ := zbd_some hf
          have fr : ∀ c, c ∉ md_X12_oneTest → h16 c = h c := fun c hc9 => (m_X12_need _ _ er15 c (fun z => hc9 (sm_X12_oneTest_X12_need c z))).trans (fr c hc9)
          rcases zif_n hf with ⟨hc, hf⟩ | ⟨hc, hf⟩
          · skip
            obtain ⟨h17, eh17, hf⟩ := zst_some hf
            have fr : ∀ c, c ∉ md_X12_oneTest → h17 c = h c := fun c hc9 => (congrFun eh17 c).trans ((zup_ne c (fun z => hc9 (by rw [z]; decide))).trans (fr c hc9))
            cases hf
            exact fr
          · skip
            exact fun c hc9 => (m_X12_oneTest_b_78 hF  _ hf c hc9).trans (fr c hc9)
  · skip
    obtain ⟨r18, h19, er18, hf⟩ := zbd_some hf
    have fr : ∀ c, c ∉ md_X12_oneTest → h19 c = h c := fun c hc9 => (m_X12_opens _ er18 c (fun z => hc9 (sm_X12_oneTest_X12_opens c z))).trans (fr c hc9)
    rcases zif_c hf with ⟨hc, hf⟩ | ⟨hc, hf⟩
    · skip
      exact fun c hc9 => (m_X12_oneTest_b_23 hF  _ hf c hc9).trans (fr c hc9)
    · skip
      obtain ⟨r20, h21, er20, hf⟩ := zbd_some hf
      have fr : ∀ c, c ∉ md_X12_oneTest → h21 c = h c := fun c hc9 => (hF _  (r20, h21) er20 c hc9).trans (fr c hc9)
      rcases zif_n hf with ⟨hc, hf⟩ | ⟨hc, hf⟩
      · skip
        obtain ⟨h22, eh22, hf⟩ := zst_some hf
        have fr : ∀ c, c ∉ md_X12_oneTest → h22 c = h c := fun c hc9 => (congrFun eh22 c).trans ((zup_ne c (fun z => hc9 (by rw [z]; decide))).trans (fr c hc9))
        obtain ⟨r23, h24, er23, hf⟩ := zbd_some hf
        have fr : ∀ c, c ∉ md_X12_oneTest → h24 c = h c := fun c hc9 => (m_X12_lay _ _ _ er23 c (fun z => hc9 (sm_X12_oneTest_X12_lay c z))).trans (fr c hc9)
        cases hf
        exact fr
      · skip
        exact fun c hc9 => (m_X12_oneTest_b_23 hF  _ hf c hc9).trans (fr c hc9)
theorem m_X12_oneTest : ∀ (d : Nat) (h : zH) (q : Int32 × zH), f_X12_oneTest d h = some q → ∀ c, c ∉ md_X12_oneTest → q.2 c = h c := by
  intro d
  induction d with
  | zero => intro h q hf; cases hf
  | succ d ih => intro h q hf; exact m_X12_oneTest_b ih h hf
end
section
abbrev md_X12_aLine : List Nat := [100, 105, 106]
theorem sm_X12_aLine_X12_next0 : ∀ c ∈ md_X12_next0, c ∈ md_X12_aLine := by decide
theorem sm_X12_aLine_X12_sumUp : ∀ c ∈ md_X12_sumUp, c ∈ md_X12_aLine := by decide
theorem sm_X12_aLine_X12_need : ∀ c ∈ md_X12_need, c ∈ md_X12_aLine := by decide
theorem sm_X12_aLine_X12_oneTest : ∀ c ∈ md_X12_oneTest, c ∈ md_X12_aLine := by decide
theorem sm_X12_aLine_X12_bad : ∀ c ∈ md_X12_bad, c ∈ md_X12_aLine := by decide
variable {q : Int32 × zH}
theorem m_X12_aLine_101   : ∀ (h0 : zH), f_X12_aLine_101  h0 = some q → ∀ c, c ∉ md_X12_aLine → q.2 c = h0 c := by
  intro h hf
  unfold f_X12_aLine_101 at hf
  have fr : ∀ c, c ∉ md_X12_aLine → h c = h c := fun _ _ => rfl
  obtain ⟨hi, hf⟩ := zck_some hf
  obtain ⟨h8, eh8, hf⟩ := zst_some hf
  have fr : ∀ c, c ∉ md_X12_aLine → h8 c = h c := fun c hc9 => (congrFun eh8 c).trans ((zup_ne c (fun z => hc9 (by rw [z]; decide))).trans (fr c hc9))
  obtain ⟨r9, h10, er9, hf⟩ := zbd_some hf
  have fr : ∀ c, c ∉ md_X12_aLine → h10 c = h c := fun c hc9 => (m_X12_need _ _ er9 c (fun z => hc9 (sm_X12_aLine_X12_need c z))).trans (fr c hc9)
  obtain ⟨hb, hf⟩ := zbo_some hf
  cases hf
  exact fr
theorem m_X12_aLine : ∀ (h0 : zH) {q : Int32 × zH}, f_X12_aLine h0 = some q → ∀ c, c ∉ md_X12_aLine → q.2 c = h0 c := by
  intro h q hf
  unfold f_X12_aLine at hf
  have fr : ∀ c, c ∉ md_X12_aLine → h c = h c := fun _ _ => rfl
  rcases zif_c hf with ⟨hc, hf⟩ | ⟨hc, hf⟩
  · skip
    rcases zif_n hf with ⟨hc, hf⟩ | ⟨hc, hf⟩
    · skip
      obtain ⟨h1, eh1, hf⟩ := zst_some hf
      have fr : ∀ c, c ∉ md_X12_aLine → h1 c = h c := fun c hc9 => (congrFun eh1 c).trans ((zup_ne c (fun z => hc9 (by rw [z]; decide))).trans (fr c hc9))
      obtain ⟨r2, h3, er2, hf⟩ := zbd_some hf
      have fr : ∀ c, c ∉ md_X12_aLine → h3 c = h c := fun c hc9 => (m_X12_next0 _ er2 c (fun z => hc9 (sm_X12_aLine_X12_next0 c z))).trans (fr c hc9)
      obtain ⟨hi, hf⟩ := zck_some hf
      obtain ⟨h4, eh4, hf⟩ := zst_some hf
      have fr : ∀ c, c ∉ md_X12_aLine → h4 c = h c := fun c hc9 => (congrFun eh4 c).trans ((zup_ne c (fun z => hc9 (by rw [z]; decide))).trans (fr c hc9))
      obtain ⟨r5, h6, er5, hf⟩ := zbd_some hf
      have fr : ∀ c, c ∉ md_X12_aLine → h6 c = h c := fun c hc9 => (m_X12_sumUp _ er5 c (fun z => hc9 (sm_X12_aLine_X12_sumUp c z))).trans (fr c hc9)
      rcases zif_n hf with ⟨hc, hf⟩ | ⟨hc, hf⟩
      · skip
        obtain ⟨hi, hf⟩ := zck_some hf
        obtain ⟨h7, eh7, hf⟩ := zst_some hf
        have fr : ∀ c, c ∉ md_X12_aLine → h7 c = h c := fun c hc9 => (congrFun eh7 c).trans ((zup_ne c (fun z => hc9 (by rw [z]; decide))).trans (fr c hc9))
        rcases zif_n hf with ⟨hc, hf⟩ | ⟨hc, hf⟩
        · skip
          exact fun c hc9 => (m_X12_aLine_101  _ hf c hc9).trans (fr c hc9)
        · skip
          obtain ⟨r11, h12, er11, hf⟩ := zbd_some hf
          have fr : ∀ c, c ∉ md_X12_aLine → h12 c = h c := fun c hc9 => (m_X12_next0 _ er11 c (fun z => hc9 (sm_X12_aLine_X12_next0 c z))).trans (fr c hc9)
          obtain ⟨r13, h14, er13, hf⟩ := zbd_some hf
          have fr : ∀ c, c ∉ md_X12_aLine → h14 c = h c := fun c hc9 => (m_X12_any (m_X12_oneTest 12) _ er13 c (fun z => hc9 (sm_X12_aLine_X12_oneTest c z))).trans (fr c hc9)
          rcases zif_n hf with ⟨hc, hf⟩ | ⟨hc, hf⟩
          · skip
            exact fun c hc9 => (m_X12_aLine_101  _ hf c hc9).trans (fr c hc9)
          · skip
            cases hf
            exact fr
      · skip
        cases hf
        exact fr
    · skip
      obtain ⟨r15, h16, er15, hf⟩ := zbd_some hf
      have fr : ∀ c, c ∉ md_X12_aLine → h16 c = h c := fun c hc9 => (m_X12_bad _ _ er15 c (fun z => hc9 (sm_X12_aLine_X12_bad c z))).trans (fr c hc9)
      obtain ⟨hb, hf⟩ := zbo_some hf
      cases hf
      exact fr
  · skip
    obtain ⟨r17, h18, er17, hf⟩ := zbd_some hf
    have fr : ∀ c, c ∉ md_X12_aLine → h18 c = h c := fun c hc9 => (m_X12_bad _ _ er17 c (fun z => hc9 (sm_X12_aLine_X12_bad c z))).trans (fr c hc9)
    obtain ⟨hb, hf⟩ := zbo_some hf
    cases hf
    exact fr
end
section
abbrev md_X12_text : List Nat := [100, 101, 105, 106]
theorem sm_X12_text_X12_next0 : ∀ c ∈ md_X12_next0, c ∈ md_X12_text := by decide
theorem sm_X12_text_X12_aLine : ∀ c ∈ md_X12_aLine, c ∈ md_X12_text := by decide
variable {q : Int32 × zH}
theorem m_X12_text_186   : ∀ n, ∀ (h0 : zH) (x2 : Int32), f_X12_text_186  n x2 h0 = some q → ∀ c, c ∉ md_X12_text → q.2 c = h0 c := by
  intro n
  induction n with
  | zero => intro h x2 hf; cases hf
  | succ n ih =>
    intro h x2 hf
    rw [f_X12_text_186] at hf
    have fr : ∀ c, c ∉ md_X12_text → h c = h c := fun _ _ => rfl
    rcases zif_c hf with ⟨hc, hf⟩ | ⟨hc, hf⟩
    · skip
      cases hf
      exact fr
    · skip
      obtain ⟨hi, hf⟩ := zck_some hf
      obtain ⟨hi, hf⟩ := zck_some hf
      obtain ⟨h11, eh11, hf⟩ := zst_some hf
      have fr : ∀ c, c ∉ md_X12_text → h11 c = h c := fun c hc9 => (congrFun eh11 c).trans ((zup_ne c (fun z => hc9 (by rw [z]; decide))).trans (fr c hc9))
      obtain ⟨y12, ey12, hf⟩ := zlt_some hf
      exact fun c hc9 => (ih _ _ hf c hc9).trans (fr c hc9)
theorem m_X12_text_112   : ∀ n, ∀ (h0 : zH) (x2 : Int32), f_X12_text_112  n x2 h0 = some q → ∀ c, c ∉ md_X12_text → q.2 c = h0 c := by
  intro n
  induction n with
  | zero => intro h x2 hf; cases hf
  | succ n ih =>
    intro h x2 hf
    rw [f_X12_text_112] at hf
    have fr : ∀ c, c ∉ md_X12_text → h c = h c := fun _ _ => rfl
    rcases zif_c hf with ⟨hc, hf⟩ | ⟨hc, hf⟩
    · skip
      exact fun c hc9 => (m_X12_text_186  zN _ _ hf c hc9).trans (fr c hc9)
    · skip
      obtain ⟨hi, hf⟩ := zck_some hf
      obtain ⟨hi, hf⟩ := zck_some hf
      obtain ⟨h13, eh13, hf⟩ := zst_some hf
      have fr : ∀ c, c ∉ md_X12_text → h13 c = h c := fun c hc9 => (congrFun eh13 c).trans ((zup_ne c (fun z => hc9 (by rw [z]; decide))).trans (fr c hc9))
      obtain ⟨hi, hf⟩ := zck_some hf
      obtain ⟨hi, hf⟩ := zck_some hf
      obtain ⟨h14, eh14, hf⟩ := zst_some hf
      have fr : ∀ c, c ∉ md_X12_text → h14 c = h c := fun c hc9 => (congrFun eh14 c).trans ((zup_ne c (fun z => hc9 (by rw [z]; decide))).trans (fr c hc9))
      obtain ⟨hi, hf⟩ := zck_some hf
      obtain ⟨hi, hf⟩ := zck_some hf
      obtain ⟨h15, eh15, hf⟩ := zst_some hf
      have fr : ∀ c, c ∉ md_X12_text → h15 c = h c := fun c hc9 => (congrFun eh15 c).trans ((zup_ne c (fun z => hc9 (by rw [z]; decide))).trans (fr c hc9))
      obtain ⟨y16, ey16, hf⟩ := zlt_some hf
      exact fun c hc9 => (ih _ _ hf c hc9).trans (fr c hc9)
theorem m_X12_text_89   : ∀ (h0 : zH) (x1 : Int32) (s0 : Int32), f_X12_text_89  x1 s0 h0 = some q → ∀ c, c ∉ md_X12_text → q.2 c = h0 c := by
  intro h x1 s0 hf
  unfold f_X12_text_89 at hf
  have fr : ∀ c, c ∉ md_X12_text → h c = h c := fun _ _ => rfl
  obtain ⟨h9, eh9, hf⟩ := zst_some hf
  have fr : ∀ c, c ∉ md_X12_text → h9 c = h c := fun c hc9 => (congrFun eh9 c).trans ((zup_ne c (fun z => hc9 (by rw [z]; decide))).trans (fr c hc9))
  rcases zif_n hf with ⟨hc, hf⟩ | ⟨hc, hf⟩
  · skip
    obtain ⟨h10, eh10, hf⟩ := zst_some hf
    have fr : ∀ c, c ∉ md_X12_text → h10 c = h c := fun c hc9 => (congrFun eh10 c).trans ((zup_ne c (fun z => hc9 (by rw [z]; decide))).trans (fr c hc9))
    exact fun c hc9 => (m_X12_text_112  zN _ _ hf c hc9).trans (fr c hc9)
  · skip
    cases hf
    exact fr
theorem m_X12_text_63   : ∀ (h0 : zH) (x1 : Int32), f_X12_text_63  x1 h0 = some q → ∀ c, c ∉ md_X12_text → q.2 c = h0 c := by
  intro h x1 hf
  unfold f_X12_text_63 at hf
  have fr : ∀ c, c ∉ md_X12_text → h c = h c := fun _ _ => rfl
  obtain ⟨h7, eh7, hf⟩ := zst_some hf
  have fr : ∀ c, c ∉ md_X12_text → h7 c = h c := fun c hc9 => (congrFun eh7 c).trans ((zup_ne c (fun z => hc9 (by rw [z]; decide))).trans (fr c hc9))
  obtain ⟨h8, eh8, hf⟩ := zst_some hf
  have fr : ∀ c, c ∉ md_X12_text → h8 c = h c := fun c hc9 => (congrFun eh8 c).trans ((zup_ne c (fun z => hc9 (by rw [z]; decide))).trans (fr c hc9))
  rcases zif_c hf with ⟨hc, hf⟩ | ⟨hc, hf⟩
  · skip
    exact fun c hc9 => (m_X12_text_89  _ _ _ hf c hc9).trans (fr c hc9)
  · skip
    exact fun c hc9 => (m_X12_text_89  _ _ _ hf c hc9).trans (fr c hc9)
theorem m_X12_text_56 {k26 : Int32 → zH → zR} (hk26 : ∀ (h0 : zH) (x1 : Int32), k26 x1 h0 = some q → ∀ c, c ∉ md_X12_text → q.2 c = h0 c) : ∀ (h0 : zH) (x1 : Int32) (s0 : Int32) (s1 : Int32), f_X12_text_56 k26 x1 s0 s1 h0 = some q → ∀ c, c ∉ md_X12_text → q.2 c = h0 c := by
  intro h x1 s0 s1 hf
  unfold f_X12_text_56 at hf
  have fr : ∀ c, c ∉ md_X12_text → h c = h c := fun _ _ => rfl
  obtain ⟨h19, eh19, hf⟩ := zst_some hf
  have fr : ∀ c, c ∉ md_X12_text → h19 c = h c := fun c hc9 => (congrFun eh19 c).trans ((zup_ne c (fun z => hc9 (by rw [z]; decide))).trans (fr c hc9))
  exact fun c hc9 => (hk26 _ _ hf c hc9).trans (fr c hc9)
theorem m_X12_text_26   : ∀ n, ∀ (h0 : zH) (x1 : Int32), f_X12_text_26  n x1 h0 = some q → ∀ c, c ∉ md_X12_text → q.2 c = h0 c := by
  intro n
  induction n with
  | zero => intro h x1 hf; cases hf
  | succ n ih =>
    intro h x1 hf
    rw [f_X12_text_26] at hf
    have fr : ∀ c, c ∉ md_X12_text → h c = h c := fun _ _ => rfl
    rcases zif_c hf with ⟨hc, hf⟩ | ⟨hc, hf⟩
    · skip
      exact fun c hc9 => (m_X12_text_63  _ _ hf c hc9).trans (fr c hc9)
    · skip
      rcases zif_c hf with ⟨hc, hf⟩ | ⟨hc, hf⟩
      · skip
        exact fun c hc9 => (m_X12_text_63  _ _ hf c hc9).trans (fr c hc9)
      · skip
        obtain ⟨r17, h18, er17, hf⟩ := zbd_some hf
        have fr : ∀ c, c ∉ md_X12_text → h18 c = h c := fun c hc9 => (m_X12_aLine _ er17 c (fun z => hc9 (sm_X12_text_X12_aLine c z))).trans (fr c hc9)
        rcases zif_c hf with ⟨hc, hf⟩ | ⟨hc, hf⟩
        · skip
          exact fun c hc9 => (m_X12_text_56 ih _ _ _ _ hf c hc9).trans (fr c hc9)
        · skip
          exact fun c hc9 => (m_X12_text_56 ih _ _ _ _ hf c hc9).trans (fr c hc9)
theorem m_X12_text : ∀ (h0 : zH) {q : Int32 × zH}, f_X12_text h0 = some q → ∀ c, c ∉ md_X12_text → q.2 c = h0 c := by
  intro h q hf
  unfold f_X12_text at hf
  have fr : ∀ c, c ∉ md_X12_text → h c = h c := fun _ _ => rfl
  obtain ⟨h1, eh1, hf⟩ := zst_some hf
  have fr : ∀ c, c ∉ md_X12_text → h1 c = h c := fun c hc9 => (congrFun eh1 c).trans ((zup_ne c (fun z => hc9 (by rw [z]; decide))).trans (fr c hc9))
  obtain ⟨h2, eh2, hf⟩ := zst_some hf
  have fr : ∀ c, c ∉ md_X12_text → h2 c = h c := fun c hc9 => (congrFun eh2 c).trans ((zup_ne c (fun z => hc9 (by rw [z]; decide))).trans (fr c hc9))
  obtain ⟨h3, eh3, hf⟩ := zst_some hf
  have fr : ∀ c, c ∉ md_X12_text → h3 c = h c := fun c hc9 => (congrFun eh3 c).trans ((zup_ne c (fun z => hc9 (by rw [z]; decide))).trans (fr c hc9))
  obtain ⟨h4, eh4, hf⟩ := zst_some hf
  have fr : ∀ c, c ∉ md_X12_text → h4 c = h c := fun c hc9 => (congrFun eh4 c).trans ((zup_ne c (fun z => hc9 (by rw [z]; decide))).trans (fr c hc9))
  obtain ⟨r5, h6, er5, hf⟩ := zbd_some hf
  have fr : ∀ c, c ∉ md_X12_text → h6 c = h c := fun c hc9 => (m_X12_next0 _ er5 c (fun z => hc9 (sm_X12_text_X12_next0 c z))).trans (fr c hc9)
  exact fun c hc9 => (m_X12_text_26  zN _ _ hf c hc9).trans (fr c hc9)
end
section
abbrev md_X8_takeBack : List Nat := [38, 39, 40]
theorem sm_X8_takeBack_X1_untell : ∀ c ∈ md_X1_untell, c ∈ md_X8_takeBack := by decide
variable {q : Int32 × zH}
theorem m_X8_takeBack : ∀ (h0 : zH) (x1 : Int32) {q : Int32 × zH}, f_X8_takeBack x1 h0 = some q → ∀ c, c ∉ md_X8_takeBack → q.2 c = h0 c := by
  intro h x1 q hf
  unfold f_X8_takeBack at hf
  have fr : ∀ c, c ∉ md_X8_takeBack → h c = h c := fun _ _ => rfl
  rcases zif_c hf with ⟨hc, hf⟩ | ⟨hc, hf⟩
  · skip
    cases hf
    exact fr
  · skip
    obtain ⟨r1, h2, er1, hf⟩ := zbd_some hf
    have fr : ∀ c, c ∉ md_X8_takeBack → h2 c = h c := fun c hc9 => (m_X1_untell _ er1 c (fun z => hc9 (sm_X8_takeBack_X1_untell c z))).trans (fr c hc9)
    cases hf
    exact fr
end
section
abbrev md_X8_keepBest : List Nat := [71, 73]
variable {q : Int32 × zH}
theorem m_X8_keepBest : ∀ (h0 : zH) (x1 : Int32) {q : Int32 × zH}, f_X8_keepBest x1 h0 = some q → ∀ c, c ∉ md_X8_keepBest → q.2 c = h0 c := by
  intro h x1 q hf
  unfold f_X8_keepBest at hf
  have fr : ∀ c, c ∉ md_X8_keepBest → h c = h c := fun _ _ => rfl
  rcases zif_c hf with ⟨hc, hf⟩ | ⟨hc, hf⟩
  · skip
    cases hf
    exact fr
  · skip
    obtain ⟨h1, eh1, hf⟩ := zst_some hf
    have fr : ∀ c, c ∉ md_X8_keepBest → h1 c = h c := fun c hc9 => (congrFun eh1 c).trans ((zup_ne c (fun z => hc9 (by rw [z]; decide))).trans (fr c hc9))
    obtain ⟨hi, hf⟩ := zcc_some hf
    obtain ⟨h2, eh2, hf⟩ := zst_some hf
    have fr : ∀ c, c ∉ md_X8_keepBest → h2 c = h c := fun c hc9 => (congrFun eh2 c).trans ((zcp_ne c (fun z => hc9 (by rw [z]; decide))).trans (fr c hc9))
    cases hf
    exact fr
end
section
abbrev md_X8_place : List Nat := [19, 21, 38, 39, 40, 42, 43, 71, 72, 73]
theorem sm_X8_place_X11_isIn : ∀ c ∈ md_X11_isIn, c ∈ md_X8_place := by decide
theorem sm_X8_place_X1_tellBetween : ∀ c ∈ md_X1_tellBetween, c ∈ md_X8_place := by decide
theorem sm_X8_place_X8_takeBack : ∀ c ∈ md_X8_takeBack, c ∈ md_X8_place := by decide
theorem sm_X8_place_X8_keepBest : ∀ c ∈ md_X8_keepBest, c ∈ md_X8_place := by decide
theorem sm_X8_place_X8_place : ∀ c ∈ md_X8_place, c ∈ md_X8_place := fun _ h => h
variable {q : Int32 × zH}
theorem m_X8_place_b_120 {k52 : Int32 → Int32 → Int32 → Int32 → zH → zR} {F : Int32 → Int32 → Int32 → zH → zR} (hF : ∀ (h : zH) (x1 : Int32) (x2 : Int32) (x3 : Int32) (q : Int32 × zH), F x1 x2 x3 h = some q → ∀ c, c ∉ md_X8_place → q.2 c = h c) (hk52 : ∀ (h0 : zH) (x1 : Int32) (x2 : Int32) (x3 : Int32) (x4 : Int32), k52 x1 x2 x3 x4 h0 = some q → ∀ c, c ∉ md_X8_place → q.2 c = h0 c) : ∀ (h0 : zH) (x1 : Int32) (x2 : Int32) (x3 : Int32) (x4 : Int32), f_X8_place_b_120 F k52 x1 x2 x3 x4 h0 = some q → ∀ c, c ∉ md_X8_place → q.2 c = h0 c := by
  intro h x1 x2 x3 x4 hf
  unfold f_X8_place_b_120 at hf
  have fr : ∀ c, c ∉ md_X8_place → h c = h c := fun _ _ => rfl
  obtain ⟨y3, ey3, hf⟩ := zlt_some hf
  exact fun c hc9 => (hk52 _ _ _ _ _ hf c hc9).trans (fr c hc9)
theorem m_X8_place_b_52  {F : Int32 → Int32 → Int32 → zH → zR} (hF : ∀ (h : zH) (x1 : Int32) (x2 : Int32) (x3 : Int32) (q : Int32 × zH), F x1 x2 x3 h = some q → ∀ c, c ∉ md_X8_place → q.2 c = h c)  : ∀ n, ∀ (h0 : zH) (x1 : Int32) (x2 : Int32) (x3 : Int32) (x4 : Int32), f_X8_place_b_52 F  n x1 x2 x3 x4 h0 = some q → ∀ c, c ∉ md_X8_place → q.2 c = h0 c := by
  intro n
  induction n with
  | zero => intro h x1 x2 x3 x4 hf; cases hf
  | succ n ih =>
    intro h x1 x2 x3 x4 hf
    rw [f_X8_place_b_52] at hf
    have fr : ∀ c, c ∉ md_X8_place → h c = h c := fun _ _ => rfl
    rcases zif_c hf with ⟨hc, hf⟩ | ⟨hc, hf⟩
    · skip
      cases hf
      exact fr
    · skip
      obtain ⟨r1, h2, er1, hf⟩ := zbd_some hf
      have fr : ∀ c, c ∉ md_X8_place → h2 c = h c := fun c hc9 => (m_X11_isIn _ _ _ er1 c (fun z => hc9 (sm_X8_place_X11_isIn c z))).trans (fr c hc9)
      rcases zif_n hf with ⟨hc, hf⟩ | ⟨hc, hf⟩
      · skip
        exact fun c hc9 => (m_X8_place_b_120 hF ih _ _ _ _ _ hf c hc9).trans (fr c hc9)
      · skip
        obtain ⟨hi, hf⟩ := zck_some hf
        obtain ⟨h4, eh4, hf⟩ := zst_some hf
        have fr : ∀ c, c ∉ md_X8_place → h4 c = h c := fun c hc9 => (congrFun eh4 c).trans ((zup_ne c (fun z => hc9 (by rw [z]; decide))).trans (fr c hc9))
        obtain ⟨hi, hf⟩ := zck_some hf
        obtain ⟨r5, h6, er5, hf⟩ := zbd_some hf
        have fr : ∀ c, c ∉ md_X8_place → h6 c = h c := fun c hc9 => (m_X1_tellBetween _ _ _ er5 c (fun z => hc9 (sm_X8_place_X1_tellBetween c z))).trans (fr c hc9)
        obtain ⟨r7, h8, er7, hf⟩ := zbd_some hf
        have fr : ∀ c, c ∉ md_X8_place → h8 c = h c := fun c hc9 => (hF _ _ _ _  (r7, h8) er7 c hc9).trans (fr c hc9)
        obtain ⟨r9, h10, er9, hf⟩ := zbd_some hf
        have fr : ∀ c, c ∉ md_X8_place → h10 c = h c := fun c hc9 => (m_X8_takeBack _ _ er9 c (fun z => hc9 (sm_X8_place_X8_takeBack c z))).trans (fr c hc9)
        exact fun c hc9 => (m_X8_place_b_120 hF ih _ _ _ _ _ hf c hc9).trans (fr c hc9)
theorem m_X8_place_b {F : Int32 → Int32 → Int32 → zH → zR} (hF : ∀ (h : zH) (x1 : Int32) (x2 : Int32) (x3 : Int32) (q : Int32 × zH), F x1 x2 x3 h = some q → ∀ c, c ∉ md_X8_place → q.2 c = h c) : ∀ (h0 : zH) (x1 : Int32) (x2 : Int32) (x3 : Int32) {q : Int32 × zH}, f_X8_place_b F x1 x2 x3 h0 = some q → ∀ c, c ∉ md_X8_place → q.2 c = h0 c := by
  intro h x1 x2 x3 q hf
  unfold f_X8_place_b at hf
  have fr : ∀ c, c ∉ md_X8_place → h c = h c := fun _ _ => rfl
  rcases zif_c hf with ⟨hc, hf⟩ | ⟨hc, hf⟩
  · skip
    exact fun c hc9 => (m_X8_place_b_52 hF  zN _ _ _ _ _ hf c hc9).trans (fr c hc9)
  · skip
    obtain ⟨hi, hf⟩ := zck_some hf
    obtain ⟨r11, h12, er11, hf⟩ := zbd_some hf
    have fr : ∀ c, c ∉ md_X8_place → h12 c = h c := fun c hc9 => (m_X1_tellBetween _ _ _ er11 c (fun z => hc9 (sm_X8_place_X1_tellBetween c z))).trans (fr c hc9)
    obtain ⟨r13, h14, er13, hf⟩ := zbd_some hf
    have fr : ∀ c, c ∉ md_X8_place → h14 c = h c := fun c hc9 => (m_X8_takeBack _ _ er13 c (fun z => hc9 (sm_X8_place_X8_takeBack c z))).trans (fr c hc9)
    obtain ⟨r15, h16, er15, hf⟩ := zbd_some hf
    have fr : ∀ c, c ∉ md_X8_place → h16 c = h c := fun c hc9 => (m_X8_keepBest _ _ er15 c (fun z => hc9 (sm_X8_place_X8_keepBest c z))).trans (fr c hc9)
    cases hf
    exact fr
theorem m_X8_place : ∀ (d : Nat) (h : zH) (x1 : Int32) (x2 : Int32) (x3 : Int32) (q : Int32 × zH), f_X8_place d x1 x2 x3 h = some q → ∀ c, c ∉ md_X8_place → q.2 c = h c := by
  intro d
  induction d with
  | zero => intro h x1 x2 x3 q hf; cases hf
  | succ d ih => intro h x1 x2 x3 q hf; exact m_X8_place_b ih h x1 x2 x3 hf
end
section
abbrev md_X8_solve : List Nat := [19, 21, 38, 39, 40, 41, 42, 43, 71, 72, 73]
theorem sm_X8_solve_X1_begin : ∀ c ∈ md_X1_begin, c ∈ md_X8_solve := by decide
theorem sm_X8_solve_X8_place : ∀ c ∈ md_X8_place, c ∈ md_X8_solve := by decide
variable {q : Int32 × zH}
theorem m_X8_solve : ∀ (h0 : zH) (x1 : Int32) {q : Int32 × zH}, f_X8_solve x1 h0 = some q → ∀ c, c ∉ md_X8_solve → q.2 c = h0 c := by
  intro h x1 q hf
  unfold f_X8_solve at hf
  have fr : ∀ c, c ∉ md_X8_solve → h c = h c := fun _ _ => rfl
  obtain ⟨h1, eh1, hf⟩ := zst_some hf
  have fr : ∀ c, c ∉ md_X8_solve → h1 c = h c := fun c hc9 => (congrFun eh1 c).trans ((zup_ne c (fun z => hc9 (by rw [z]; decide))).trans (fr c hc9))
  obtain ⟨h2, eh2, hf⟩ := zst_some hf
  have fr : ∀ c, c ∉ md_X8_solve → h2 c = h c := fun c hc9 => (congrFun eh2 c).trans ((zup_ne c (fun z => hc9 (by rw [z]; decide))).trans (fr c hc9))
  obtain ⟨h3, eh3, hf⟩ := zst_some hf
  have fr : ∀ c, c ∉ md_X8_solve → h3 c = h c := fun c hc9 => (congrFun eh3 c).trans ((zup_ne c (fun z => hc9 (by rw [z]; decide))).trans (fr c hc9))
  obtain ⟨r4, h5, er4, hf⟩ := zbd_some hf
  have fr : ∀ c, c ∉ md_X8_solve → h5 c = h c := fun c hc9 => (m_X1_begin _ er4 c (fun z => hc9 (sm_X8_solve_X1_begin c z))).trans (fr c hc9)
  obtain ⟨r6, h7, er6, hf⟩ := zbd_some hf
  have fr : ∀ c, c ∉ md_X8_solve → h7 c = h c := fun c hc9 => (m_X8_place 12 _ _ _ _ _ er6 c (fun z => hc9 (sm_X8_solve_X8_place c z))).trans (fr c hc9)
  cases hf
  exact fr
end
section
abbrev md_X12_seatsAll : List Nat := [100, 101, 104, 108, 109, 115]
theorem sm_X12_seatsAll_X12_sits : ∀ c ∈ md_X12_sits, c ∈ md_X12_seatsAll := by decide
theorem sm_X12_seatsAll_X12_merryNow : ∀ c ∈ md_X12_merryNow, c ∈ md_X12_seatsAll := by decide
theorem sm_X12_seatsAll_X12_ofGuest : ∀ c ∈ md_X12_ofGuest, c ∈ md_X12_seatsAll := by decide
theorem sm_X12_seatsAll_X12_seatsAll : ∀ c ∈ md_X12_seatsAll, c ∈ md_X12_seatsAll := fun _ h => h
variable {q : Int32 × zH}
theorem m_X12_seatsAll_b_106 {k66 : Int32 → Int32 → Int32 → zH → zR} {F : Int32 → Int32 → zH → zR} (hF : ∀ (h : zH) (x1 : Int32) (x2 : Int32) (q : Int32 × zH), F x1 x2 h = some q → ∀ c, c ∉ md_X12_seatsAll → q.2 c = h c) (hk66 : ∀ (h0 : zH) (x1 : Int32) (x2 : Int32) (x3 : Int32), k66 x1 x2 x3 h0 = some q → ∀ c, c ∉ md_X12_seatsAll → q.2 c = h0 c) : ∀ (h0 : zH) (x1 : Int32) (x2 : Int32) (x3 : Int32), f_X12_seatsAll_b_106 F k66 x1 x2 x3 h0 = some q → ∀ c, c ∉ md_X12_seatsAll → q.2 c = h0 c := by
  intro h x1 x2 x3 hf
  unfold f_X12_seatsAll_b_106 at hf
  have fr : ∀ c, c ∉ md_X12_seatsAll → h c = h c := fun _ _ => rfl
  obtain ⟨y5, ey5, hf⟩ := zlt_some hf
  exact fun c hc9 => (hk66 _ _ _ _ hf c hc9).trans (fr c hc9)
theorem m_X12_seatsAll_b_66  {F : Int32 → Int32 → zH → zR} (hF : ∀ (h : zH) (x1 : Int32) (x2 : Int32) (q : Int32 × zH), F x1 x2 h = some q → ∀ c, c ∉ md_X12_seatsAll → q.2 c = h c)  : ∀ n, ∀ (h0 : zH) (x1 : Int32) (x2 : Int32) (x3 : Int32), f_X12_seatsAll_b_66 F  n x1 x2 x3 h0 = some q → ∀ c, c ∉ md_X12_seatsAll → q.2 c = h0 c := by
  intro n
  induction n with
  | zero => intro h x1 x2 x3 hf; cases hf
  | succ n ih =>
    intro h x1 x2 x3 hf
    rw [f_X12_seatsAll_b_66] at hf
    have fr : ∀ c, c ∉ md_X12_seatsAll → h c = h c := fun _ _ => rfl
    rcases zif_c hf with ⟨hc, hf⟩ | ⟨hc, hf⟩
    · skip
      cases hf
      exact fr
    · skip
      rcases zif_n hf with ⟨hc, hf⟩ | ⟨hc, hf⟩
      · skip
        obtain ⟨r1, h2, er1, hf⟩ := zbd_some hf
        have fr : ∀ c, c ∉ md_X12_seatsAll → h2 c = h c := fun c hc9 => (m_X12_sits _ _ _ er1 c (fun z => hc9 (sm_X12_seatsAll_X12_sits c z))).trans (fr c hc9)
        obtain ⟨r3, h4, er3, hf⟩ := zbd_some hf
        have fr : ∀ c, c ∉ md_X12_seatsAll → h4 c = h c := fun c hc9 => (hF _ _ _  (r3, h4) er3 c hc9).trans (fr c hc9)
        exact fun c hc9 => (m_X12_seatsAll_b_106 hF ih _ _ _ _ hf c hc9).trans (fr c hc9)
      · skip
        exact fun c hc9 => (m_X12_seatsAll_b_106 hF ih _ _ _ _ hf c hc9).trans (fr c hc9)
theorem m_X12_seatsAll_b_32  {F : Int32 → Int32 → zH → zR} (hF : ∀ (h : zH) (x1 : Int32) (x2 : Int32) (q : Int32 × zH), F x1 x2 h = some q → ∀ c, c ∉ md_X12_seatsAll → q.2 c = h c)  : ∀ n, ∀ (h0 : zH) (x4 : Int32), f_X12_seatsAll_b_32 F  n x4 h0 = some q → ∀ c, c ∉ md_X12_seatsAll → q.2 c = h0 c := by
  intro n
  induction n with
  | zero => intro h x4 hf; cases hf
  | succ n ih =>
    intro h x4 hf
    rw [f_X12_seatsAll_b_32] at hf
    have fr : ∀ c, c ∉ md_X12_seatsAll → h c = h c := fun _ _ => rfl
    rcases zif_c hf with ⟨hc, hf⟩ | ⟨hc, hf⟩
    · skip
      cases hf
      exact fr
    · skip
      obtain ⟨r9, h10, er9, hf⟩ := zbd_some hf
      have fr : ∀ c, c ∉ md_X12_seatsAll → h10 c = h c := fun c hc9 => (m_X12_ofGuest _ _ _ er9 c (fun z => hc9 (sm_X12_seatsAll_X12_ofGuest c z))).trans (fr c hc9)
      obtain ⟨hi, hf⟩ := zck_some hf
      obtain ⟨h11, eh11, hf⟩ := zst_some hf
      have fr : ∀ c, c ∉ md_X12_seatsAll → h11 c = h c := fun c hc9 => (congrFun eh11 c).trans ((zup_ne c (fun z => hc9 (by rw [z]; decide))).trans (fr c hc9))
      obtain ⟨y12, ey12, hf⟩ := zlt_some hf
      exact fun c hc9 => (ih _ _ hf c hc9).trans (fr c hc9)
theorem m_X12_seatsAll_b {F : Int32 → Int32 → zH → zR} (hF : ∀ (h : zH) (x1 : Int32) (x2 : Int32) (q : Int32 × zH), F x1 x2 h = some q → ∀ c, c ∉ md_X12_seatsAll → q.2 c = h c) : ∀ (h0 : zH) (x1 : Int32) (x2 : Int32) {q : Int32 × zH}, f_X12_seatsAll_b F x1 x2 h0 = some q → ∀ c, c ∉ md_X12_seatsAll → q.2 c = h0 c := by
  intro h x1 x2 q hf
  unfold f_X12_seatsAll_b at hf
  have fr : ∀ c, c ∉ md_X12_seatsAll → h c = h c := fun _ _ => rfl
  rcases zif_n hf with ⟨hc, hf⟩ | ⟨hc, hf⟩
  · skip
    exact fun c hc9 => (m_X12_seatsAll_b_66 hF  zN _ _ _ _ hf c hc9).trans (fr c hc9)
  · skip
    obtain ⟨r6, h7, er6, hf⟩ := zbd_some hf
    have fr : ∀ c, c ∉ md_X12_seatsAll → h7 c = h c := fun c hc9 => (m_X12_merryNow _ er6 c (fun z => hc9 (sm_X12_seatsAll_X12_merryNow c z))).trans (fr c hc9)
    rcases zif_c hf with ⟨hc, hf⟩ | ⟨hc, hf⟩
    · skip
      obtain ⟨h8, eh8, hf⟩ := zst_some hf
      have fr : ∀ c, c ∉ md_X12_seatsAll → h8 c = h c := fun c hc9 => (congrFun eh8 c).trans ((zup_ne c (fun z => hc9 (by rw [z]; decide))).trans (fr c hc9))
      exact fun c hc9 => (m_X12_seatsAll_b_32 hF  zN _ _ hf c hc9).trans (fr c hc9)
    · skip
      cases hf
      exact fr
theorem m_X12_seatsAll : ∀ (d : Nat) (h : zH) (x1 : Int32) (x2 : Int32) (q : Int32 × zH), f_X12_seatsAll d x1 x2 h = some q → ∀ c, c ∉ md_X12_seatsAll → q.2 c = h c := by
  intro d
  induction d with
  | zero => intro h x1 x2 q hf; cases hf
  | succ d ih => intro h x1 x2 q hf; exact m_X12_seatsAll_b ih h x1 x2 hf
end
section
abbrev md_X12_seating : List Nat := [100, 101, 104, 108, 109, 114, 115]
theorem sm_X12_seating_X12_isIn : ∀ c ∈ md_X12_isIn, c ∈ md_X12_seating := by decide
theorem sm_X12_seating_X12_laysSeats : ∀ c ∈ md_X12_laysSeats, c ∈ md_X12_seating := by decide
theorem sm_X12_seating_X12_sits : ∀ c ∈ md_X12_sits, c ∈ md_X12_seating := by decide
theorem sm_X12_seating_X12_seatsAll : ∀ c ∈ md_X12_seatsAll, c ∈ md_X12_seating := by decide
theorem sm_X12_seating_X12_backToSeats : ∀ c ∈ md_X12_backToSeats, c ∈ md_X12_seating := by decide
variable {q : Int32 × zH}
theorem m_X12_seating_34   : ∀ (h0 : zH), f_X12_seating_34  h0 = some q → ∀ c, c ∉ md_X12_seating → q.2 c = h0 c := by
  intro h hf
  unfold f_X12_seating_34 at hf
  have fr : ∀ c, c ∉ md_X12_seating → h c = h c := fun _ _ => rfl
  cases hf
  exact fr
theorem m_X12_seating_36   : ∀ (h0 : zH) (x1 : Int32) (x2 : Int32), f_X12_seating_36  x1 x2 h0 = some q → ∀ c, c ∉ md_X12_seating → q.2 c = h0 c := by
  intro h x1 x2 hf
  unfold f_X12_seating_36 at hf
  have fr : ∀ c, c ∉ md_X12_seating → h c = h c := fun _ _ => rfl
  obtain ⟨y4, ey4, hf⟩ := zlt_some hf
  obtain ⟨r5, h6, er5, hf⟩ := zbd_some hf
  have fr : ∀ c, c ∉ md_X12_seating → h6 c = h c := fun c hc9 => (m_X12_laysSeats _ er5 c (fun z => hc9 (sm_X12_seating_X12_laysSeats c z))).trans (fr c hc9)
  obtain ⟨h7, eh7, hf⟩ := zst_some hf
  have fr : ∀ c, c ∉ md_X12_seating → h7 c = h c := fun c hc9 => (congrFun eh7 c).trans ((zup_ne c (fun z => hc9 (by rw [z]; decide))).trans (fr c hc9))
  obtain ⟨h8, eh8, hf⟩ := zst_some hf
  have fr : ∀ c, c ∉ md_X12_seating → h8 c = h c := fun c hc9 => (congrFun eh8 c).trans ((zup_ne c (fun z => hc9 (by rw [z]; decide))).trans (fr c hc9))
  obtain ⟨r9, h10, er9, hf⟩ := zbd_some hf
  have fr : ∀ c, c ∉ md_X12_seating → h10 c = h c := fun c hc9 => (m_X12_sits _ _ _ er9 c (fun z => hc9 (sm_X12_seating_X12_sits c z))).trans (fr c hc9)
  obtain ⟨r11, h12, er11, hf⟩ := zbd_some hf
  have fr : ∀ c, c ∉ md_X12_seating → h12 c = h c := fun c hc9 => (m_X12_seatsAll 12 _ _ _ _ er11 c (fun z => hc9 (sm_X12_seating_X12_seatsAll c z))).trans (fr c hc9)
  obtain ⟨h13, eh13, hf⟩ := zst_some hf
  have fr : ∀ c, c ∉ md_X12_seating → h13 c = h c := fun c hc9 => (congrFun eh13 c).trans ((zup_ne c (fun z => hc9 (by rw [z]; decide))).trans (fr c hc9))
  obtain ⟨r14, h15, er14, hf⟩ := zbd_some hf
  have fr : ∀ c, c ∉ md_X12_seating → h15 c = h c := fun c hc9 => (m_X12_backToSeats _ er14 c (fun z => hc9 (sm_X12_seating_X12_backToSeats c z))).trans (fr c hc9)
  rcases zif_n hf with ⟨hc, hf⟩ | ⟨hc, hf⟩
  · skip
    obtain ⟨hi, hf⟩ := zck_some hf
    cases hf
    exact fr
  · skip
    cases hf
    exact fr
theorem m_X12_seating : ∀ (h0 : zH) (x1 : Int32) {q : Int32 × zH}, f_X12_seating x1 h0 = some q → ∀ c, c ∉ md_X12_seating → q.2 c = h0 c := by
  intro h x1 q hf
  unfold f_X12_seating at hf
  have fr : ∀ c, c ∉ md_X12_seating → h c = h c := fun _ _ => rfl
  obtain ⟨y1, ey1, hf⟩ := zlt_some hf
  obtain ⟨r2, h3, er2, hf⟩ := zbd_some hf
  have fr : ∀ c, c ∉ md_X12_seating → h3 c = h c := fun c hc9 => (m_X12_isIn _ _ _ _ er2 c (fun z => hc9 (sm_X12_seating_X12_isIn c z))).trans (fr c hc9)
  rcases zif_c hf with ⟨hc, hf⟩ | ⟨hc, hf⟩
  · skip
    exact fun c hc9 => (m_X12_seating_34  _ hf c hc9).trans (fr c hc9)
  · skip
    rcases zif_c hf with ⟨hc, hf⟩ | ⟨hc, hf⟩
    · skip
      exact fun c hc9 => (m_X12_seating_36  _ _ _ hf c hc9).trans (fr c hc9)
    · skip
      obtain ⟨r16, h17, er16, hf⟩ := zbd_some hf
      have fr : ∀ c, c ∉ md_X12_seating → h17 c = h c := fun c hc9 => (m_X12_isIn _ _ _ _ er16 c (fun z => hc9 (sm_X12_seating_X12_isIn c z))).trans (fr c hc9)
      rcases zif_n hf with ⟨hc, hf⟩ | ⟨hc, hf⟩
      · skip
        exact fun c hc9 => (m_X12_seating_36  _ _ _ hf c hc9).trans (fr c hc9)
      · skip
        exact fun c hc9 => (m_X12_seating_34  _ hf c hc9).trans (fr c hc9)
end
section
abbrev md_X12_image : List Nat := [100, 101, 102]
theorem sm_X12_image_X12_forgets : ∀ c ∈ md_X12_forgets, c ∈ md_X12_image := by decide
variable {q : Int32 × zH}
theorem m_X12_image_67   : ∀ (h0 : zH), f_X12_image_67  h0 = some q → ∀ c, c ∉ md_X12_image → q.2 c = h0 c := by
  intro h hf
  unfold f_X12_image_67 at hf
  have fr : ∀ c, c ∉ md_X12_image → h c = h c := fun _ _ => rfl
  obtain ⟨h1, eh1, hf⟩ := zst_some hf
  have fr : ∀ c, c ∉ md_X12_image → h1 c = h c := fun c hc9 => (congrFun eh1 c).trans ((zup_ne c (fun z => hc9 (by rw [z]; decide))).trans (fr c hc9))
  cases hf
  exact fr
theorem m_X12_image_53 {k15 : Int32 → Int32 → zH → zR} (hk15 : ∀ (h0 : zH) (x1 : Int32) (x2 : Int32), k15 x1 x2 h0 = some q → ∀ c, c ∉ md_X12_image → q.2 c = h0 c) : ∀ (h0 : zH) (x1 : Int32) (x2 : Int32), f_X12_image_53 k15 x1 x2 h0 = some q → ∀ c, c ∉ md_X12_image → q.2 c = h0 c := by
  intro h x1 x2 hf
  unfold f_X12_image_53 at hf
  have fr : ∀ c, c ∉ md_X12_image → h c = h c := fun _ _ => rfl
  obtain ⟨y5, ey5, hf⟩ := zlt_some hf
  exact fun c hc9 => (hk15 _ _ _ hf c hc9).trans (fr c hc9)
theorem m_X12_image_15   : ∀ n, ∀ (h0 : zH) (x1 : Int32) (x2 : Int32), f_X12_image_15  n x1 x2 h0 = some q → ∀ c, c ∉ md_X12_image → q.2 c = h0 c := by
  intro n
  induction n with
  | zero => intro h x1 x2 hf; cases hf
  | succ n ih =>
    intro h x1 x2 hf
    rw [f_X12_image_15] at hf
    have fr : ∀ c, c ∉ md_X12_image → h c = h c := fun _ _ => rfl
    rcases zif_c hf with ⟨hc, hf⟩ | ⟨hc, hf⟩
    · skip
      rcases zif_n hf with ⟨hc, hf⟩ | ⟨hc, hf⟩
      · skip
        exact fun c hc9 => (m_X12_image_67  _ hf c hc9).trans (fr c hc9)
      · skip
        obtain ⟨r2, h3, er2, hf⟩ := zbd_some hf
        have fr : ∀ c, c ∉ md_X12_image → h3 c = h c := fun c hc9 => (m_X12_forgets _ er2 c (fun z => hc9 (sm_X12_image_X12_forgets c z))).trans (fr c hc9)
        exact fun c hc9 => (m_X12_image_67  _ hf c hc9).trans (fr c hc9)
    · skip
      rcases zif_c hf with ⟨hc, hf⟩ | ⟨hc, hf⟩
      · skip
        obtain ⟨hi, hf⟩ := zck_some hf
        obtain ⟨hi, hf⟩ := zck_some hf
        obtain ⟨h4, eh4, hf⟩ := zst_some hf
        have fr : ∀ c, c ∉ md_X12_image → h4 c = h c := fun c hc9 => (congrFun eh4 c).trans ((zup_ne c (fun z => hc9 (by rw [z]; decide))).trans (fr c hc9))
        exact fun c hc9 => (m_X12_image_53 ih _ _ _ hf c hc9).trans (fr c hc9)
      · skip
        obtain ⟨hi, hf⟩ := zck_some hf
        obtain ⟨hi, hf⟩ := zck_some hf
        obtain ⟨h6, eh6, hf⟩ := zst_some hf
        have fr : ∀ c, c ∉ md_X12_image → h6 c = h c := fun c hc9 => (congrFun eh6 c).trans ((zup_ne c (fun z => hc9 (by rw [z]; decide))).trans (fr c hc9))
        exact fun c hc9 => (m_X12_image_53 ih _ _ _ hf c hc9).trans (fr c hc9)
theorem m_X12_image_13   : ∀ (h0 : zH) (x1 : Int32), f_X12_image_13  x1 h0 = some q → ∀ c, c ∉ md_X12_image → q.2 c = h0 c := by
  intro h x1 hf
  unfold f_X12_image_13 at hf
  have fr : ∀ c, c ∉ md_X12_image → h c = h c := fun _ _ => rfl
  exact fun c hc9 => (m_X12_image_15  zN _ _ _ hf c hc9).trans (fr c hc9)
theorem m_X12_image : ∀ (h0 : zH) (x1 : Int32) {q : Int32 × zH}, f_X12_image x1 h0 = some q → ∀ c, c ∉ md_X12_image → q.2 c = h0 c := by
  intro h x1 q hf
  unfold f_X12_image at hf
  have fr : ∀ c, c ∉ md_X12_image → h c = h c := fun _ _ => rfl
  rcases zif_n hf with ⟨hc, hf⟩ | ⟨hc, hf⟩
  · skip
    exact fun c hc9 => (m_X12_image_13  _ _ hf c hc9).trans (fr c hc9)
  · skip
    rcases zif_n hf with ⟨hc, hf⟩ | ⟨hc, hf⟩
    · skip
      exact fun c hc9 => (m_X12_image_13  _ _ hf c hc9).trans (fr c hc9)
    · skip
      cases hf
      exact fr
end
section
abbrev md_X9_layFor_t56 : List Nat := [56, 58, 59]
variable {q : Int32 × zH}
theorem m_X9_layFor_t56_28   : ∀ n, ∀ (h0 : zH) (x2 : Int32), f_X9_layFor_t56_28  n x2 h0 = some q → ∀ c, c ∉ md_X9_layFor_t56 → q.2 c = h0 c := by
  intro n
  induction n with
  | zero => intro h x2 hf; cases hf
  | succ n ih =>
    intro h x2 hf
    rw [f_X9_layFor_t56_28] at hf
    have fr : ∀ c, c ∉ md_X9_layFor_t56 → h c = h c := fun _ _ => rfl
    rcases zif_c hf with ⟨hc, hf⟩ | ⟨hc, hf⟩
    · skip
      cases hf
      exact fr
    · skip
      obtain ⟨hi, hf⟩ := zck_some hf
      obtain ⟨h2, eh2, hf⟩ := zst_some hf
      have fr : ∀ c, c ∉ md_X9_layFor_t56 → h2 c = h c := fun c hc9 => (congrFun eh2 c).trans ((zup_ne c (fun z => hc9 (by rw [z]; decide))).trans (fr c hc9))
      obtain ⟨y3, ey3, hf⟩ := zlt_some hf
      exact fun c hc9 => (ih _ _ hf c hc9).trans (fr c hc9)
theorem m_X9_layFor_t56_7   : ∀ n, ∀ (h0 : zH) (x2 : Int32), f_X9_layFor_t56_7  n x2 h0 = some q → ∀ c, c ∉ md_X9_layFor_t56 → q.2 c = h0 c := by
  intro n
  induction n with
  | zero => intro h x2 hf; cases hf
  | succ n ih =>
    intro h x2 hf
    rw [f_X9_layFor_t56_7] at hf
    have fr : ∀ c, c ∉ md_X9_layFor_t56 → h c = h c := fun _ _ => rfl
    rcases zif_c hf with ⟨hc, hf⟩ | ⟨hc, hf⟩
    · skip
      exact fun c hc9 => (m_X9_layFor_t56_28  zN _ _ hf c hc9).trans (fr c hc9)
    · skip
      obtain ⟨hi, hf⟩ := zck_some hf
      obtain ⟨h4, eh4, hf⟩ := zst_some hf
      have fr : ∀ c, c ∉ md_X9_layFor_t56 → h4 c = h c := fun c hc9 => (congrFun eh4 c).trans ((zup_ne c (fun z => hc9 (by rw [z]; decide))).trans (fr c hc9))
      obtain ⟨y5, ey5, hf⟩ := zlt_some hf
      exact fun c hc9 => (ih _ _ hf c hc9).trans (fr c hc9)
theorem m_X9_layFor_t56 : ∀ (h0 : zH) (x1 : Int32) {q : Int32 × zH}, f_X9_layFor_t56 x1 h0 = some q → ∀ c, c ∉ md_X9_layFor_t56 → q.2 c = h0 c := by
  intro h x1 q hf
  unfold f_X9_layFor_t56 at hf
  have fr : ∀ c, c ∉ md_X9_layFor_t56 → h c = h c := fun _ _ => rfl
  obtain ⟨h1, eh1, hf⟩ := zst_some hf
  have fr : ∀ c, c ∉ md_X9_layFor_t56 → h1 c = h c := fun c hc9 => (congrFun eh1 c).trans ((zup_ne c (fun z => hc9 (by rw [z]; decide))).trans (fr c hc9))
  exact fun c hc9 => (m_X9_layFor_t56_7  zN _ _ hf c hc9).trans (fr c hc9)
end
