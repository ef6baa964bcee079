section
abbrev md_X10_judge : List Nat := [80]
theorem sm_X10_judge_X10_areAlike : ∀ c ∈ md_X10_areAlike, c ∈ md_X10_judge := by decide
variable {q : Int32 × zH}
theorem m_X10_judge_76   : ∀ (h0 : zH) (s0 : Int32), f_X10_judge_76  s0 h0 = some q → ∀ c, c ∉ md_X10_judge → q.2 c = h0 c := by
  intro h s0 hf
  unfold f_X10_judge_76 at hf
  have fr : ∀ c, c ∉ md_X10_judge → h c = h c := fun _ _ => rfl
  obtain ⟨h8, eh8, hf⟩ := zst_some hf
  have fr : ∀ c, c ∉ md_X10_judge → h8 c = h c := fun c hc9 => (congrFun eh8 c).trans ((zup_ne c (fun z => hc9 (by rw [z]; decide))).trans (fr c hc9))
  cases hf
  exact fr
theorem m_X10_judge_60   : ∀ (h0 : zH) (x2 : Int32) (x3 : Int32) (x4 : Int32) (s0 : Int32), f_X10_judge_60  x2 x3 x4 s0 h0 = some q → ∀ c, c ∉ md_X10_judge → q.2 c = h0 c := by
  intro h x2 x3 x4 s0 hf
  unfold f_X10_judge_60 at hf
  have fr : ∀ c, c ∉ md_X10_judge → h c = h c := fun _ _ => rfl
  obtain ⟨h7, eh7, hf⟩ := zst_some hf
  have fr : ∀ c, c ∉ md_X10_judge → h7 c = h c := fun c hc9 => (congrFun eh7 c).trans ((zup_ne c (fun z => hc9 (by rw [z]; decide))).trans (fr c hc9))
  rcases zif_c hf with ⟨hc, hf⟩ | ⟨hc, hf⟩
  · skip
    exact fun c hc9 => (m_X10_judge_76  _ _ hf c hc9).trans (fr c hc9)
  · skip
    exact fun c hc9 => (m_X10_judge_76  _ _ hf c hc9).trans (fr c hc9)
theorem m_X10_judge_47   : ∀ (h0 : zH) (x2 : Int32) (x3 : Int32) (s0 : Int32), f_X10_judge_47  x2 x3 s0 h0 = some q → ∀ c, c ∉ md_X10_judge → q.2 c = h0 c := by
  intro h x2 x3 s0 hf
  unfold f_X10_judge_47 at hf
  have fr : ∀ c, c ∉ md_X10_judge → h c = h c := fun _ _ => rfl
  rcases zif_c hf with ⟨hc, hf⟩ | ⟨hc, hf⟩
  · skip
    exact fun c hc9 => (m_X10_judge_60  _ _ _ _ _ hf c hc9).trans (fr c hc9)
  · skip
    exact fun c hc9 => (m_X10_judge_60  _ _ _ _ _ hf c hc9).trans (fr c hc9)
theorem m_X10_judge_20 {k12 : Int32 → Int32 → zH → zR} (hk12 : ∀ (h0 : zH) (x1 : Int32) (x2 : Int32), k12 x1 x2 h0 = some q → ∀ c, c ∉ md_X10_judge → q.2 c = h0 c) : ∀ n, ∀ (h0 : zH) (x1 : Int32) (x2 : Int32) (x3 : Int32), f_X10_judge_20 k12 n x1 x2 x3 h0 = some q → ∀ c, c ∉ md_X10_judge → q.2 c = h0 c := by
  intro n
  induction n with
  | zero => intro h x1 x2 x3 hf; cases hf
  | succ n ih =>
    intro h x1 x2 x3 hf
    rw [f_X10_judge_20] at hf
    have fr : ∀ c, c ∉ md_X10_judge → h c = h c := fun _ _ => rfl
    rcases zif_c hf with ⟨hc, hf⟩ | ⟨hc, hf⟩
    · skip
      obtain ⟨y3, ey3, hf⟩ := zlt_some hf
      exact fun c hc9 => (hk12 _ _ _ hf c hc9).trans (fr c hc9)
    · skip
      obtain ⟨r4, h5, er4, hf⟩ := zbd_some hf
      have fr : ∀ c, c ∉ md_X10_judge → h5 c = h c := fun c hc9 => (m_X10_areAlike _ _ _ _ er4 c (fun z => hc9 (sm_X10_judge_X10_areAlike c z))).trans (fr c hc9)
      rcases zif_c hf with ⟨hc, hf⟩ | ⟨hc, hf⟩
      · skip
        obtain ⟨y6, ey6, hf⟩ := zlt_some hf
        exact fun c hc9 => (ih _ _ _ _ hf c hc9).trans (fr c hc9)
      · skip
        rcases zif_n hf with ⟨hc, hf⟩ | ⟨hc, hf⟩
        · skip
          exact fun c hc9 => (m_X10_judge_47  _ _ _ _ hf c hc9).trans (fr c hc9)
        · skip
          exact fun c hc9 => (m_X10_judge_47  _ _ _ _ hf c hc9).trans (fr c hc9)
theorem m_X10_judge_12   : ∀ n, ∀ (h0 : zH) (x1 : Int32) (x2 : Int32), f_X10_judge_12  n x1 x2 h0 = some q → ∀ c, c ∉ md_X10_judge → q.2 c = h0 c := by
  intro n
  induction n with
  | zero => intro h x1 x2 hf; cases hf
  | succ n ih =>
    intro h x1 x2 hf
    rw [f_X10_judge_12] at hf
    have fr : ∀ c, c ∉ md_X10_judge → h c = h c := fun _ _ => rfl
    rcases zif_c hf with ⟨hc, hf⟩ | ⟨hc, hf⟩
    · skip
      cases hf
      exact fr
    · skip
      exact fun c hc9 => (m_X10_judge_20 ih zN _ _ _ _ hf c hc9).trans (fr c hc9)
theorem m_X10_judge : ∀ (h0 : zH) (x1 : Int32) {q : Int32 × zH}, f_X10_judge x1 h0 = some q → ∀ c, c ∉ md_X10_judge → q.2 c = h0 c := by
  intro h x1 q hf
  unfold f_X10_judge at hf
  have fr : ∀ c, c ∉ md_X10_judge → h c = h c := fun _ _ => rfl
  obtain ⟨h1, eh1, hf⟩ := zst_some hf
  have fr : ∀ c, c ∉ md_X10_judge → h1 c = h c := fun c hc9 => (congrFun eh1 c).trans ((zup_ne c (fun z => hc9 (by rw [z]; decide))).trans (fr c hc9))
  obtain ⟨h2, eh2, hf⟩ := zst_some hf
  have fr : ∀ c, c ∉ md_X10_judge → h2 c = h c := fun c hc9 => (congrFun eh2 c).trans ((zup_ne c (fun z => hc9 (by rw [z]; decide))).trans (fr c hc9))
  exact fun c hc9 => (m_X10_judge_12  zN _ _ _ hf c hc9).trans (fr c hc9)
end
section
abbrev md_X10_greatest_r2 : List Nat := []
theorem sm_X10_greatest_r2_X11_pairOf : ∀ c ∈ md_X11_pairOf, c ∈ md_X10_greatest_r2 := by decide
variable {q : Int32 × zH}
theorem m_X10_greatest_r2_59 {k6 : Int32 → Int32 → Int32 → Int32 → zH → zR} (hk6 : ∀ (h0 : zH) (x2 : Int32) (x3 : Int32) (x4 : Int32) (x5 : Int32), k6 x2 x3 x4 x5 h0 = some q → ∀ c, c ∉ md_X10_greatest_r2 → q.2 c = h0 c) : ∀ (h0 : zH) (x2 : Int32) (x3 : Int32) (x4 : Int32) (x5 : Int32), f_X10_greatest_r2_59 k6 x2 x3 x4 x5 h0 = some q → ∀ c, c ∉ md_X10_greatest_r2 → q.2 c = h0 c := by
  intro h x2 x3 x4 x5 hf
  unfold f_X10_greatest_r2_59 at hf
  have fr : ∀ c, c ∉ md_X10_greatest_r2 → h c = h c := fun _ _ => rfl
  obtain ⟨y1, ey1, hf⟩ := zlt_some hf
  exact fun c hc9 => (hk6 _ _ _ _ _ hf c hc9).trans (fr c hc9)
theorem m_X10_greatest_r2_6   : ∀ n, ∀ (h0 : zH) (x2 : Int32) (x3 : Int32) (x4 : Int32) (x5 : Int32), f_X10_greatest_r2_6  n x2 x3 x4 x5 h0 = some q → ∀ c, c ∉ md_X10_greatest_r2 → q.2 c = h0 c := by
  intro n
  induction n with
  | zero => intro h x2 x3 x4 x5 hf; cases hf
  | succ n ih =>
    intro h x2 x3 x4 x5 hf
    rw [f_X10_greatest_r2_6] at hf
    have fr : ∀ c, c ∉ md_X10_greatest_r2 → h c = h c := fun _ _ => rfl
    rcases zif_c hf with ⟨hc, hf⟩ | ⟨hc, hf⟩
    · skip
      cases hf
      exact fr
    · skip
      obtain ⟨hi, hf⟩ := zck_some hf
      obtain ⟨hi, hf⟩ := zck_some hf
      rcases zif_c hf with ⟨hc, hf⟩ | ⟨hc, hf⟩
      · skip
        exact fun c hc9 => (m_X10_greatest_r2_59 ih _ _ _ _ _ hf c hc9).trans (fr c hc9)
      · skip
        obtain ⟨r2, h3, er2, hf⟩ := zbd_some hf
        have fr : ∀ c, c ∉ md_X10_greatest_r2 → h3 c = h c := fun c hc9 => (m_X11_pairOf _ _ _ er2 c (fun z => hc9 (sm_X10_greatest_r2_X11_pairOf c z))).trans (fr c hc9)
        obtain ⟨hi, hf⟩ := zck_some hf
        obtain ⟨hi, hf⟩ := zck_some hf
        obtain ⟨y4, ey4, hf⟩ := zlt_some hf
        exact fun c hc9 => (m_X10_greatest_r2_59 ih _ _ _ _ _ hf c hc9).trans (fr c hc9)
theorem m_X10_greatest_r2 : ∀ (h0 : zH) (x2 : Int32) (x3 : Int32) {q : Int32 × zH}, f_X10_greatest_r2 x2 x3 h0 = some q → ∀ c, c ∉ md_X10_greatest_r2 → q.2 c = h0 c := by
  intro h x2 x3 q hf
  unfold f_X10_greatest_r2 at hf
  have fr : ∀ c, c ∉ md_X10_greatest_r2 → h c = h c := fun _ _ => rfl
  exact fun c hc9 => (m_X10_greatest_r2_6  zN _ _ _ _ _ hf c hc9).trans (fr c hc9)
end
section
abbrev md_X10_solve_r1 : List Nat := [19, 21, 80, 81, 82]
theorem sm_X10_solve_r1_X10_judge : ∀ c ∈ md_X10_judge, c ∈ md_X10_solve_r1 := by decide
theorem sm_X10_solve_r1_X10_greatest_r2 : ∀ c ∈ md_X10_greatest_r2, c ∈ md_X10_solve_r1 := by decide
theorem sm_X10_solve_r1_X4_laughOf : ∀ c ∈ md_X4_laughOf, c ∈ md_X10_solve_r1 := by decide
theorem sm_X10_solve_r1_X11_pairOf : ∀ c ∈ md_X11_pairOf, c ∈ md_X10_solve_r1 := by decide
variable {q : Int32 × zH}
theorem m_X10_solve_r1_118 {k109 : Int32 → zH → zR} (hk109 : ∀ (h0 : zH) (x3 : Int32), k109 x3 h0 = some q → ∀ c, c ∉ md_X10_solve_r1 → q.2 c = h0 c) : ∀ n, ∀ (h0 : zH) (x3 : Int32) (x4 : Int32), f_X10_solve_r1_118 k109 n x3 x4 h0 = some q → ∀ c, c ∉ md_X10_solve_r1 → q.2 c = h0 c := by
  intro n
  induction n with
  | zero => intro h x3 x4 hf; cases hf
  | succ n ih =>
    intro h x3 x4 hf
    rw [f_X10_solve_r1_118] at hf
    have fr : ∀ c, c ∉ md_X10_solve_r1 → h c = h c := fun _ _ => rfl
    rcases zif_c hf with ⟨hc, hf⟩ | ⟨hc, hf⟩
    · skip
      obtain ⟨y3, ey3, hf⟩ := zlt_some hf
      exact fun c hc9 => (hk109 _ _ hf c hc9).trans (fr c hc9)
    · skip
      obtain ⟨r4, h5, er4, hf⟩ := zbd_some hf
      have fr : ∀ c, c ∉ md_X10_solve_r1 → h5 c = h c := fun c hc9 => (m_X10_greatest_r2 _ _ _ er4 c (fun z => hc9 (sm_X10_solve_r1_X10_greatest_r2 c z))).trans (fr c hc9)
      obtain ⟨hi, hf⟩ := zck_some hf
      obtain ⟨h6, eh6, hf⟩ := zst_some hf
      have fr : ∀ c, c ∉ md_X10_solve_r1 → h6 c = h c := fun c hc9 => (congrFun eh6 c).trans ((zup_ne c (fun z => hc9 (by rw [z]; decide))).trans (fr c hc9))
      obtain ⟨y7, ey7, hf⟩ := zlt_some hf
      exact fun c hc9 => (ih _ _ _ hf c hc9).trans (fr c hc9)
theorem m_X10_solve_r1_109   : ∀ n, ∀ (h0 : zH) (x3 : Int32), f_X10_solve_r1_109  n x3 h0 = some q → ∀ c, c ∉ md_X10_solve_r1 → q.2 c = h0 c := by
  intro n
  induction n with
  | zero => intro h x3 hf; cases hf
  | succ n ih =>
    intro h x3 hf
    rw [f_X10_solve_r1_109] at hf
    have fr : ∀ c, c ∉ md_X10_solve_r1 → h c = h c := fun _ _ => rfl
    rcases zif_c hf with ⟨hc, hf⟩ | ⟨hc, hf⟩
    · skip
      obtain ⟨r1, h2, er1, hf⟩ := zbd_some hf
      have fr : ∀ c, c ∉ md_X10_solve_r1 → h2 c = h c := fun c hc9 => (m_X10_judge _ _ er1 c (fun z => hc9 (sm_X10_solve_r1_X10_judge c z))).trans (fr c hc9)
      cases hf
      exact fr
    · skip
      exact fun c hc9 => (m_X10_solve_r1_118 ih zN _ _ _ hf c hc9).trans (fr c hc9)
theorem m_X10_solve_r1_95 {k7 : Int32 → zH → zR} {k30 : Int32 → Int32 → zH → zR} (hk7 : ∀ (h0 : zH) (x3 : Int32), k7 x3 h0 = some q → ∀ c, c ∉ md_X10_solve_r1 → q.2 c = h0 c) (hk30 : ∀ (h0 : zH) (x3 : Int32) (x4 : Int32), k30 x3 x4 h0 = some q → ∀ c, c ∉ md_X10_solve_r1 → q.2 c = h0 c) : ∀ (h0 : zH) (x3 : Int32) (x4 : Int32), f_X10_solve_r1_95 k7 k30 x3 x4 h0 = some q → ∀ c, c ∉ md_X10_solve_r1 → q.2 c = h0 c := by
  intro h x3 x4 hf
  unfold f_X10_solve_r1_95 at hf
  have fr : ∀ c, c ∉ md_X10_solve_r1 → h c = h c := fun _ _ => rfl
  obtain ⟨y10, ey10, hf⟩ := zlt_some hf
  exact fun c hc9 => (hk30 _ _ _ hf c hc9).trans (fr c hc9)
theorem m_X10_solve_r1_30 {k7 : Int32 → zH → zR} (hk7 : ∀ (h0 : zH) (x3 : Int32), k7 x3 h0 = some q → ∀ c, c ∉ md_X10_solve_r1 → q.2 c = h0 c) : ∀ n, ∀ (h0 : zH) (x3 : Int32) (x4 : Int32), f_X10_solve_r1_30 k7 n x3 x4 h0 = some q → ∀ c, c ∉ md_X10_solve_r1 → q.2 c = h0 c := by
  intro n
  induction n with
  | zero => intro h x3 x4 hf; cases hf
  | succ n ih =>
    intro h x3 x4 hf
    rw [f_X10_solve_r1_30] at hf
    have fr : ∀ c, c ∉ md_X10_solve_r1 → h c = h c := fun _ _ => rfl
    rcases zif_c hf with ⟨hc, hf⟩ | ⟨hc, hf⟩
    · skip
      obtain ⟨y9, ey9, hf⟩ := zlt_some hf
      exact fun c hc9 => (hk7 _ _ hf c hc9).trans (fr c hc9)
    · skip
      obtain ⟨hi, hf⟩ := zck_some hf
      rcases zif_n hf with ⟨hc, hf⟩ | ⟨hc, hf⟩
      · skip
        exact fun c hc9 => (m_X10_solve_r1_95 hk7 ih _ _ _ hf c hc9).trans (fr c hc9)
      · skip
        obtain ⟨hi, hf⟩ := zck_some hf
        rcases zif_n hf with ⟨hc, hf⟩ | ⟨hc, hf⟩
        · skip
          exact fun c hc9 => (m_X10_solve_r1_95 hk7 ih _ _ _ hf c hc9).trans (fr c hc9)
        · skip
          obtain ⟨r11, h12, er11, hf⟩ := zbd_some hf
          have fr : ∀ c, c ∉ md_X10_solve_r1 → h12 c = h c := fun c hc9 => (m_X4_laughOf _ _ _ _ er11 c (fun z => hc9 (sm_X10_solve_r1_X4_laughOf c z))).trans (fr c hc9)
          obtain ⟨r13, h14, er13, hf⟩ := zbd_some hf
          have fr : ∀ c, c ∉ md_X10_solve_r1 → h14 c = h c := fun c hc9 => (m_X11_pairOf _ _ _ er13 c (fun z => hc9 (sm_X10_solve_r1_X11_pairOf c z))).trans (fr c hc9)
          obtain ⟨hi, hf⟩ := zck_some hf
          obtain ⟨h15, eh15, hf⟩ := zst_some hf
          have fr : ∀ c, c ∉ md_X10_solve_r1 → h15 c = h c := fun c hc9 => (congrFun eh15 c).trans ((zup_ne c (fun z => hc9 (by rw [z]; decide))).trans (fr c hc9))
          obtain ⟨r16, h17, er16, hf⟩ := zbd_some hf
          have fr : ∀ c, c ∉ md_X10_solve_r1 → h17 c = h c := fun c hc9 => (m_X11_pairOf _ _ _ er16 c (fun z => hc9 (sm_X10_solve_r1_X11_pairOf c z))).trans (fr c hc9)
          obtain ⟨hi, hf⟩ := zck_some hf
          obtain ⟨h18, eh18, hf⟩ := zst_some hf
          have fr : ∀ c, c ∉ md_X10_solve_r1 → h18 c = h c := fun c hc9 => (congrFun eh18 c).trans ((zup_ne c (fun z => hc9 (by rw [z]; decide))).trans (fr c hc9))
          exact fun c hc9 => (m_X10_solve_r1_95 hk7 ih _ _ _ hf c hc9).trans (fr c hc9)
theorem m_X10_solve_r1_7   : ∀ n, ∀ (h0 : zH) (x3 : Int32), f_X10_solve_r1_7  n x3 h0 = some q → ∀ c, c ∉ md_X10_solve_r1 → q.2 c = h0 c := by
  intro n
  induction n with
  | zero => intro h x3 hf; cases hf
  | succ n ih =>
    intro h x3 hf
    rw [f_X10_solve_r1_7] at hf
    have fr : ∀ c, c ∉ md_X10_solve_r1 → h c = h c := fun _ _ => rfl
    rcases zif_c hf with ⟨hc, hf⟩ | ⟨hc, hf⟩
    · skip
      exact fun c hc9 => (m_X10_solve_r1_109  zN _ _ hf c hc9).trans (fr c hc9)
    · skip
      obtain ⟨hi, hf⟩ := zck_some hf
      obtain ⟨hi, hf⟩ := zck_some hf
      obtain ⟨h8, eh8, hf⟩ := zst_some hf
      have fr : ∀ c, c ∉ md_X10_solve_r1 → h8 c = h c := fun c hc9 => (congrFun eh8 c).trans ((zup_ne c (fun z => hc9 (by rw [z]; decide))).trans (fr c hc9))
      exact fun c hc9 => (m_X10_solve_r1_30 ih zN _ _ _ hf c hc9).trans (fr c hc9)
theorem m_X10_solve_r1 : ∀ (h0 : zH) {q : Int32 × zH}, f_X10_solve_r1 h0 = some q → ∀ c, c ∉ md_X10_solve_r1 → q.2 c = h0 c := by
  intro h q hf
  unfold f_X10_solve_r1 at hf
  have fr : ∀ c, c ∉ md_X10_solve_r1 → h c = h c := fun _ _ => rfl
  exact fun c hc9 => (m_X10_solve_r1_7  zN _ _ hf c hc9).trans (fr c hc9)
end
section
abbrev md_X3_copyFrom_r51 : List Nat := [2, 3, 4, 5, 6]
variable {q : Int32 × zH}
theorem m_X3_copyFrom_r51 : ∀ (h0 : zH) {q : Int32 × zH}, f_X3_copyFrom_r51 h0 = some q → ∀ c, c ∉ md_X3_copyFrom_r51 → q.2 c = h0 c := by
  intro h q hf
  unfold f_X3_copyFrom_r51 at hf
  have fr : ∀ c, c ∉ md_X3_copyFrom_r51 → h c = h c := fun _ _ => rfl
  obtain ⟨hi, hf⟩ := zcc_some hf
  obtain ⟨h1, eh1, hf⟩ := zst_some hf
  have fr : ∀ c, c ∉ md_X3_copyFrom_r51 → h1 c = h c := fun c hc9 => (congrFun eh1 c).trans ((zcp_ne c (fun z => hc9 (by rw [z]; decide))).trans (fr c hc9))
  obtain ⟨hi, hf⟩ := zcc_some hf
  obtain ⟨h2, eh2, hf⟩ := zst_some hf
  have fr : ∀ c, c ∉ md_X3_copyFrom_r51 → h2 c = h c := fun c hc9 => (congrFun eh2 c).trans ((zcp_ne c (fun z => hc9 (by rw [z]; decide))).trans (fr c hc9))
  obtain ⟨hi, hf⟩ := zcc_some hf
  obtain ⟨h3, eh3, hf⟩ := zst_some hf
  have fr : ∀ c, c ∉ md_X3_copyFrom_r51 → h3 c = h c := fun c hc9 => (congrFun eh3 c).trans ((zcp_ne c (fun z => hc9 (by rw [z]; decide))).trans (fr c hc9))
  obtain ⟨hi, hf⟩ := zcc_some hf
  obtain ⟨h4, eh4, hf⟩ := zst_some hf
  have fr : ∀ c, c ∉ md_X3_copyFrom_r51 → h4 c = h c := fun c hc9 => (congrFun eh4 c).trans ((zcp_ne c (fun z => hc9 (by rw [z]; decide))).trans (fr c hc9))
  obtain ⟨h5, eh5, hf⟩ := zst_some hf
  have fr : ∀ c, c ∉ md_X3_copyFrom_r51 → h5 c = h c := fun c hc9 => (congrFun eh5 c).trans ((zup_ne c (fun z => hc9 (by rw [z]; decide))).trans (fr c hc9))
  cases hf
  exact fr
end
section
abbrev md_X9_copyFrom_r56 : List Nat := [7, 8, 9, 10]
variable {q : Int32 × zH}
theorem m_X9_copyFrom_r56 : ∀ (h0 : zH) {q : Int32 × zH}, f_X9_copyFrom_r56 h0 = some q → ∀ c, c ∉ md_X9_copyFrom_r56 → q.2 c = h0 c := by
  intro h q hf
  unfold f_X9_copyFrom_r56 at hf
  have fr : ∀ c, c ∉ md_X9_copyFrom_r56 → h c = h c := fun _ _ => rfl
  obtain ⟨hi, hf⟩ := zcc_some hf
  obtain ⟨h1, eh1, hf⟩ := zst_some hf
  have fr : ∀ c, c ∉ md_X9_copyFrom_r56 → h1 c = h c := fun c hc9 => (congrFun eh1 c).trans ((zcp_ne c (fun z => hc9 (by rw [z]; decide))).trans (fr c hc9))
  obtain ⟨hi, hf⟩ := zcc_some hf
  obtain ⟨h2, eh2, hf⟩ := zst_some hf
  have fr : ∀ c, c ∉ md_X9_copyFrom_r56 → h2 c = h c := fun c hc9 => (congrFun eh2 c).trans ((zcp_ne c (fun z => hc9 (by rw [z]; decide))).trans (fr c hc9))
  obtain ⟨hi, hf⟩ := zcc_some hf
  obtain ⟨h3, eh3, hf⟩ := zst_some hf
  have fr : ∀ c, c ∉ md_X9_copyFrom_r56 → h3 c = h c := fun c hc9 => (congrFun eh3 c).trans ((zcp_ne c (fun z => hc9 (by rw [z]; decide))).trans (fr c hc9))
  obtain ⟨h4, eh4, hf⟩ := zst_some hf
  have fr : ∀ c, c ∉ md_X9_copyFrom_r56 → h4 c = h c := fun c hc9 => (congrFun eh4 c).trans ((zup_ne c (fun z => hc9 (by rw [z]; decide))).trans (fr c hc9))
  obtain ⟨h5, eh5, hf⟩ := zst_some hf
  have fr : ∀ c, c ∉ md_X9_copyFrom_r56 → h5 c = h c := fun c hc9 => (congrFun eh5 c).trans ((zup_ne c (fun z => hc9 (by rw [z]; decide))).trans (fr c hc9))
  cases hf
  exact fr
end
section
abbrev md_X0_copyFrom_r60 : List Nat := [11, 12, 13, 14, 15]
variable {q : Int32 × zH}
theorem m_X0_copyFrom_r60 : ∀ (h0 : zH) {q : Int32 × zH}, f_X0_copyFrom_r60 h0 = some q → ∀ c, c ∉ md_X0_copyFrom_r60 → q.2 c = h0 c := by
  intro h q hf
  unfold f_X0_copyFrom_r60 at hf
  have fr : ∀ c, c ∉ md_X0_copyFrom_r60 → h c = h c := fun _ _ => rfl
  obtain ⟨hi, hf⟩ := zcc_some hf
  obtain ⟨h1, eh1, hf⟩ := zst_some hf
  have fr : ∀ c, c ∉ md_X0_copyFrom_r60 → h1 c = h c := fun c hc9 => (congrFun eh1 c).trans ((zcp_ne c (fun z => hc9 (by rw [z]; decide))).trans (fr c hc9))
  obtain ⟨hi, hf⟩ := zcc_some hf
  obtain ⟨h2, eh2, hf⟩ := zst_some hf
  have fr : ∀ c, c ∉ md_X0_copyFrom_r60 → h2 c = h c := fun c hc9 => (congrFun eh2 c).trans ((zcp_ne c (fun z => hc9 (by rw [z]; decide))).trans (fr c hc9))
  obtain ⟨hi, hf⟩ := zcc_some hf
  obtain ⟨h3, eh3, hf⟩ := zst_some hf
  have fr : ∀ c, c ∉ md_X0_copyFrom_r60 → h3 c = h c := fun c hc9 => (congrFun eh3 c).trans ((zcp_ne c (fun z => hc9 (by rw [z]; decide))).trans (fr c hc9))
  obtain ⟨hi, hf⟩ := zcc_some hf
  obtain ⟨h4, eh4, hf⟩ := zst_some hf
  have fr : ∀ c, c ∉ md_X0_copyFrom_r60 → h4 c = h c := fun c hc9 => (congrFun eh4 c).trans ((zcp_ne c (fun z => hc9 (by rw [z]; decide))).trans (fr c hc9))
  obtain ⟨h5, eh5, hf⟩ := zst_some hf
  have fr : ∀ c, c ∉ md_X0_copyFrom_r60 → h5 c = h c := fun c hc9 => (congrFun eh5 c).trans ((zup_ne c (fun z => hc9 (by rw [z]; decide))).trans (fr c hc9))
  obtain ⟨h6, eh6, hf⟩ := zst_some hf
  have fr : ∀ c, c ∉ md_X0_copyFrom_r60 → h6 c = h c := fun c hc9 => (congrFun eh6 c).trans ((zup_ne c (fun z => hc9 (by rw [z]; decide))).trans (fr c hc9))
  cases hf
  exact fr
end
section
abbrev md_X5_copyFrom_r65 : List Nat := [16, 17, 18]
variable {q : Int32 × zH}
theorem m_X5_copyFrom_r65 : ∀ (h0 : zH) {q : Int32 × zH}, f_X5_copyFrom_r65 h0 = some q → ∀ c, c ∉ md_X5_copyFrom_r65 → q.2 c = h0 c := by
  intro h q hf
  unfold f_X5_copyFrom_r65 at hf
  have fr : ∀ c, c ∉ md_X5_copyFrom_r65 → h c = h c := fun _ _ => rfl
  obtain ⟨hi, hf⟩ := zcc_some hf
  obtain ⟨h1, eh1, hf⟩ := zst_some hf
  have fr : ∀ c, c ∉ md_X5_copyFrom_r65 → h1 c = h c := fun c hc9 => (congrFun eh1 c).trans ((zcp_ne c (fun z => hc9 (by rw [z]; decide))).trans (fr c hc9))
  obtain ⟨hi, hf⟩ := zcc_some hf
  obtain ⟨h2, eh2, hf⟩ := zst_some hf
  have fr : ∀ c, c ∉ md_X5_copyFrom_r65 → h2 c = h c := fun c hc9 => (congrFun eh2 c).trans ((zcp_ne c (fun z => hc9 (by rw [z]; decide))).trans (fr c hc9))
  obtain ⟨h3, eh3, hf⟩ := zst_some hf
  have fr : ∀ c, c ∉ md_X5_copyFrom_r65 → h3 c = h c := fun c hc9 => (congrFun eh3 c).trans ((zup_ne c (fun z => hc9 (by rw [z]; decide))).trans (fr c hc9))
  obtain ⟨h4, eh4, hf⟩ := zst_some hf
  have fr : ∀ c, c ∉ md_X5_copyFrom_r65 → h4 c = h c := fun c hc9 => (congrFun eh4 c).trans ((zup_ne c (fun z => hc9 (by rw [z]; decide))).trans (fr c hc9))
  cases hf
  exact fr
end
section
abbrev md_X4_copyFrom_r50 : List Nat := [1, 2, 3, 4, 5, 6, 7, 8, 9, 10, 11, 12, 13, 14, 15, 16, 17, 18, 20]
theorem sm_X4_copyFrom_r50_X3_copyFrom_r51 : ∀ c ∈ md_X3_copyFrom_r51, c ∈ md_X4_copyFrom_r50 := by decide
theorem sm_X4_copyFrom_r50_X9_copyFrom_r56 : ∀ c ∈ md_X9_copyFrom_r56, c ∈ md_X4_copyFrom_r50 := by decide
theorem sm_X4_copyFrom_r50_X0_copyFrom_r60 : ∀ c ∈ md_X0_copyFrom_r60, c ∈ md_X4_copyFrom_r50 := by decide
theorem sm_X4_copyFrom_r50_X5_copyFrom_r65 : ∀ c ∈ md_X5_copyFrom_r65, c ∈ md_X4_copyFrom_r50 := by decide
variable {q : Int32 × zH}
theorem m_X4_copyFrom_r50 : ∀ (h0 : zH) {q : Int32 × zH}, f_X4_copyFrom_r50 h0 = some q → ∀ c, c ∉ md_X4_copyFrom_r50 → q.2 c = h0 c := by
  intro h q hf
  unfold f_X4_copyFrom_r50 at hf
  have fr : ∀ c, c ∉ md_X4_copyFrom_r50 → h c = h c := fun _ _ => rfl
  obtain ⟨r1, h2, er1, hf⟩ := zbd_some hf
  have fr : ∀ c, c ∉ md_X4_copyFrom_r50 → h2 c = h c := fun c hc9 => (m_X3_copyFrom_r51 _ er1 c (fun z => hc9 (sm_X4_copyFrom_r50_X3_copyFrom_r51 c z))).trans (fr c hc9)
  obtain ⟨r3, h4, er3, hf⟩ := zbd_some hf
  have fr : ∀ c, c ∉ md_X4_copyFrom_r50 → h4 c = h c := fun c hc9 => (m_X9_copyFrom_r56 _ er3 c (fun z => hc9 (sm_X4_copyFrom_r50_X9_copyFrom_r56 c z))).trans (fr c hc9)
  obtain ⟨r5, h6, er5, hf⟩ := zbd_some hf
  have fr : ∀ c, c ∉ md_X4_copyFrom_r50 → h6 c = h c := fun c hc9 => (m_X0_copyFrom_r60 _ er5 c (fun z => hc9 (sm_X4_copyFrom_r50_X0_copyFrom_r60 c z))).trans (fr c hc9)
  obtain ⟨r7, h8, er7, hf⟩ := zbd_some hf
  have fr : ∀ c, c ∉ md_X4_copyFrom_r50 → h8 c = h c := fun c hc9 => (m_X5_copyFrom_r65 _ er7 c (fun z => hc9 (sm_X4_copyFrom_r50_X5_copyFrom_r65 c z))).trans (fr c hc9)
  obtain ⟨hi, hf⟩ := zcc_some hf
  obtain ⟨h9, eh9, hf⟩ := zst_some hf
  have fr : ∀ c, c ∉ md_X4_copyFrom_r50 → h9 c = h c := fun c hc9 => (congrFun eh9 c).trans ((zcp_ne c (fun z => hc9 (by rw [z]; decide))).trans (fr c hc9))
  obtain ⟨h10, eh10, hf⟩ := zst_some hf
  have fr : ∀ c, c ∉ md_X4_copyFrom_r50 → h10 c = h c := fun c hc9 => (congrFun eh10 c).trans ((zup_ne c (fun z => hc9 (by rw [z]; decide))).trans (fr c hc9))
  obtain ⟨h11, eh11, hf⟩ := zst_some hf
  have fr : ∀ c, c ∉ md_X4_copyFrom_r50 → h11 c = h c := fun c hc9 => (congrFun eh11 c).trans ((zup_ne c (fun z => hc9 (by rw [z]; decide))).trans (fr c hc9))
  obtain ⟨h12, eh12, hf⟩ := zst_some hf
  have fr : ∀ c, c ∉ md_X4_copyFrom_r50 → h12 c = h c := fun c hc9 => (congrFun eh12 c).trans ((zup_ne c (fun z => hc9 (by rw [z]; decide))).trans (fr c hc9))
  cases hf
  exact fr
end
section
abbrev md_X3_copyFrom_t51_r2 : List Nat := [51, 52, 53, 54, 55]
variable {q : Int32 × zH}
theorem m_X3_copyFrom_t51_r2 : ∀ (h0 : zH) {q : Int32 × zH}, f_X3_copyFrom_t51_r2 h0 = some q → ∀ c, c ∉ md_X3_copyFrom_t51_r2 → q.2 c = h0 c := by
  intro h q hf
  unfold f_X3_copyFrom_t51_r2 at hf
  have fr : ∀ c, c ∉ md_X3_copyFrom_t51_r2 → h c = h c := fun _ _ => rfl
  obtain ⟨hi, hf⟩ := zcc_some hf
  obtain ⟨h1, eh1, hf⟩ := zst_some hf
  have fr : ∀ c, c ∉ md_X3_copyFrom_t51_r2 → h1 c = h c := fun c hc9 => (congrFun eh1 c).trans ((zcp_ne c (fun z => hc9 (by rw [z]; decide))).trans (fr c hc9))
  obtain ⟨hi, hf⟩ := zcc_some hf
  obtain ⟨h2, eh2, hf⟩ := zst_some hf
  have fr : ∀ c, c ∉ md_X3_copyFrom_t51_r2 → h2 c = h c := fun c hc9 => (congrFun eh2 c).trans ((zcp_ne c (fun z => hc9 (by rw [z]; decide))).trans (fr c hc9))
  obtain ⟨hi, hf⟩ := zcc_some hf
  obtain ⟨h3, eh3, hf⟩ := zst_some hf
  have fr : ∀ c, c ∉ md_X3_copyFrom_t51_r2 → h3 c = h c := fun c hc9 => (congrFun eh3 c).trans ((zcp_ne c (fun z => hc9 (by rw [z]; decide))).trans (fr c hc9))
  obtain ⟨hi, hf⟩ := zcc_some hf
  obtain ⟨h4, eh4, hf⟩ := zst_some hf
  have fr : ∀ c, c ∉ md_X3_copyFrom_t51_r2 → h4 c = h c := fun c hc9 => (congrFun eh4 c).trans ((zcp_ne c (fun z => hc9 (by rw [z]; decide))).trans (fr c hc9))
  obtain ⟨h5, eh5, hf⟩ := zst_some hf
  have fr : ∀ c, c ∉ md_X3_copyFrom_t51_r2 → h5 c = h c := fun c hc9 => (congrFun eh5 c).trans ((zup_ne c (fun z => hc9 (by rw [z]; decide))).trans (fr c hc9))
  cases hf
  exact fr
end
section
abbrev md_X9_copyFrom_t56_r7 : List Nat := [56, 57, 58, 59]
variable {q : Int32 × zH}
theorem m_X9_copyFrom_t56_r7 : ∀ (h0 : zH) {q : Int32 × zH}, f_X9_copyFrom_t56_r7 h0 = some q → ∀ c, c ∉ md_X9_copyFrom_t56_r7 → q.2 c = h0 c := by
  intro h q hf
  unfold f_X9_copyFrom_t56_r7 at hf
  have fr : ∀ c, c ∉ md_X9_copyFrom_t56_r7 → h c = h c := fun _ _ => rfl
  obtain ⟨hi, hf⟩ := zcc_some hf
  obtain ⟨h1, eh1, hf⟩ := zst_some hf
  have fr : ∀ c, c ∉ md_X9_copyFrom_t56_r7 → h1 c = h c := fun c hc9 => (congrFun eh1 c).trans ((zcp_ne c (fun z => hc9 (by rw [z]; decide))).trans (fr c hc9))
  obtain ⟨hi, hf⟩ := zcc_some hf
  obtain ⟨h2, eh2, hf⟩ := zst_some hf
  have fr : ∀ c, c ∉ md_X9_copyFrom_t56_r7 → h2 c = h c := fun c hc9 => (congrFun eh2 c).trans ((zcp_ne c (fun z => hc9 (by rw [z]; decide))).trans (fr c hc9))
  obtain ⟨hi, hf⟩ := zcc_some hf
  obtain ⟨h3, eh3, hf⟩ := zst_some hf
  have fr : ∀ c, c ∉ md_X9_copyFrom_t56_r7 → h3 c = h c := fun c hc9 => (congrFun eh3 c).trans ((zcp_ne c (fun z => hc9 (by rw [z]; decide))).trans (fr c hc9))
  obtain ⟨h4, eh4, hf⟩ := zst_some hf
  have fr : ∀ c, c ∉ md_X9_copyFrom_t56_r7 → h4 c = h c := fun c hc9 => (congrFun eh4 c).trans ((zup_ne c (fun z => hc9 (by rw [z]; decide))).trans (fr c hc9))
  obtain ⟨h5, eh5, hf⟩ := zst_some hf
  have fr : ∀ c, c ∉ md_X9_copyFrom_t56_r7 → h5 c = h c := fun c hc9 => (congrFun eh5 c).trans ((zup_ne c (fun z => hc9 (by rw [z]; decide))).trans (fr c hc9))
  cases hf
  exact fr
end
section
abbrev md_X0_copyFrom_t60_r11 : List Nat := [60, 61, 62, 63, 64]
variable {q : Int32 × zH}
theorem m_X0_copyFrom_t60_r11 : ∀ (h0 : zH) {q : Int32 × zH}, f_X0_copyFrom_t60_r11 h0 = some q → ∀ c, c ∉ md_X0_copyFrom_t60_r11 → q.2 c = h0 c := by
  intro h q hf
  unfold f_X0_copyFrom_t60_r11 at hf
  have fr : ∀ c, c ∉ md_X0_copyFrom_t60_r11 → h c = h c := fun _ _ => rfl
  obtain ⟨hi, hf⟩ := zcc_some hf
  obtain ⟨h1, eh1, hf⟩ := zst_some hf
  have fr : ∀ c, c ∉ md_X0_copyFrom_t60_r11 → h1 c = h c := fun c hc9 => (congrFun eh1 c).trans ((zcp_ne c (fun z => hc9 (by rw [z]; decide))).trans (fr c hc9))
  obtain ⟨hi, hf⟩ := zcc_some hf
  obtain ⟨h2, eh2, hf⟩ := zst_some hf
  have fr : ∀ c, c ∉ md_X0_copyFrom_t60_r11 → h2 c = h c := fun c hc9 => (congrFun eh2 c).trans ((zcp_ne c (fun z => hc9 (by rw [z]; decide))).trans (fr c hc9))
  obtain ⟨hi, hf⟩ := zcc_some hf
  obtain ⟨h3, eh3, hf⟩ := zst_some hf
  have fr : ∀ c, c ∉ md_X0_copyFrom_t60_r11 → h3 c = h c := fun c hc9 => (congrFun eh3 c).trans ((zcp_ne c (fun z => hc9 (by rw [z]; decide))).trans (fr c hc9))
  obtain ⟨hi, hf⟩ := zcc_some hf
  obtain ⟨h4, eh4, hf⟩ := zst_some hf
  have fr : ∀ c, c ∉ md_X0_copyFrom_t60_r11 → h4 c = h c := fun c hc9 => (congrFun eh4 c).trans ((zcp_ne c (fun z => hc9 (by rw [z]; decide))).trans (fr c hc9))
  obtain ⟨h5, eh5, hf⟩ := zst_some hf
  have fr : ∀ c, c ∉ md_X0_copyFrom_t60_r11 → h5 c = h c := fun c hc9 => (congrFun eh5 c).trans ((zup_ne c (fun z => hc9 (by rw [z]; decide))).trans (fr c hc9))
  obtain ⟨h6, eh6, hf⟩ := zst_some hf
  have fr : ∀ c, c ∉ md_X0_copyFrom_t60_r11 → h6 c = h c := fun c hc9 => (congrFun eh6 c).trans ((zup_ne c (fun z => hc9 (by rw [z]; decide))).trans (fr c hc9))
  cases hf
  exact fr
end
section
abbrev md_X5_copyFrom_t65_r16 : List Nat := [65, 66, 67]
variable {q : Int32 × zH}
theorem m_X5_copyFrom_t65_r16 : ∀ (h0 : zH) {q : Int32 × zH}, f_X5_copyFrom_t65_r16 h0 = some q → ∀ c, c ∉ md_X5_copyFrom_t65_r16 → q.2 c = h0 c := by
  intro h q hf
  unfold f_X5_copyFrom_t65_r16 at hf
  have fr : ∀ c, c ∉ md_X5_copyFrom_t65_r16 → h c = h c := fun _ _ => rfl
  obtain ⟨hi, hf⟩ := zcc_some hf
  obtain ⟨h1, eh1, hf⟩ := zst_some hf
  have fr : ∀ c, c ∉ md_X5_copyFrom_t65_r16 → h1 c = h c := fun c hc9 => (congrFun eh1 c).trans ((zcp_ne c (fun z => hc9 (by rw [z]; decide))).trans (fr c hc9))
  obtain ⟨hi, hf⟩ := zcc_some hf
  obtain ⟨h2, eh2, hf⟩ := zst_some hf
  have fr : ∀ c, c ∉ md_X5_copyFrom_t65_r16 → h2 c = h c := fun c hc9 => (congrFun eh2 c).trans ((zcp_ne c (fun z => hc9 (by rw [z]; decide))).trans (fr c hc9))
  obtain ⟨h3, eh3, hf⟩ := zst_some hf
  have fr : ∀ c, c ∉ md_X5_copyFrom_t65_r16 → h3 c = h c := fun c hc9 => (congrFun eh3 c).trans ((zup_ne c (fun z => hc9 (by rw [z]; decide))).trans (fr c hc9))
  obtain ⟨h4, eh4, hf⟩ := zst_some hf
  have fr : ∀ c, c ∉ md_X5_copyFrom_t65_r16 → h4 c = h c := fun c hc9 => (congrFun eh4 c).trans ((zup_ne c (fun z => hc9 (by rw [z]; decide))).trans (fr c hc9))
  cases hf
  exact fr
end
section
abbrev md_X4_copyFrom_t50_r1 : List Nat := [50, 51, 52, 53, 54, 55, 56, 57, 58, 59, 60, 61, 62, 63, 64, 65, 66, 67, 69]
theorem sm_X4_copyFrom_t50_r1_X3_copyFrom_t51_r2 : ∀ c ∈ md_X3_copyFrom_t51_r2, c ∈ md_X4_copyFrom_t50_r1 := by decide
theorem sm_X4_copyFrom_t50_r1_X9_copyFrom_t56_r7 : ∀ c ∈ md_X9_copyFrom_t56_r7, c ∈ md_X4_copyFrom_t50_r1 := by decide
theorem sm_X4_copyFrom_t50_r1_X0_copyFrom_t60_r11 : ∀ c ∈ md_X0_copyFrom_t60_r11, c ∈ md_X4_copyFrom_t50_r1 := by decide
theorem sm_X4_copyFrom_t50_r1_X5_copyFrom_t65_r16 : ∀ c ∈ md_X5_copyFrom_t65_r16, c ∈ md_X4_copyFrom_t50_r1 := by decide
variable {q : Int32 × zH}
theorem m_X4_copyFrom_t50_r1 : ∀ (h0 : zH) {q : Int32 × zH}, f_X4_copyFrom_t50_r1 h0 = some q → ∀ c, c ∉ md_X4_copyFrom_t50_r1 → q.2 c = h0 c := by
  intro h q hf
  unfold f_X4_copyFrom_t50_r1 at hf
  have fr : ∀ c, c ∉ md_X4_copyFrom_t50_r1 → h c = h c := fun _ _ => rfl
  obtain ⟨r1, h2, er1, hf⟩ := zbd_some hf
  have fr : ∀ c, c ∉ md_X4_copyFrom_t50_r1 → h2 c = h c := fun c hc9 => (m_X3_copyFrom_t51_r2 _ er1 c (fun z => hc9 (sm_X4_copyFrom_t50_r1_X3_copyFrom_t51_r2 c z))).trans (fr c hc9)
  obtain ⟨r3, h4, er3, hf⟩ := zbd_some hf
  have fr : ∀ c, c ∉ md_X4_copyFrom_t50_r1 → h4 c = h c := fun c hc9 => (m_X9_copyFrom_t56_r7 _ er3 c (fun z => hc9 (sm_X4_copyFrom_t50_r1_X9_copyFrom_t56_r7 c z))).trans (fr c hc9)
  obtain ⟨r5, h6, er5, hf⟩ := zbd_some hf
  have fr : ∀ c, c ∉ md_X4_copyFrom_t50_r1 → h6 c = h c := fun c hc9 => (m_X0_copyFrom_t60_r11 _ er5 c (fun z => hc9 (sm_X4_copyFrom_t50_r1_X0_copyFrom_t60_r11 c z))).trans (fr c hc9)
  obtain ⟨r7, h8, er7, hf⟩ := zbd_some hf
  have fr : ∀ c, c ∉ md_X4_copyFrom_t50_r1 → h8 c = h c := fun c hc9 => (m_X5_copyFrom_t65_r16 _ er7 c (fun z => hc9 (sm_X4_copyFrom_t50_r1_X5_copyFrom_t65_r16 c z))).trans (fr c hc9)
  obtain ⟨hi, hf⟩ := zcc_some hf
  obtain ⟨h9, eh9, hf⟩ := zst_some hf
  have fr : ∀ c, c ∉ md_X4_copyFrom_t50_r1 → h9 c = h c := fun c hc9 => (congrFun eh9 c).trans ((zcp_ne c (fun z => hc9 (by rw [z]; decide))).trans (fr c hc9))
  obtain ⟨h10, eh10, hf⟩ := zst_some hf
  have fr : ∀ c, c ∉ md_X4_copyFrom_t50_r1 → h10 c = h c := fun c hc9 => (congrFun eh10 c).trans ((zup_ne c (fun z => hc9 (by rw [z]; decide))).trans (fr c hc9))
  obtain ⟨h11, eh11, hf⟩ := zst_some hf
  have fr : ∀ c, c ∉ md_X4_copyFrom_t50_r1 → h11 c = h c := fun c hc9 => (congrFun eh11 c).trans ((zup_ne c (fun z => hc9 (by rw [z]; decide))).trans (fr c hc9))
  obtain ⟨h12, eh12, hf⟩ := zst_some hf
  have fr : ∀ c, c ∉ md_X4_copyFrom_t50_r1 → h12 c = h c := fun c hc9 => (congrFun eh12 c).trans ((zup_ne c (fun z => hc9 (by rw [z]; decide))).trans (fr c hc9))
  cases hf
  exact fr
end
section
abbrev md_X5_copyFrom_r34 : List Nat := [16, 17, 18]
variable {q : Int32 × zH}
theorem m_X5_copyFrom_r34 : ∀ (h0 : zH) {q : Int32 × zH}, f_X5_copyFrom_r34 h0 = some q → ∀ c, c ∉ md_X5_copyFrom_r34 → q.2 c = h0 c := by
  intro h q hf
  unfold f_X5_copyFrom_r34 at hf
  have fr : ∀ c, c ∉ md_X5_copyFrom_r34 → h c = h c := fun _ _ => rfl
  obtain ⟨hi, hf⟩ := zcc_some hf
  obtain ⟨h1, eh1, hf⟩ := zst_some hf
  have fr : ∀ c, c ∉ md_X5_copyFrom_r34 → h1 c = h c := fun c hc9 => (congrFun eh1 c).trans ((zcp_ne c (fun z => hc9 (by rw [z]; decide))).trans (fr c hc9))
  obtain ⟨hi, hf⟩ := zcc_some hf
  obtain ⟨h2, eh2, hf⟩ := zst_some hf
  have fr : ∀ c, c ∉ md_X5_copyFrom_r34 → h2 c = h c := fun c hc9 => (congrFun eh2 c).trans ((zcp_ne c (fun z => hc9 (by rw [z]; decide))).trans (fr c hc9))
  obtain ⟨h3, eh3, hf⟩ := zst_some hf
  have fr : ∀ c, c ∉ md_X5_copyFrom_r34 → h3 c = h c := fun c hc9 => (congrFun eh3 c).trans ((zup_ne c (fun z => hc9 (by rw [z]; decide))).trans (fr c hc9))
  obtain ⟨h4, eh4, hf⟩ := zst_some hf
  have fr : ∀ c, c ∉ md_X5_copyFrom_r34 → h4 c = h c := fun c hc9 => (congrFun eh4 c).trans ((zup_ne c (fun z => hc9 (by rw [z]; decide))).trans (fr c hc9))
  cases hf
  exact fr
end
section
abbrev md_X12_forgets : List Nat := [100]
variable {q : Int32 × zH}
theorem m_X12_forgets : ∀ (h0 : zH) {q : Int32 × zH}, f_X12_forgets h0 = some q → ∀ c, c ∉ md_X12_forgets → q.2 c = h0 c := by
  intro h q hf
  unfold f_X12_forgets at hf
  have fr : ∀ c, c ∉ md_X12_forgets → h c = h c := fun _ _ => rfl
  obtain ⟨h1, eh1, hf⟩ := zst_some hf
  have fr : ∀ c, c ∉ md_X12_forgets → h1 c = h c := fun c hc9 => (congrFun eh1 c).trans ((zup_ne c (fun z => hc9 (by rw [z]; decide))).trans (fr c hc9))
  cases hf
  exact fr
end
section
abbrev md_X12_state : List Nat := [100, 101]
theorem sm_X12_state_X12_forgets : ∀ c ∈ md_X12_forgets, c ∈ md_X12_state := by decide
variable {q : Int32 × zH}
theorem m_X12_state : ∀ (h0 : zH) (x1 : Int32) {q : Int32 × zH}, f_X12_state x1 h0 = some q → ∀ c, c ∉ md_X12_state → q.2 c = h0 c := by
  intro h x1 q hf
  unfold f_X12_state at hf
  have fr : ∀ c, c ∉ md_X12_state → h c = h c := fun _ _ => rfl
  obtain ⟨y1, ey1, hf⟩ := zlt_some hf
  obtain ⟨h2, eh2, hf⟩ := zst_some hf
  have fr : ∀ c, c ∉ md_X12_state → h2 c = h c := fun c hc9 => (congrFun eh2 c).trans ((zup_ne c (fun z => hc9 (by rw [z]; decide))).trans (fr c hc9))
  obtain ⟨r3, h4, er3, hf⟩ := zbd_some hf
  have fr : ∀ c, c ∉ md_X12_state → h4 c = h c := fun c hc9 => (m_X12_forgets _ er3 c (fun z => hc9 (sm_X12_state_X12_forgets c z))).trans (fr c hc9)
  cases hf
  exact fr
end
section
abbrev md_X12_isIn : List Nat := []
variable {q : Int32 × zH}
theorem m_X12_isIn_14   : ∀ (h0 : zH), f_X12_isIn_14  h0 = some q → ∀ c, c ∉ md_X12_isIn → q.2 c = h0 c := by
  intro h hf
  unfold f_X12_isIn_14 at hf
  have fr : ∀ c, c ∉ md_X12_isIn → h c = h c := fun _ _ => rfl
  cases hf
  exact fr
theorem m_X12_isIn : ∀ (h0 : zH) (x0 : Int32) (x1 : Int32) (x2 : Int32) {q : Int32 × zH}, f_X12_isIn x0 x1 x2 h0 = some q → ∀ c, c ∉ md_X12_isIn → q.2 c = h0 c := by
  intro h x0 x1 x2 q hf
  unfold f_X12_isIn at hf
  have fr : ∀ c, c ∉ md_X12_isIn → h c = h c := fun _ _ => rfl
  rcases zif_c hf with ⟨hc, hf⟩ | ⟨hc, hf⟩
  · skip
    exact fun c hc9 => (m_X12_isIn_14  _ hf c hc9).trans (fr c hc9)
  · skip
    rcases zif_c hf with ⟨hc, hf⟩ | ⟨hc, hf⟩
    · skip
      exact fun c hc9 => (m_X12_isIn_14  _ hf c hc9).trans (fr c hc9)
    · skip
      cases hf
      exact fr
end
section
abbrev md_X12_isFamily : List Nat := []
theorem sm_X12_isFamily_X12_isIn : ∀ c ∈ md_X12_isIn, c ∈ md_X12_isFamily := by decide
variable {q : Int32 × zH}
theorem m_X12_isFamily : ∀ (h0 : zH) (x0 : Int32) {q : Int32 × zH}, f_X12_isFamily x0 h0 = some q → ∀ c, c ∉ md_X12_isFamily → q.2 c = h0 c := by
  intro h x0 q hf
  unfold f_X12_isFamily at hf
  have fr : ∀ c, c ∉ md_X12_isFamily → h c = h c := fun _ _ => rfl
  obtain ⟨r1, h2, er1, hf⟩ := zbd_some hf
  have fr : ∀ c, c ∉ md_X12_isFamily → h2 c = h c := fun c hc9 => (m_X12_isIn _ _ _ _ er1 c (fun z => hc9 (sm_X12_isFamily_X12_isIn c z))).trans (fr c hc9)
  obtain ⟨hb, hf⟩ := zbo_some hf
  cases hf
  exact fr
end
section
abbrev md_X12_half : List Nat := [100, 101]
theorem sm_X12_half_X12_isIn : ∀ c ∈ md_X12_isIn, c ∈ md_X12_half := by decide
theorem sm_X12_half_X12_isFamily : ∀ c ∈ md_X12_isFamily, c ∈ md_X12_half := by decide
theorem sm_X12_half_X12_forgets : ∀ c ∈ md_X12_forgets, c ∈ md_X12_half := by decide
variable {q : Int32 × zH}
theorem m_X12_half_48   : ∀ (h0 : zH), f_X12_half_48  h0 = some q → ∀ c, c ∉ md_X12_half → q.2 c = h0 c := by
  intro h hf
  unfold f_X12_half_48 at hf
  have fr : ∀ c, c ∉ md_X12_half → h c = h c := fun _ _ => rfl
  cases hf
  exact fr
theorem m_X12_half_67   : ∀ n, ∀ (h0 : zH) (x1 : Int32) (x2 : Int32) (x3 : Int32) (x4 : Int32) (x5 : Int32) (x6 : Int32), f_X12_half_67  n x1 x2 x3 x4 x5 x6 h0 = some q → ∀ c, c ∉ md_X12_half → q.2 c = h0 c := by
  intro n
  induction n with
  | zero => intro h x1 x2 x3 x4 x5 x6 hf; cases hf
  | succ n ih =>
    intro h x1 x2 x3 x4 x5 x6 hf
    rw [f_X12_half_67] at hf
    have fr : ∀ c, c ∉ md_X12_half → h c = h c := fun _ _ => rfl
    rcases zif_c hf with ⟨hc, hf⟩ | ⟨hc, hf⟩
    · skip
      obtain ⟨hi, hf⟩ := zck_some hf
      obtain ⟨h10, eh10, hf⟩ := zst_some hf
      have fr : ∀ c, c ∉ md_X12_half → h10 c = h c := fun c hc9 => (congrFun eh10 c).trans ((zup_ne c (fun z => hc9 (by rw [z]; decide))).trans (fr c hc9))
      obtain ⟨hi, hf⟩ := zck_some hf
      obtain ⟨h11, eh11, hf⟩ := zst_some hf
      have fr : ∀ c, c ∉ md_X12_half → h11 c = h c := fun c hc9 => (congrFun eh11 c).trans ((zup_ne c (fun z => hc9 (by rw [z]; decide))).trans (fr c hc9))
      obtain ⟨hi, hf⟩ := zck_some hf
      obtain ⟨h12, eh12, hf⟩ := zst_some hf
      have fr : ∀ c, c ∉ md_X12_half → h12 c = h c := fun c hc9 => (congrFun eh12 c).trans ((zup_ne c (fun z => hc9 (by rw [z]; decide))).trans (fr c hc9))
      obtain ⟨hi, hf⟩ := zck_some hf
      obtain ⟨h13, eh13, hf⟩ := zst_some hf
      have fr : ∀ c, c ∉ md_X12_half → h13 c = h c := fun c hc9 => (congrFun eh13 c).trans ((zup_ne c (fun z => hc9 (by rw [z]; decide))).trans (fr c hc9))
      obtain ⟨h14, eh14, hf⟩ := zst_some hf
      have fr : ∀ c, c ∉ md_X12_half → h14 c = h c := fun c hc9 => (congrFun eh14 c).trans ((zup_ne c (fun z => hc9 (by rw [z]; decide))).trans (fr c hc9))
      obtain ⟨r15, h16, er15, hf⟩ := zbd_some hf
      have fr : ∀ c, c ∉ md_X12_half → h16 c = h c := fun c hc9 => (m_X12_forgets _ er15 c (fun z => hc9 (sm_X12_half_X12_forgets c z))).trans (fr c hc9)
      cases hf
      exact fr
    · skip
      obtain ⟨hi, hf⟩ := zck_some hf
      obtain ⟨h17, eh17, hf⟩ := zst_some hf
      have fr : ∀ c, c ∉ md_X12_half → h17 c = h c := fun c hc9 => (congrFun eh17 c).trans ((zup_ne c (fun z => hc9 (by rw [z]; decide))).trans (fr c hc9))
      obtain ⟨y18, ey18, hf⟩ := zlt_some hf
      exact fun c hc9 => (ih _ _ _ _ _ _ _ hf c hc9).trans (fr c hc9)
theorem m_X12_half : ∀ (h0 : zH) (x1 : Int32) (x2 : Int32) (x3 : Int32) (x4 : Int32) {q : Int32 × zH}, f_X12_half x1 x2 x3 x4 h0 = some q → ∀ c, c ∉ md_X12_half → q.2 c = h0 c := by
  intro h x1 x2 x3 x4 q hf
  unfold f_X12_half at hf
  have fr : ∀ c, c ∉ md_X12_half → h c = h c := fun _ _ => rfl
  obtain ⟨r1, h2, er1, hf⟩ := zbd_some hf
  have fr : ∀ c, c ∉ md_X12_half → h2 c = h c := fun c hc9 => (m_X12_isIn _ _ _ _ er1 c (fun z => hc9 (sm_X12_half_X12_isIn c z))).trans (fr c hc9)
  rcases zif_c hf with ⟨hc, hf⟩ | ⟨hc, hf⟩
  · skip
    exact fun c hc9 => (m_X12_half_48  _ hf c hc9).trans (fr c hc9)
  · skip
    obtain ⟨r3, h4, er3, hf⟩ := zbd_some hf
    have fr : ∀ c, c ∉ md_X12_half → h4 c = h c := fun c hc9 => (m_X12_isIn _ _ _ _ er3 c (fun z => hc9 (sm_X12_half_X12_isIn c z))).trans (fr c hc9)
    rcases zif_c hf with ⟨hc, hf⟩ | ⟨hc, hf⟩
    · skip
      exact fun c hc9 => (m_X12_half_48  _ hf c hc9).trans (fr c hc9)
    · skip
      obtain ⟨r5, h6, er5, hf⟩ := zbd_some hf
      have fr : ∀ c, c ∉ md_X12_half → h6 c = h c := fun c hc9 => (m_X12_isIn _ _ _ _ er5 c (fun z => hc9 (sm_X12_half_X12_isIn c z))).trans (fr c hc9)
      rcases zif_c hf with ⟨hc, hf⟩ | ⟨hc, hf⟩
      · skip
        exact fun c hc9 => (m_X12_half_48  _ hf c hc9).trans (fr c hc9)
      · skip
        obtain ⟨r7, h8, er7, hf⟩ := zbd_some hf
        have fr : ∀ c, c ∉ md_X12_half → h8 c = h c := fun c hc9 => (m_X12_isFamily _ _ er7 c (fun z => hc9 (sm_X12_half_X12_isFamily c z))).trans (fr c hc9)
        rcases zif_c hf with ⟨hc, hf⟩ | ⟨hc, hf⟩
        · skip
          exact fun c hc9 => (m_X12_half_48  _ hf c hc9).trans (fr c hc9)
        · skip
          rcases zif_n hf with ⟨hc, hf⟩ | ⟨hc, hf⟩
          · skip
            obtain ⟨y9, ey9, hf⟩ := zlt_some hf
            exact fun c hc9 => (m_X12_half_67  zN _ _ _ _ _ _ _ hf c hc9).trans (fr c hc9)
          · skip
            exact fun c hc9 => (m_X12_half_48  _ hf c hc9).trans (fr c hc9)
end
section
abbrev md_X12_isHalf : List Nat := []
theorem sm_X12_isHalf_X12_isIn : ∀ c ∈ md_X12_isIn, c ∈ md_X12_isHalf := by decide
variable {q : Int32 × zH}
theorem m_X12_isHalf : ∀ (h0 : zH) (x1 : Int32) {q : Int32 × zH}, f_X12_isHalf x1 h0 = some q → ∀ c, c ∉ md_X12_isHalf → q.2 c = h0 c := by
  intro h x1 q hf
  unfold f_X12_isHalf at hf
  have fr : ∀ c, c ∉ md_X12_isHalf → h c = h c := fun _ _ => rfl
  obtain ⟨r1, h2, er1, hf⟩ := zbd_some hf
  have fr : ∀ c, c ∉ md_X12_isHalf → h2 c = h c := fun c hc9 => (m_X12_isIn _ _ _ _ er1 c (fun z => hc9 (sm_X12_isHalf_X12_isIn c z))).trans (fr c hc9)
  obtain ⟨hb, hf⟩ := zbo_some hf
  cases hf
  exact fr
end
section
abbrev md_X12_ofHalf : List Nat := []
variable {q : Int32 × zH}
theorem m_X12_ofHalf : ∀ (h0 : zH) (x1 : Int32) (x2 : Int32) {q : Int32 × zH}, f_X12_ofHalf x1 x2 h0 = some q → ∀ c, c ∉ md_X12_ofHalf → q.2 c = h0 c := by
  intro h x1 x2 q hf
  unfold f_X12_ofHalf at hf
  have fr : ∀ c, c ∉ md_X12_ofHalf → h c = h c := fun _ _ => rfl
  obtain ⟨hi, hf⟩ := zck_some hf
  cases hf
  exact fr
end
section
abbrev md_X12_quarters : List Nat := []
theorem sm_X12_quarters_X12_ofHalf : ∀ c ∈ md_X12_ofHalf, c ∈ md_X12_quarters := by decide
variable {q : Int32 × zH}
theorem m_X12_quarters : ∀ (h0 : zH) (x1 : Int32) (x2 : Int32) {q : Int32 × zH}, f_X12_quarters x1 x2 h0 = some q → ∀ c, c ∉ md_X12_quarters → q.2 c = h0 c := by
  intro h x1 x2 q hf
  unfold f_X12_quarters at hf
  have fr : ∀ c, c ∉ md_X12_quarters → h c = h c := fun _ _ => rfl
  obtain ⟨r1, h2, er1, hf⟩ := zbd_some hf
  have fr : ∀ c, c ∉ md_X12_quarters → h2 c = h c := fun c hc9 => (m_X12_ofHalf _ _ _ er1 c (fun z => hc9 (sm_X12_quarters_X12_ofHalf c z))).trans (fr c hc9)
  cases hf
  exact fr
end
section
abbrev md_X12_adds : List Nat := [101]
variable {q : Int32 × zH}
theorem m_X12_adds : ∀ (h0 : zH) (x1 : Int32) (x2 : Int32) (x3 : Int32) {q : Int32 × zH}, f_X12_adds x1 x2 x3 h0 = some q → ∀ c, c ∉ md_X12_adds → q.2 c = h0 c := by
  intro h x1 x2 x3 q hf
  unfold f_X12_adds at hf
  have fr : ∀ c, c ∉ md_X12_adds → h c = h c := fun _ _ => rfl
  obtain ⟨hi, hf⟩ := zck_some hf
  obtain ⟨hi, hf⟩ := zck_some hf
  obtain ⟨h1, eh1, hf⟩ := zst_some hf
  have fr : ∀ c, c ∉ md_X12_adds → h1 c = h c := fun c hc9 => (congrFun eh1 c).trans ((zup_ne c (fun z => hc9 (by rw [z]; decide))).trans (fr c hc9))
  cases hf
  exact fr
end
section
abbrev md_X12_give : List Nat := [100, 101]
theorem sm_X12_give_X12_isHalf : ∀ c ∈ md_X12_isHalf, c ∈ md_X12_give := by decide
theorem sm_X12_give_X12_isFamily : ∀ c ∈ md_X12_isFamily, c ∈ md_X12_give := by decide
theorem sm_X12_give_X12_quarters : ∀ c ∈ md_X12_quarters, c ∈ md_X12_give := by decide
theorem sm_X12_give_X12_isIn : ∀ c ∈ md_X12_isIn, c ∈ md_X12_give := by decide
theorem sm_X12_give_X12_adds : ∀ c ∈ md_X12_adds, c ∈ md_X12_give := by decide
theorem sm_X12_give_X12_forgets : ∀ c ∈ md_X12_forgets, c ∈ md_X12_give := by decide
variable {q : Int32 × zH}
theorem m_X12_give_43   : ∀ (h0 : zH), f_X12_give_43  h0 = some q → ∀ c, c ∉ md_X12_give → q.2 c = h0 c := by
  intro h hf
  unfold f_X12_give_43 at hf
  have fr : ∀ c, c ∉ md_X12_give → h c = h c := fun _ _ => rfl
  cases hf
  exact fr
theorem m_X12_give : ∀ (h0 : zH) (x1 : Int32) (x2 : Int32) (x3 : Int32) (x4 : Int32) {q : Int32 × zH}, f_X12_give x1 x2 x3 x4 h0 = some q → ∀ c, c ∉ md_X12_give → q.2 c = h0 c := by
  intro h x1 x2 x3 x4 q hf
  unfold f_X12_give at hf
  have fr : ∀ c, c ∉ md_X12_give → h c = h c := fun _ _ => rfl
  obtain ⟨r1, h2, er1, hf⟩ := zbd_some hf
  have fr : ∀ c, c ∉ md_X12_give → h2 c = h c := fun c hc9 => (m_X12_isHalf _ _ er1 c (fun z => hc9 (sm_X12_give_X12_isHalf c z))).trans (fr c hc9)
  rcases zif_c hf with ⟨hc, hf⟩ | ⟨hc, hf⟩
  · skip
    exact fun c hc9 => (m_X12_give_43  _ hf c hc9).trans (fr c hc9)
  · skip
    obtain ⟨r3, h4, er3, hf⟩ := zbd_some hf
    have fr : ∀ c, c ∉ md_X12_give → h4 c = h c := fun c hc9 => (m_X12_isFamily _ _ er3 c (fun z => hc9 (sm_X12_give_X12_isFamily c z))).trans (fr c hc9)
    rcases zif_c hf with ⟨hc, hf⟩ | ⟨hc, hf⟩
    · skip
      exact fun c hc9 => (m_X12_give_43  _ hf c hc9).trans (fr c hc9)
    · skip
      obtain ⟨r5, h6, er5, hf⟩ := zbd_some hf
      have fr : ∀ c, c ∉ md_X12_give → h6 c = h c := fun c hc9 => (m_X12_isFamily _ _ er5 c (fun z => hc9 (sm_X12_give_X12_isFamily c z))).trans (fr c hc9)
      rcases zif_c hf with ⟨hc, hf⟩ | ⟨hc, hf⟩
      · skip
        exact fun c hc9 => (m_X12_give_43  _ hf c hc9).trans (fr c hc9)
      · skip
        rcases zif_c hf with ⟨hc, hf⟩ | ⟨hc, hf⟩
        · skip
          exact fun c hc9 => (m_X12_give_43  _ hf c hc9).trans (fr c hc9)
        · skip
          obtain ⟨r7, h8, er7, hf⟩ := zbd_some hf
          have fr : ∀ c, c ∉ md_X12_give → h8 c = h c := fun c hc9 => (m_X12_quarters _ _ _ er7 c (fun z => hc9 (sm_X12_give_X12_quarters c z))).trans (fr c hc9)
          obtain ⟨r9, h10, er9, hf⟩ := zbd_some hf
          have fr : ∀ c, c ∉ md_X12_give → h10 c = h c := fun c hc9 => (m_X12_isIn _ _ _ _ er9 c (fun z => hc9 (sm_X12_give_X12_isIn c z))).trans (fr c hc9)
          rcases zif_n hf with ⟨hc, hf⟩ | ⟨hc, hf⟩
          · skip
            obtain ⟨r11, h12, er11, hf⟩ := zbd_some hf
            have fr : ∀ c, c ∉ md_X12_give → h12 c = h c := fun c hc9 => (m_X12_adds _ _ _ _ er11 c (fun z => hc9 (sm_X12_give_X12_adds c z))).trans (fr c hc9)
            obtain ⟨r13, h14, er13, hf⟩ := zbd_some hf
            have fr : ∀ c, c ∉ md_X12_give → h14 c = h c := fun c hc9 => (m_X12_adds _ _ _ _ er13 c (fun z => hc9 (sm_X12_give_X12_adds c z))).trans (fr c hc9)
            obtain ⟨r15, h16, er15, hf⟩ := zbd_some hf
            have fr : ∀ c, c ∉ md_X12_give → h16 c = h c := fun c hc9 => (m_X12_forgets _ er15 c (fun z => hc9 (sm_X12_give_X12_forgets c z))).trans (fr c hc9)
            cases hf
            exact fr
          · skip
            exact fun c hc9 => (m_X12_give_43  _ hf c hc9).trans (fr c hc9)
end
section
abbrev md_X12_nextOf : List Nat := []
variable {q : Int32 × zH}
theorem m_X12_nextOf_2   : ∀ n, ∀ (h0 : zH) (x0 : Int32) (x2 : Int32), f_X12_nextOf_2  n x0 x2 h0 = some q → ∀ c, c ∉ md_X12_nextOf → q.2 c = h0 c := by
  intro n
  induction n with
  | zero => intro h x0 x2 hf; cases hf
  | succ n ih =>
    intro h x0 x2 hf
    rw [f_X12_nextOf_2] at hf
    have fr : ∀ c, c ∉ md_X12_nextOf → h c = h c := fun _ _ => rfl
    rcases zif_n hf with ⟨hc, hf⟩ | ⟨hc, hf⟩
    · skip
      cases hf
      exact fr
    · skip
      obtain ⟨y1, ey1, hf⟩ := zlt_some hf
      exact fun c hc9 => (ih _ _ _ hf c hc9).trans (fr c hc9)
theorem m_X12_nextOf : ∀ (h0 : zH) (x0 : Int32) (x1 : Int32) {q : Int32 × zH}, f_X12_nextOf x0 x1 h0 = some q → ∀ c, c ∉ md_X12_nextOf → q.2 c = h0 c := by
  intro h x0 x1 q hf
  unfold f_X12_nextOf at hf
  have fr : ∀ c, c ∉ md_X12_nextOf → h c = h c := fun _ _ => rfl
  exact fun c hc9 => (m_X12_nextOf_2  zN _ _ _ hf c hc9).trans (fr c hc9)
end
section
abbrev md_X12_heirs : List Nat := [100, 101]
theorem sm_X12_heirs_X12_isFamily : ∀ c ∈ md_X12_isFamily, c ∈ md_X12_heirs := by decide
theorem sm_X12_heirs_X12_isIn : ∀ c ∈ md_X12_isIn, c ∈ md_X12_heirs := by decide
theorem sm_X12_heirs_X12_forgets : ∀ c ∈ md_X12_forgets, c ∈ md_X12_heirs := by decide
theorem sm_X12_heirs_X12_nextOf : ∀ c ∈ md_X12_nextOf, c ∈ md_X12_heirs := by decide
theorem sm_X12_heirs_X12_quarters : ∀ c ∈ md_X12_quarters, c ∈ md_X12_heirs := by decide
theorem sm_X12_heirs_X12_adds : ∀ c ∈ md_X12_adds, c ∈ md_X12_heirs := by decide
variable {q : Int32 × zH}
theorem m_X12_heirs_26   : ∀ (h0 : zH), f_X12_heirs_26  h0 = some q → ∀ c, c ∉ md_X12_heirs → q.2 c = h0 c := by
  intro h hf
  unfold f_X12_heirs_26 at hf
  have fr : ∀ c, c ∉ md_X12_heirs → h c = h c := fun _ _ => rfl
  cases hf
  exact fr
theorem m_X12_heirs_60 {k33 : Int32 → Int32 → Int32 → Int32 → zH → zR} (hk33 : ∀ (h0 : zH) (x1 : Int32) (x2 : Int32) (x3 : Int32) (x4 : Int32), k33 x1 x2 x3 x4 h0 = some q → ∀ c, c ∉ md_X12_heirs → q.2 c = h0 c) : ∀ n, ∀ (h0 : zH) (x1 : Int32) (x2 : Int32) (x3 : Int32) (x4 : Int32) (x5 : Int32) (x6 : Int32), f_X12_heirs_60 k33 n x1 x2 x3 x4 x5 x6 h0 = some q → ∀ c, c ∉ md_X12_heirs → q.2 c = h0 c := by
  intro n
  induction n with
  | zero => intro h x1 x2 x3 x4 x5 x6 hf; cases hf
  | succ n ih =>
    intro h x1 x2 x3 x4 x5 x6 hf
    rw [f_X12_heirs_60] at hf
    have fr : ∀ c, c ∉ md_X12_heirs → h c = h c := fun _ _ => rfl
    rcases zif_c hf with ⟨hc, hf⟩ | ⟨hc, hf⟩
    · skip
      obtain ⟨y11, ey11, hf⟩ := zlt_some hf
      exact fun c hc9 => (hk33 _ _ _ _ _ hf c hc9).trans (fr c hc9)
    · skip
      obtain ⟨r12, h13, er12, hf⟩ := zbd_some hf
      have fr : ∀ c, c ∉ md_X12_heirs → h13 c = h c := fun c hc9 => (m_X12_adds _ _ _ _ er12 c (fun z => hc9 (sm_X12_heirs_X12_adds c z))).trans (fr c hc9)
      obtain ⟨r14, h15, er14, hf⟩ := zbd_some hf
      have fr : ∀ c, c ∉ md_X12_heirs → h15 c = h c := fun c hc9 => (m_X12_adds _ _ _ _ er14 c (fun z => hc9 (sm_X12_heirs_X12_adds c z))).trans (fr c hc9)
      obtain ⟨r16, h17, er16, hf⟩ := zbd_some hf
      have fr : ∀ c, c ∉ md_X12_heirs → h17 c = h c := fun c hc9 => (m_X12_nextOf _ _ _ er16 c (fun z => hc9 (sm_X12_heirs_X12_nextOf c z))).trans (fr c hc9)
      obtain ⟨y18, ey18, hf⟩ := zlt_some hf
      obtain ⟨y19, ey19, hf⟩ := zlt_some hf
      exact fun c hc9 => (ih _ _ _ _ _ _ _ hf c hc9).trans (fr c hc9)
theorem m_X12_heirs_33   : ∀ n, ∀ (h0 : zH) (x1 : Int32) (x2 : Int32) (x3 : Int32) (x4 : Int32), f_X12_heirs_33  n x1 x2 x3 x4 h0 = some q → ∀ c, c ∉ md_X12_heirs → q.2 c = h0 c := by
  intro n
  induction n with
  | zero => intro h x1 x2 x3 x4 hf; cases hf
  | succ n ih =>
    intro h x1 x2 x3 x4 hf
    rw [f_X12_heirs_33] at hf
    have fr : ∀ c, c ∉ md_X12_heirs → h c = h c := fun _ _ => rfl
    rcases zif_c hf with ⟨hc, hf⟩ | ⟨hc, hf⟩
    · skip
      obtain ⟨r5, h6, er5, hf⟩ := zbd_some hf
      have fr : ∀ c, c ∉ md_X12_heirs → h6 c = h c := fun c hc9 => (m_X12_forgets _ er5 c (fun z => hc9 (sm_X12_heirs_X12_forgets c z))).trans (fr c hc9)
      cases hf
      exact fr
    · skip
      obtain ⟨r7, h8, er7, hf⟩ := zbd_some hf
      have fr : ∀ c, c ∉ md_X12_heirs → h8 c = h c := fun c hc9 => (m_X12_nextOf _ _ _ er7 c (fun z => hc9 (sm_X12_heirs_X12_nextOf c z))).trans (fr c hc9)
      obtain ⟨r9, h10, er9, hf⟩ := zbd_some hf
      have fr : ∀ c, c ∉ md_X12_heirs → h10 c = h c := fun c hc9 => (m_X12_quarters _ _ _ er9 c (fun z => hc9 (sm_X12_heirs_X12_quarters c z))).trans (fr c hc9)
      exact fun c hc9 => (m_X12_heirs_60 ih zN _ _ _ _ _ _ _ hf c hc9).trans (fr c hc9)
theorem m_X12_heirs : ∀ (h0 : zH) (x1 : Int32) (x2 : Int32) {q : Int32 × zH}, f_X12_heirs x1 x2 h0 = some q → ∀ c, c ∉ md_X12_heirs → q.2 c = h0 c := by
  intro h x1 x2 q hf
  unfold f_X12_heirs at hf
  have fr : ∀ c, c ∉ md_X12_heirs → h c = h c := fun _ _ => rfl
  obtain ⟨r1, h2, er1, hf⟩ := zbd_some hf
  have fr : ∀ c, c ∉ md_X12_heirs → h2 c = h c := fun c hc9 => (m_X12_isFamily _ _ er1 c (fun z => hc9 (sm_X12_heirs_X12_isFamily c z))).trans (fr c hc9)
  rcases zif_c hf with ⟨hc, hf⟩ | ⟨hc, hf⟩
  · skip
    exact fun c hc9 => (m_X12_heirs_26  _ hf c hc9).trans (fr c hc9)
  · skip
    obtain ⟨r3, h4, er3, hf⟩ := zbd_some hf
    have fr : ∀ c, c ∉ md_X12_heirs → h4 c = h c := fun c hc9 => (m_X12_isIn _ _ _ _ er3 c (fun z => hc9 (sm_X12_heirs_X12_isIn c z))).trans (fr c hc9)
    rcases zif_c hf with ⟨hc, hf⟩ | ⟨hc, hf⟩
    · skip
      exact fun c hc9 => (m_X12_heirs_26  _ hf c hc9).trans (fr c hc9)
    · skip
      rcases zif_n hf with ⟨hc, hf⟩ | ⟨hc, hf⟩
      · skip
        exact fun c hc9 => (m_X12_heirs_33  zN _ _ _ _ _ hf c hc9).trans (fr c hc9)
      · skip
        exact fun c hc9 => (m_X12_heirs_26  _ hf c hc9).trans (fr c hc9)
end
section
abbrev md_X12_feuds : List Nat := [101]
variable {q : Int32 × zH}
theorem m_X12_feuds_43   : ∀ (h0 : zH) (s0 : Int32) (s1 : Int32), f_X12_feuds_43  s0 s1 h0 = some q → ∀ c, c ∉ md_X12_feuds → q.2 c = h0 c := by
  intro h s0 s1 hf
  unfold f_X12_feuds_43 at hf
  have fr : ∀ c, c ∉ md_X12_feuds → h c = h c := fun _ _ => rfl
  obtain ⟨hi, hf⟩ := zck_some hf
  obtain ⟨h1, eh1, hf⟩ := zst_some hf
  have fr : ∀ c, c ∉ md_X12_feuds → h1 c = h c := fun c hc9 => (congrFun eh1 c).trans ((zup_ne c (fun z => hc9 (by rw [z]; decide))).trans (fr c hc9))
  cases hf
  exact fr
theorem m_X12_feuds : ∀ (h0 : zH) (x1 : Int32) (x2 : Int32) (x3 : Int32) {q : Int32 × zH}, f_X12_feuds x1 x2 x3 h0 = some q → ∀ c, c ∉ md_X12_feuds → q.2 c = h0 c := by
  intro h x1 x2 x3 q hf
  unfold f_X12_feuds at hf
  have fr : ∀ c, c ∉ md_X12_feuds → h c = h c := fun _ _ => rfl
  rcases zif_c hf with ⟨hc, hf⟩ | ⟨hc, hf⟩
  · skip
    obtain ⟨hi, hf⟩ := zck_some hf
    exact fun c hc9 => (m_X12_feuds_43  _ _ _ hf c hc9).trans (fr c hc9)
  · skip
    obtain ⟨hi, hf⟩ := zck_some hf
    exact fun c hc9 => (m_X12_feuds_43  _ _ _ hf c hc9).trans (fr c hc9)
end
section
abbrev md_X12_feud : List Nat := [100, 101]
theorem sm_X12_feud_X12_isFamily : ∀ c ∈ md_X12_isFamily, c ∈ md_X12_feud := by decide
theorem sm_X12_feud_X12_feuds : ∀ c ∈ md_X12_feuds, c ∈ md_X12_feud := by decide
theorem sm_X12_feud_X12_forgets : ∀ c ∈ md_X12_forgets, c ∈ md_X12_feud := by decide
variable {q : Int32 × zH}
theorem m_X12_feud_19   : ∀ (h0 : zH), f_X12_feud_19  h0 = some q → ∀ c, c ∉ md_X12_feud → q.2 c = h0 c := by
  intro h hf
  unfold f_X12_feud_19 at hf
  have fr : ∀ c, c ∉ md_X12_feud → h c = h c := fun _ _ => rfl
  cases hf
  exact fr
theorem m_X12_feud : ∀ (h0 : zH) (x1 : Int32) (x2 : Int32) (x3 : Int32) {q : Int32 × zH}, f_X12_feud x1 x2 x3 h0 = some q → ∀ c, c ∉ md_X12_feud → q.2 c = h0 c := by
  intro h x1 x2 x3 q hf
  unfold f_X12_feud at hf
  have fr : ∀ c, c ∉ md_X12_feud → h c = h c := fun _ _ => rfl
  obtain ⟨r1, h2, er1, hf⟩ := zbd_some hf
  have fr : ∀ c, c ∉ md_X12_feud → h2 c = h c := fun c hc9 => (m_X12_isFamily _ _ er1 c (fun z => hc9 (sm_X12_feud_X12_isFamily c z))).trans (fr c hc9)
  rcases zif_c hf with ⟨hc, hf⟩ | ⟨hc, hf⟩
  · skip
    exact fun c hc9 => (m_X12_feud_19  _ hf c hc9).trans (fr c hc9)
  · skip
    obtain ⟨r3, h4, er3, hf⟩ := zbd_some hf
    have fr : ∀ c, c ∉ md_X12_feud → h4 c = h c := fun c hc9 => (m_X12_isFamily _ _ er3 c (fun z => hc9 (sm_X12_feud_X12_isFamily c z))).trans (fr c hc9)
    rcases zif_c hf with ⟨hc, hf⟩ | ⟨hc, hf⟩
    · skip
      exact fun c hc9 => (m_X12_feud_19  _ hf c hc9).trans (fr c hc9)
    · skip
      rcases zif_n hf with ⟨hc, hf⟩ | ⟨hc, hf⟩
      · skip
        obtain ⟨r5, h6, er5, hf⟩ := zbd_some hf
        have fr : ∀ c, c ∉ md_X12_feud → h6 c = h c := fun c hc9 => (m_X12_feuds _ _ _ _ er5 c (fun z => hc9 (sm_X12_feud_X12_feuds c z))).trans (fr c hc9)
        obtain ⟨r7, h8, er7, hf⟩ := zbd_some hf
        have fr : ∀ c, c ∉ md_X12_feud → h8 c = h c := fun c hc9 => (m_X12_feuds _ _ _ _ er7 c (fun z => hc9 (sm_X12_feud_X12_feuds c z))).trans (fr c hc9)
        obtain ⟨r9, h10, er9, hf⟩ := zbd_some hf
        have fr : ∀ c, c ∉ md_X12_feud → h10 c = h c := fun c hc9 => (m_X12_forgets _ er9 c (fun z => hc9 (sm_X12_feud_X12_forgets c z))).trans (fr c hc9)
        cases hf
        exact fr
      · skip
        exact fun c hc9 => (m_X12_feud_19  _ hf c hc9).trans (fr c hc9)
end
section
abbrev md_X12_sits : List Nat := [101]
variable {q : Int32 × zH}
theorem m_X12_sits : ∀ (h0 : zH) (x1 : Int32) (x2 : Int32) {q : Int32 × zH}, f_X12_sits x1 x2 h0 = some q → ∀ c, c ∉ md_X12_sits → q.2 c = h0 c := by
  intro h x1 x2 q hf
  unfold f_X12_sits at hf
  have fr : ∀ c, c ∉ md_X12_sits → h c = h c := fun _ _ => rfl
  obtain ⟨hi, hf⟩ := zck_some hf
  obtain ⟨h1, eh1, hf⟩ := zst_some hf
  have fr : ∀ c, c ∉ md_X12_sits → h1 c = h c := fun c hc9 => (congrFun eh1 c).trans ((zup_ne c (fun z => hc9 (by rw [z]; decide))).trans (fr c hc9))
  cases hf
  exact fr
end
section
abbrev md_X12_guest : List Nat := [100, 101]
theorem sm_X12_guest_X12_isFamily : ∀ c ∈ md_X12_isFamily, c ∈ md_X12_guest := by decide
theorem sm_X12_guest_X12_sits : ∀ c ∈ md_X12_sits, c ∈ md_X12_guest := by decide
theorem sm_X12_guest_X12_forgets : ∀ c ∈ md_X12_forgets, c ∈ md_X12_guest := by decide
variable {q : Int32 × zH}
theorem m_X12_guest_18   : ∀ (h0 : zH), f_X12_guest_18  h0 = some q → ∀ c, c ∉ md_X12_guest → q.2 c = h0 c := by
  intro h hf
  unfold f_X12_guest_18 at hf
  have fr : ∀ c, c ∉ md_X12_guest → h c = h c := fun _ _ => rfl
  cases hf
  exact fr
theorem m_X12_guest : ∀ (h0 : zH) (x1 : Int32) {q : Int32 × zH}, f_X12_guest x1 h0 = some q → ∀ c, c ∉ md_X12_guest → q.2 c = h0 c := by
  intro h x1 q hf
  unfold f_X12_guest at hf
  have fr : ∀ c, c ∉ md_X12_guest → h c = h c := fun _ _ => rfl
  obtain ⟨r1, h2, er1, hf⟩ := zbd_some hf
  have fr : ∀ c, c ∉ md_X12_guest → h2 c = h c := fun c hc9 => (m_X12_isFamily _ _ er1 c (fun z => hc9 (sm_X12_guest_X12_isFamily c z))).trans (fr c hc9)
  rcases zif_c hf with ⟨hc, hf⟩ | ⟨hc, hf⟩
  · skip
    exact fun c hc9 => (m_X12_guest_18  _ hf c hc9).trans (fr c hc9)
  · skip
    rcases zif_n hf with ⟨hc, hf⟩ | ⟨hc, hf⟩
    · skip
      obtain ⟨hi, hf⟩ := zck_some hf
      obtain ⟨h3, eh3, hf⟩ := zst_some hf
      have fr : ∀ c, c ∉ md_X12_guest → h3 c = h c := fun c hc9 => (congrFun eh3 c).trans ((zup_ne c (fun z => hc9 (by rw [z]; decide))).trans (fr c hc9))
      obtain ⟨r4, h5, er4, hf⟩ := zbd_some hf
      have fr : ∀ c, c ∉ md_X12_guest → h5 c = h c := fun c hc9 => (m_X12_sits _ _ _ er4 c (fun z => hc9 (sm_X12_guest_X12_sits c z))).trans (fr c hc9)
      obtain ⟨h6, eh6, hf⟩ := zst_some hf
      have fr : ∀ c, c ∉ md_X12_guest → h6 c = h c := fun c hc9 => (congrFun eh6 c).trans ((zup_ne c (fun z => hc9 (by rw [z]; decide))).trans (fr c hc9))
      obtain ⟨r7, h8, er7, hf⟩ := zbd_some hf
      have fr : ∀ c, c ∉ md_X12_guest → h8 c = h c := fun c hc9 => (m_X12_forgets _ er7 c (fun z => hc9 (sm_X12_guest_X12_forgets c z))).trans (fr c hc9)
      cases hf
      exact fr
    · skip
      exact fun c hc9 => (m_X12_guest_18  _ hf c hc9).trans (fr c hc9)
end
section
abbrev md_X12_isGuest : List Nat := []
theorem sm_X12_isGuest_X12_isIn : ∀ c ∈ md_X12_isIn, c ∈ md_X12_isGuest := by decide
variable {q : Int32 × zH}
theorem m_X12_isGuest : ∀ (h0 : zH) (x1 : Int32) {q : Int32 × zH}, f_X12_isGuest x1 h0 = some q → ∀ c, c ∉ md_X12_isGuest → q.2 c = h0 c := by
  intro h x1 q hf
  unfold f_X12_isGuest at hf
  have fr : ∀ c, c ∉ md_X12_isGuest → h c = h c := fun _ _ => rfl
  obtain ⟨r1, h2, er1, hf⟩ := zbd_some hf
  have fr : ∀ c, c ∉ md_X12_isGuest → h2 c = h c := fun c hc9 => (m_X12_isIn _ _ _ _ er1 c (fun z => hc9 (sm_X12_isGuest_X12_isIn c z))).trans (fr c hc9)
  obtain ⟨hb, hf⟩ := zbo_some hf
  cases hf
  exact fr
end
section
abbrev md_X12_ofGuest : List Nat := []
variable {q : Int32 × zH}
theorem m_X12_ofGuest : ∀ (h0 : zH) (x1 : Int32) (x2 : Int32) {q : Int32 × zH}, f_X12_ofGuest x1 x2 h0 = some q → ∀ c, c ∉ md_X12_ofGuest → q.2 c = h0 c := by
  intro h x1 x2 q hf
  unfold f_X12_ofGuest at hf
  have fr : ∀ c, c ∉ md_X12_ofGuest → h c = h c := fun _ _ => rfl
  obtain ⟨hi, hf⟩ := zck_some hf
  cases hf
  exact fr
end
section
abbrev md_X12_guestAt : List Nat := []
theorem sm_X12_guestAt_X12_ofGuest : ∀ c ∈ md_X12_ofGuest, c ∈ md_X12_guestAt := by decide
variable {q : Int32 × zH}
theorem m_X12_guestAt_2   : ∀ n, ∀ (h0 : zH) (x1 : Int32) (x2 : Int32), f_X12_guestAt_2  n x1 x2 h0 = some q → ∀ c, c ∉ md_X12_guestAt → q.2 c = h0 c := by
  intro n
  induction n with
  | zero => intro h x1 x2 hf; cases hf
  | succ n ih =>
    intro h x1 x2 hf
    rw [f_X12_guestAt_2] at hf
    have fr : ∀ c, c ∉ md_X12_guestAt → h c = h c := fun _ _ => rfl
    rcases zif_c hf with ⟨hc, hf⟩ | ⟨hc, hf⟩
    · skip
      cases hf
      exact fr
    · skip
      obtain ⟨r1, h2, er1, hf⟩ := zbd_some hf
      have fr : ∀ c, c ∉ md_X12_guestAt → h2 c = h c := fun c hc9 => (m_X12_ofGuest _ _ _ er1 c (fun z => hc9 (sm_X12_guestAt_X12_ofGuest c z))).trans (fr c hc9)
      rcases zif_n hf with ⟨hc, hf⟩ | ⟨hc, hf⟩
      · skip
        obtain ⟨y3, ey3, hf⟩ := zlt_some hf
        exact fun c hc9 => (ih _ _ _ hf c hc9).trans (fr c hc9)
      · skip
        cases hf
        exact fr
theorem m_X12_guestAt : ∀ (h0 : zH) (x1 : Int32) {q : Int32 × zH}, f_X12_guestAt x1 h0 = some q → ∀ c, c ∉ md_X12_guestAt → q.2 c = h0 c := by
  intro h x1 q hf
  unfold f_X12_guestAt at hf
  have fr : ∀ c, c ∉ md_X12_guestAt → h c = h c := fun _ _ => rfl
  exact fun c hc9 => (m_X12_guestAt_2  zN _ _ _ hf c hc9).trans (fr c hc9)
end
section
abbrev md_X12_seat : List Nat := [100, 101]
theorem sm_X12_seat_X12_isGuest : ∀ c ∈ md_X12_isGuest, c ∈ md_X12_seat := by decide
theorem sm_X12_seat_X12_sits : ∀ c ∈ md_X12_sits, c ∈ md_X12_seat := by decide
theorem sm_X12_seat_X12_forgets : ∀ c ∈ md_X12_forgets, c ∈ md_X12_seat := by decide
theorem sm_X12_seat_X12_isIn : ∀ c ∈ md_X12_isIn, c ∈ md_X12_seat := by decide
theorem sm_X12_seat_X12_guestAt : ∀ c ∈ md_X12_guestAt, c ∈ md_X12_seat := by decide
variable {q : Int32 × zH}
theorem m_X12_seat_47   : ∀ (h0 : zH), f_X12_seat_47  h0 = some q → ∀ c, c ∉ md_X12_seat → q.2 c = h0 c := by
  intro h hf
  unfold f_X12_seat_47 at hf
  have fr : ∀ c, c ∉ md_X12_seat → h c = h c := fun _ _ => rfl
  cases hf
  exact fr
theorem m_X12_seat_49   : ∀ (h0 : zH) (x1 : Int32) (x2 : Int32), f_X12_seat_49  x1 x2 h0 = some q → ∀ c, c ∉ md_X12_seat → q.2 c = h0 c := by
  intro h x1 x2 hf
  unfold f_X12_seat_49 at hf
  have fr : ∀ c, c ∉ md_X12_seat → h c = h c := fun _ _ => rfl
  obtain ⟨r3, h4, er3, hf⟩ := zbd_some hf
  have fr : ∀ c, c ∉ md_X12_seat → h4 c = h c := fun c hc9 => (m_X12_sits _ _ _ er3 c (fun z => hc9 (sm_X12_seat_X12_sits c z))).trans (fr c hc9)
  obtain ⟨r5, h6, er5, hf⟩ := zbd_some hf
  have fr : ∀ c, c ∉ md_X12_seat → h6 c = h c := fun c hc9 => (m_X12_forgets _ er5 c (fun z => hc9 (sm_X12_seat_X12_forgets c z))).trans (fr c hc9)
  cases hf
  exact fr
theorem m_X12_seat : ∀ (h0 : zH) (x1 : Int32) (x2 : Int32) {q : Int32 × zH}, f_X12_seat x1 x2 h0 = some q → ∀ c, c ∉ md_X12_seat → q.2 c = h0 c := by
  intro h x1 x2 q hf
  unfold f_X12_seat at hf
  have fr : ∀ c, c ∉ md_X12_seat → h c = h c := fun _ _ => rfl
  obtain ⟨r1, h2, er1, hf⟩ := zbd_some hf
  have fr : ∀ c, c ∉ md_X12_seat → h2 c = h c := fun c hc9 => (m_X12_isGuest _ _ er1 c (fun z => hc9 (sm_X12_seat_X12_isGuest c z))).trans (fr c hc9)
  rcases zif_c hf with ⟨hc, hf⟩ | ⟨hc, hf⟩
  · skip
    exact fun c hc9 => (m_X12_seat_47  _ hf c hc9).trans (fr c hc9)
  · skip
    rcases zif_c hf with ⟨hc, hf⟩ | ⟨hc, hf⟩
    · skip
      exact fun c hc9 => (m_X12_seat_49  _ _ _ hf c hc9).trans (fr c hc9)
    · skip
      obtain ⟨r7, h8, er7, hf⟩ := zbd_some hf
      have fr : ∀ c, c ∉ md_X12_seat → h8 c = h c := fun c hc9 => (m_X12_isIn _ _ _ _ er7 c (fun z => hc9 (sm_X12_seat_X12_isIn c z))).trans (fr c hc9)
      rcases zif_c hf with ⟨hc, hf⟩ | ⟨hc, hf⟩
      · skip
        exact fun c hc9 => (m_X12_seat_47  _ hf c hc9).trans (fr c hc9)
      · skip
        obtain ⟨r9, h10, er9, hf⟩ := zbd_some hf
        have fr : ∀ c, c ∉ md_X12_seat → h10 c = h c := fun c hc9 => (m_X12_guestAt _ _ er9 c (fun z => hc9 (sm_X12_seat_X12_guestAt c z))).trans (fr c hc9)
        rcases zif_c hf with ⟨hc, hf⟩ | ⟨hc, hf⟩
        · skip
          exact fun c hc9 => (m_X12_seat_49  _ _ _ hf c hc9).trans (fr c hc9)
        · skip
          obtain ⟨r11, h12, er11, hf⟩ := zbd_some hf
          have fr : ∀ c, c ∉ md_X12_seat → h12 c = h c := fun c hc9 => (m_X12_guestAt _ _ er11 c (fun z => hc9 (sm_X12_seat_X12_guestAt c z))).trans (fr c hc9)
          rcases zif_c hf with ⟨hc, hf⟩ | ⟨hc, hf⟩
          · skip
            exact fun c hc9 => (m_X12_seat_49  _ _ _ hf c hc9).trans (fr c hc9)
          · skip
            exact fun c hc9 => (m_X12_seat_47  _ hf c hc9).trans (fr c hc9)
end
section
abbrev md_X12_set : List Nat := [100, 101]
theorem sm_X12_set_X12_isIn : ∀ c ∈ md_X12_isIn, c ∈ md_X12_set := by decide
theorem sm_X12_set_X12_forgets : ∀ c ∈ md_X12_forgets, c ∈ md_X12_set := by decide
theorem sm_X12_set_X12_sits : ∀ c ∈ md_X12_sits, c ∈ md_X12_set := by decide
variable {q : Int32 × zH}
theorem m_X12_set_98   : ∀ (h0 : zH), f_X12_set_98  h0 = some q → ∀ c, c ∉ md_X12_set → q.2 c = h0 c := by
  intro h hf
  unfold f_X12_set_98 at hf
  have fr : ∀ c, c ∉ md_X12_set → h c = h c := fun _ _ => rfl
  cases hf
  exact fr
theorem m_X12_set_100   : ∀ (h0 : zH), f_X12_set_100  h0 = some q → ∀ c, c ∉ md_X12_set → q.2 c = h0 c := by
  intro h hf
  unfold f_X12_set_100 at hf
  have fr : ∀ c, c ∉ md_X12_set → h c = h c := fun _ _ => rfl
  obtain ⟨r4, h5, er4, hf⟩ := zbd_some hf
  have fr : ∀ c, c ∉ md_X12_set → h5 c = h c := fun c hc9 => (m_X12_forgets _ er4 c (fun z => hc9 (sm_X12_set_X12_forgets c z))).trans (fr c hc9)
  cases hf
  exact fr
theorem m_X12_set_72   : ∀ (h0 : zH) (x1 : Int32) (x2 : Int32), f_X12_set_72  x1 x2 h0 = some q → ∀ c, c ∉ md_X12_set → q.2 c = h0 c := by
  intro h x1 x2 hf
  unfold f_X12_set_72 at hf
  have fr : ∀ c, c ∉ md_X12_set → h c = h c := fun _ _ => rfl
  rcases zif_n hf with ⟨hc, hf⟩ | ⟨hc, hf⟩
  · skip
    exact fun c hc9 => (m_X12_set_98  _ hf c hc9).trans (fr c hc9)
  · skip
    obtain ⟨r1, h2, er1, hf⟩ := zbd_some hf
    have fr : ∀ c, c ∉ md_X12_set → h2 c = h c := fun c hc9 => (m_X12_isIn _ _ _ _ er1 c (fun z => hc9 (sm_X12_set_X12_isIn c z))).trans (fr c hc9)
    rcases zif_c hf with ⟨hc, hf⟩ | ⟨hc, hf⟩
    · skip
      exact fun c hc9 => (m_X12_set_98  _ hf c hc9).trans (fr c hc9)
    · skip
      obtain ⟨h3, eh3, hf⟩ := zst_some hf
      have fr : ∀ c, c ∉ md_X12_set → h3 c = h c := fun c hc9 => (congrFun eh3 c).trans ((zup_ne c (fun z => hc9 (by rw [z]; decide))).trans (fr c hc9))
      exact fun c hc9 => (m_X12_set_100  _ hf c hc9).trans (fr c hc9)
theorem m_X12_set_48   : ∀ (h0 : zH) (x1 : Int32) (x2 : Int32), f_X12_set_48  x1 x2 h0 = some q → ∀ c, c ∉ md_X12_set → q.2 c = h0 c := by
  intro h x1 x2 hf
  unfold f_X12_set_48 at hf
  have fr : ∀ c, c ∉ md_X12_set → h c = h c := fun _ _ => rfl
  rcases zif_n hf with ⟨hc, hf⟩ | ⟨hc, hf⟩
  · skip
    exact fun c hc9 => (m_X12_set_72  _ _ _ hf c hc9).trans (fr c hc9)
  · skip
    obtain ⟨r6, h7, er6, hf⟩ := zbd_some hf
    have fr : ∀ c, c ∉ md_X12_set → h7 c = h c := fun c hc9 => (m_X12_isIn _ _ _ _ er6 c (fun z => hc9 (sm_X12_set_X12_isIn c z))).trans (fr c hc9)
    rcases zif_c hf with ⟨hc, hf⟩ | ⟨hc, hf⟩
    · skip
      exact fun c hc9 => (m_X12_set_72  _ _ _ hf c hc9).trans (fr c hc9)
    · skip
      obtain ⟨h8, eh8, hf⟩ := zst_some hf
      have fr : ∀ c, c ∉ md_X12_set → h8 c = h c := fun c hc9 => (congrFun eh8 c).trans ((zup_ne c (fun z => hc9 (by rw [z]; decide))).trans (fr c hc9))
      exact fun c hc9 => (m_X12_set_100  _ hf c hc9).trans (fr c hc9)
theorem m_X12_set_23   : ∀ n, ∀ (h0 : zH) (x3 : Int32), f_X12_set_23  n x3 h0 = some q → ∀ c, c ∉ md_X12_set → q.2 c = h0 c := by
  intro n
  induction n with
  | zero => intro h x3 hf; cases hf
  | succ n ih =>
    intro h x3 hf
    rw [f_X12_set_23] at hf
    have fr : ∀ c, c ∉ md_X12_set → h c = h c := fun _ _ => rfl
    rcases zif_c hf with ⟨hc, hf⟩ | ⟨hc, hf⟩
    · skip
      exact fun c hc9 => (m_X12_set_100  _ hf c hc9).trans (fr c hc9)
    · skip
      obtain ⟨r12, h13, er12, hf⟩ := zbd_some hf
      have fr : ∀ c, c ∉ md_X12_set → h13 c = h c := fun c hc9 => (m_X12_sits _ _ _ er12 c (fun z => hc9 (sm_X12_set_X12_sits c z))).trans (fr c hc9)
      obtain ⟨y14, ey14, hf⟩ := zlt_some hf
      exact fun c hc9 => (ih _ _ hf c hc9).trans (fr c hc9)
theorem m_X12_set : ∀ (h0 : zH) (x1 : Int32) (x2 : Int32) {q : Int32 × zH}, f_X12_set x1 x2 h0 = some q → ∀ c, c ∉ md_X12_set → q.2 c = h0 c := by
  intro h x1 x2 q hf
  unfold f_X12_set at hf
  have fr : ∀ c, c ∉ md_X12_set → h c = h c := fun _ _ => rfl
  rcases zif_n hf with ⟨hc, hf⟩ | ⟨hc, hf⟩
  · skip
    exact fun c hc9 => (m_X12_set_48  _ _ _ hf c hc9).trans (fr c hc9)
  · skip
    obtain ⟨r9, h10, er9, hf⟩ := zbd_some hf
    have fr : ∀ c, c ∉ md_X12_set → h10 c = h c := fun c hc9 => (m_X12_isIn _ _ _ _ er9 c (fun z => hc9 (sm_X12_set_X12_isIn c z))).trans (fr c hc9)
    rcases zif_c hf with ⟨hc, hf⟩ | ⟨hc, hf⟩
    · skip
      exact fun c hc9 => (m_X12_set_48  _ _ _ hf c hc9).trans (fr c hc9)
    · skip
      obtain ⟨h11, eh11, hf⟩ := zst_some hf
      have fr : ∀ c, c ∉ md_X12_set → h11 c = h c := fun c hc9 => (congrFun eh11 c).trans ((zup_ne c (fun z => hc9 (by rw [z]; decide))).trans (fr c hc9))
      exact fun c hc9 => (m_X12_set_23  zN _ _ hf c hc9).trans (fr c hc9)
end
section
abbrev md_X12_feed : List Nat := [100, 107]
variable {q : Int32 × zH}
theorem m_X12_feed_71 {k18 : Int32 → Int32 → Int32 → Int32 → Int32 → Int32 → zH → zR} (hk18 : ∀ (h0 : zH) (x1 : Int32) (x2 : Int32) (x3 : Int32) (x4 : Int32) (x5 : Int32) (x6 : Int32), k18 x1 x2 x3 x4 x5 x6 h0 = some q → ∀ c, c ∉ md_X12_feed → q.2 c = h0 c) : ∀ (h0 : zH) (x1 : Int32) (x2 : Int32) (x3 : Int32) (x4 : Int32) (x5 : Int32) (x6 : Int32) (s0 : Int32), f_X12_feed_71 k18 x1 x2 x3 x4 x5 x6 s0 h0 = some q → ∀ c, c ∉ md_X12_feed → q.2 c = h0 c := by
  intro h x1 x2 x3 x4 x5 x6 s0 hf
  unfold f_X12_feed_71 at hf
  have fr : ∀ c, c ∉ md_X12_feed → h c = h c := fun _ _ => rfl
  obtain ⟨hi, hf⟩ := zck_some hf
  obtain ⟨h1, eh1, hf⟩ := zst_some hf
  have fr : ∀ c, c ∉ md_X12_feed → h1 c = h c := fun c hc9 => (congrFun eh1 c).trans ((zup_ne c (fun z => hc9 (by rw [z]; decide))).trans (fr c hc9))
  obtain ⟨h2, eh2, hf⟩ := zst_some hf
  have fr : ∀ c, c ∉ md_X12_feed → h2 c = h c := fun c hc9 => (congrFun eh2 c).trans ((zup_ne c (fun z => hc9 (by rw [z]; decide))).trans (fr c hc9))
  obtain ⟨y3, ey3, hf⟩ := zlt_some hf
  exact fun c hc9 => (hk18 _ _ _ _ _ _ _ hf c hc9).trans (fr c hc9)
theorem m_X12_feed_18   : ∀ n, ∀ (h0 : zH) (x1 : Int32) (x2 : Int32) (x3 : Int32) (x4 : Int32) (x5 : Int32) (x6 : Int32), f_X12_feed_18  n x1 x2 x3 x4 x5 x6 h0 = some q → ∀ c, c ∉ md_X12_feed → q.2 c = h0 c := by
  intro n
  induction n with
  | zero => intro h x1 x2 x3 x4 x5 x6 hf; cases hf
  | succ n ih =>
    intro h x1 x2 x3 x4 x5 x6 hf
    rw [f_X12_feed_18] at hf
    have fr : ∀ c, c ∉ md_X12_feed → h c = h c := fun _ _ => rfl
    rcases zif_c hf with ⟨hc, hf⟩ | ⟨hc, hf⟩
    · skip
      cases hf
      exact fr
    · skip
      rcases zif_c hf with ⟨hc, hf⟩ | ⟨hc, hf⟩
      · skip
        rcases zif_c hf with ⟨hc, hf⟩ | ⟨hc, hf⟩
        · skip
          rcases zif_c hf with ⟨hc, hf⟩ | ⟨hc, hf⟩
          · skip
            rcases zif_c hf with ⟨hc, hf⟩ | ⟨hc, hf⟩
            · skip
              exact fun c hc9 => (m_X12_feed_71 ih _ _ _ _ _ _ _ _ hf c hc9).trans (fr c hc9)
            · skip
              exact fun c hc9 => (m_X12_feed_71 ih _ _ _ _ _ _ _ _ hf c hc9).trans (fr c hc9)
          · skip
            exact fun c hc9 => (m_X12_feed_71 ih _ _ _ _ _ _ _ _ hf c hc9).trans (fr c hc9)
        · skip
          exact fun c hc9 => (m_X12_feed_71 ih _ _ _ _ _ _ _ _ hf c hc9).trans (fr c hc9)
      · skip
        exact fun c hc9 => (m_X12_feed_71 ih _ _ _ _ _ _ _ _ hf c hc9).trans (fr c hc9)
theorem m_X12_feed : ∀ (h0 : zH) (x1 : Int32) (x2 : Int32) (x3 : Int32) (x4 : Int32) (x5 : Int32) {q : Int32 × zH}, f_X12_feed x1 x2 x3 x4 x5 h0 = some q → ∀ c, c ∉ md_X12_feed → q.2 c = h0 c := by
  intro h x1 x2 x3 x4 x5 q hf
  unfold f_X12_feed at hf
  have fr : ∀ c, c ∉ md_X12_feed → h c = h c := fun _ _ => rfl
  rcases zif_c hf with ⟨hc, hf⟩ | ⟨hc, hf⟩
  · skip
    exact fun c hc9 => (m_X12_feed_18  zN _ _ _ _ _ _ _ hf c hc9).trans (fr c hc9)
  · skip
    cases hf
    exact fr
end
section
abbrev md_X12_end : List Nat := [100]
theorem sm_X12_end_X12_isIn : ∀ c ∈ md_X12_isIn, c ∈ md_X12_end := by decide
variable {q : Int32 × zH}
theorem m_X12_end : ∀ (h0 : zH) (x1 : Int32) {q : Int32 × zH}, f_X12_end x1 h0 = some q → ∀ c, c ∉ md_X12_end → q.2 c = h0 c := by
  intro h x1 q hf
  unfold f_X12_end at hf
  have fr : ∀ c, c ∉ md_X12_end → h c = h c := fun _ _ => rfl
  obtain ⟨r1, h2, er1, hf⟩ := zbd_some hf
  have fr : ∀ c, c ∉ md_X12_end → h2 c = h c := fun c hc9 => (m_X12_isIn _ _ _ _ er1 c (fun z => hc9 (sm_X12_end_X12_isIn c z))).trans (fr c hc9)
  rcases zif_n hf with ⟨hc, hf⟩ | ⟨hc, hf⟩
  · skip
    obtain ⟨h3, eh3, hf⟩ := zst_some hf
    have fr : ∀ c, c ∉ md_X12_end → h3 c = h c := fun c hc9 => (congrFun eh3 c).trans ((zup_ne c (fun z => hc9 (by rw [z]; decide))).trans (fr c hc9))
    cases hf
    exact fr
  · skip
    cases hf
    exact fr
end
section
abbrev md_X12_fault : List Nat := []
variable {q : Int32 × zH}
theorem m_X12_fault : ∀ (h0 : zH) (x1 : Int32) {q : Int32 × zH}, f_X12_fault x1 h0 = some q → ∀ c, c ∉ md_X12_fault → q.2 c = h0 c := by
  intro h x1 q hf
  unfold f_X12_fault at hf
  have fr : ∀ c, c ∉ md_X12_fault → h c = h c := fun _ _ => rfl
  rcases zif_n hf with ⟨hc, hf⟩ | ⟨hc, hf⟩
  · skip
    rcases zif_n hf with ⟨hc, hf⟩ | ⟨hc, hf⟩
    · skip
      cases hf
      exact fr
    · skip
      cases hf
      exact fr
  · skip
    cases hf
    exact fr
end
section
abbrev md_X12_of : List Nat := []
theorem sm_X12_of_X12_isHalf : ∀ c ∈ md_X12_isHalf, c ∈ md_X12_of := by decide
theorem sm_X12_of_X12_isIn : ∀ c ∈ md_X12_isIn, c ∈ md_X12_of := by decide
theorem sm_X12_of_X12_ofHalf : ∀ c ∈ md_X12_ofHalf, c ∈ md_X12_of := by decide
variable {q : Int32 × zH}
theorem m_X12_of_51   : ∀ (h0 : zH), f_X12_of_51  h0 = some q → ∀ c, c ∉ md_X12_of → q.2 c = h0 c := by
  intro h hf
  unfold f_X12_of_51 at hf
  have fr : ∀ c, c ∉ md_X12_of → h c = h c := fun _ _ => rfl
  cases hf
  exact fr
theorem m_X12_of_45   : ∀ (h0 : zH) (s0 : Int32) (s1 : Int32), f_X12_of_45  s0 s1 h0 = some q → ∀ c, c ∉ md_X12_of → q.2 c = h0 c := by
  intro h s0 s1 hf
  unfold f_X12_of_45 at hf
  have fr : ∀ c, c ∉ md_X12_of → h c = h c := fun _ _ => rfl
  obtain ⟨r5, h6, er5, hf⟩ := zbd_some hf
  have fr : ∀ c, c ∉ md_X12_of → h6 c = h c := fun c hc9 => (m_X12_ofHalf _ _ _ er5 c (fun z => hc9 (sm_X12_of_X12_ofHalf c z))).trans (fr c hc9)
  cases hf
  exact fr
theorem m_X12_of_28   : ∀ (h0 : zH) (x1 : Int32) (x2 : Int32), f_X12_of_28  x1 x2 h0 = some q → ∀ c, c ∉ md_X12_of → q.2 c = h0 c := by
  intro h x1 x2 hf
  unfold f_X12_of_28 at hf
  have fr : ∀ c, c ∉ md_X12_of → h c = h c := fun _ _ => rfl
  rcases zif_c hf with ⟨hc, hf⟩ | ⟨hc, hf⟩
  · skip
    exact fun c hc9 => (m_X12_of_45  _ _ _ hf c hc9).trans (fr c hc9)
  · skip
    exact fun c hc9 => (m_X12_of_45  _ _ _ hf c hc9).trans (fr c hc9)
theorem m_X12_of : ∀ (h0 : zH) (x1 : Int32) (x2 : Int32) {q : Int32 × zH}, f_X12_of x1 x2 h0 = some q → ∀ c, c ∉ md_X12_of → q.2 c = h0 c := by
  intro h x1 x2 q hf
  unfold f_X12_of at hf
  have fr : ∀ c, c ∉ md_X12_of → h c = h c := fun _ _ => rfl
  obtain ⟨r1, h2, er1, hf⟩ := zbd_some hf
  have fr : ∀ c, c ∉ md_X12_of → h2 c = h c := fun c hc9 => (m_X12_isHalf _ _ er1 c (fun z => hc9 (sm_X12_of_X12_isHalf c z))).trans (fr c hc9)
  rcases zif_c hf with ⟨hc, hf⟩ | ⟨hc, hf⟩
  · skip
    exact fun c hc9 => (m_X12_of_51  _ hf c hc9).trans (fr c hc9)
  · skip
    obtain ⟨r3, h4, er3, hf⟩ := zbd_some hf
    have fr : ∀ c, c ∉ md_X12_of → h4 c = h c := fun c hc9 => (m_X12_isIn _ _ _ _ er3 c (fun z => hc9 (sm_X12_of_X12_isIn c z))).trans (fr c hc9)
    rcases zif_n hf with ⟨hc, hf⟩ | ⟨hc, hf⟩
    · skip
      exact fun c hc9 => (m_X12_of_28  _ _ _ hf c hc9).trans (fr c hc9)
    · skip
      obtain ⟨r7, h8, er7, hf⟩ := zbd_some hf
      have fr : ∀ c, c ∉ md_X12_of → h8 c = h c := fun c hc9 => (m_X12_isIn _ _ _ _ er7 c (fun z => hc9 (sm_X12_of_X12_isIn c z))).trans (fr c hc9)
      rcases zif_c hf with ⟨hc, hf⟩ | ⟨hc, hf⟩
      · skip
        exact fun c hc9 => (m_X12_of_51  _ hf c hc9).trans (fr c hc9)
      · skip
        exact fun c hc9 => (m_X12_of_28  _ _ _ hf c hc9).trans (fr c hc9)
end
section
abbrev md_X12_who : List Nat := []
theorem sm_X12_who_X12_isGuest : ∀ c ∈ md_X12_isGuest, c ∈ md_X12_who := by decide
theorem sm_X12_who_X12_isIn : ∀ c ∈ md_X12_isIn, c ∈ md_X12_who := by decide
theorem sm_X12_who_X12_ofGuest : ∀ c ∈ md_X12_ofGuest, c ∈ md_X12_who := by decide
variable {q : Int32 × zH}
theorem m_X12_who_26   : ∀ (h0 : zH), f_X12_who_26  h0 = some q → ∀ c, c ∉ md_X12_who → q.2 c = h0 c := by
  intro h hf
  unfold f_X12_who_26 at hf
  have fr : ∀ c, c ∉ md_X12_who → h c = h c := fun _ _ => rfl
  cases hf
  exact fr
theorem m_X12_who : ∀ (h0 : zH) (x1 : Int32) (x2 : Int32) {q : Int32 × zH}, f_X12_who x1 x2 h0 = some q → ∀ c, c ∉ md_X12_who → q.2 c = h0 c := by
  intro h x1 x2 q hf
  unfold f_X12_who at hf
  have fr : ∀ c, c ∉ md_X12_who → h c = h c := fun _ _ => rfl
  obtain ⟨r1, h2, er1, hf⟩ := zbd_some hf
  have fr : ∀ c, c ∉ md_X12_who → h2 c = h c := fun c hc9 => (m_X12_isGuest _ _ er1 c (fun z => hc9 (sm_X12_who_X12_isGuest c z))).trans (fr c hc9)
  rcases zif_c hf with ⟨hc, hf⟩ | ⟨hc, hf⟩
  · skip
    exact fun c hc9 => (m_X12_who_26  _ hf c hc9).trans (fr c hc9)
  · skip
    obtain ⟨r3, h4, er3, hf⟩ := zbd_some hf
    have fr : ∀ c, c ∉ md_X12_who → h4 c = h c := fun c hc9 => (m_X12_isIn _ _ _ _ er3 c (fun z => hc9 (sm_X12_who_X12_isIn c z))).trans (fr c hc9)
    rcases zif_c hf with ⟨hc, hf⟩ | ⟨hc, hf⟩
    · skip
      exact fun c hc9 => (m_X12_who_26  _ hf c hc9).trans (fr c hc9)
    · skip
      obtain ⟨r5, h6, er5, hf⟩ := zbd_some hf
      have fr : ∀ c, c ∉ md_X12_who → h6 c = h c := fun c hc9 => (m_X12_ofGuest _ _ _ er5 c (fun z => hc9 (sm_X12_who_X12_ofGuest c z))).trans (fr c hc9)
      cases hf
      exact fr
end
section
abbrev md_X12_isFront : List Nat := []
theorem sm_X12_isFront_X12_isHalf : ∀ c ∈ md_X12_isHalf, c ∈ md_X12_isFront := by decide
theorem sm_X12_isFront_X12_ofHalf : ∀ c ∈ md_X12_ofHalf, c ∈ md_X12_isFront := by decide
variable {q : Int32 × zH}
theorem m_X12_isFront_21   : ∀ (h0 : zH), f_X12_isFront_21  h0 = some q → ∀ c, c ∉ md_X12_isFront → q.2 c = h0 c := by
  intro h hf
  unfold f_X12_isFront_21 at hf
  have fr : ∀ c, c ∉ md_X12_isFront → h c = h c := fun _ _ => rfl
  cases hf
  exact fr
theorem m_X12_isFront : ∀ (h0 : zH) (x1 : Int32) {q : Int32 × zH}, f_X12_isFront x1 h0 = some q → ∀ c, c ∉ md_X12_isFront → q.2 c = h0 c := by
  intro h x1 q hf
  unfold f_X12_isFront at hf
  have fr : ∀ c, c ∉ md_X12_isFront → h c = h c := fun _ _ => rfl
  obtain ⟨r1, h2, er1, hf⟩ := zbd_some hf
  have fr : ∀ c, c ∉ md_X12_isFront → h2 c = h c := fun c hc9 => (m_X12_isHalf _ _ er1 c (fun z => hc9 (sm_X12_isFront_X12_isHalf c z))).trans (fr c hc9)
  rcases zif_c hf with ⟨hc, hf⟩ | ⟨hc, hf⟩
  · skip
    exact fun c hc9 => (m_X12_isFront_21  _ hf c hc9).trans (fr c hc9)
  · skip
    obtain ⟨r3, h4, er3, hf⟩ := zbd_some hf
    have fr : ∀ c, c ∉ md_X12_isFront → h4 c = h c := fun c hc9 => (m_X12_ofHalf _ _ _ er3 c (fun z => hc9 (sm_X12_isFront_X12_ofHalf c z))).trans (fr c hc9)
    rcases zif_n hf with ⟨hc, hf⟩ | ⟨hc, hf⟩
    · skip
      exact fun c hc9 => (m_X12_isFront_21  _ hf c hc9).trans (fr c hc9)
    · skip
      cases hf
      exact fr
end
section
abbrev md_X12_isEnd : List Nat := []
theorem sm_X12_isEnd_X12_isHalf : ∀ c ∈ md_X12_isHalf, c ∈ md_X12_isEnd := by decide
theorem sm_X12_isEnd_X12_ofHalf : ∀ c ∈ md_X12_ofHalf, c ∈ md_X12_isEnd := by decide
variable {q : Int32 × zH}
theorem m_X12_isEnd_22   : ∀ (h0 : zH), f_X12_isEnd_22  h0 = some q → ∀ c, c ∉ md_X12_isEnd → q.2 c = h0 c := by
  intro h hf
  unfold f_X12_isEnd_22 at hf
  have fr : ∀ c, c ∉ md_X12_isEnd → h c = h c := fun _ _ => rfl
  cases hf
  exact fr
theorem m_X12_isEnd : ∀ (h0 : zH) (x1 : Int32) {q : Int32 × zH}, f_X12_isEnd x1 h0 = some q → ∀ c, c ∉ md_X12_isEnd → q.2 c = h0 c := by
  intro h x1 q hf
  unfold f_X12_isEnd at hf
  have fr : ∀ c, c ∉ md_X12_isEnd → h c = h c := fun _ _ => rfl
  obtain ⟨r1, h2, er1, hf⟩ := zbd_some hf
  have fr : ∀ c, c ∉ md_X12_isEnd → h2 c = h c := fun c hc9 => (m_X12_isHalf _ _ er1 c (fun z => hc9 (sm_X12_isEnd_X12_isHalf c z))).trans (fr c hc9)
  rcases zif_c hf with ⟨hc, hf⟩ | ⟨hc, hf⟩
  · skip
    exact fun c hc9 => (m_X12_isEnd_22  _ hf c hc9).trans (fr c hc9)
  · skip
    obtain ⟨r3, h4, er3, hf⟩ := zbd_some hf
    have fr : ∀ c, c ∉ md_X12_isEnd → h4 c = h c := fun c hc9 => (m_X12_ofHalf _ _ _ er3 c (fun z => hc9 (sm_X12_isEnd_X12_ofHalf c z))).trans (fr c hc9)
    rcases zif_n hf with ⟨hc, hf⟩ | ⟨hc, hf⟩
    · skip
      exact fun c hc9 => (m_X12_isEnd_22  _ hf c hc9).trans (fr c hc9)
    · skip
      cases hf
      exact fr
end
section
abbrev md_X12_told : List Nat := []
theorem sm_X12_told_X12_isFront : ∀ c ∈ md_X12_isFront, c ∈ md_X12_told := by decide
theorem sm_X12_told_X12_isEnd : ∀ c ∈ md_X12_isEnd, c ∈ md_X12_told := by decide
variable {q : Int32 × zH}
theorem m_X12_told_34   : ∀ (h0 : zH), f_X12_told_34  h0 = some q → ∀ c, c ∉ md_X12_told → q.2 c = h0 c := by
  intro h hf
  unfold f_X12_told_34 at hf
  have fr : ∀ c, c ∉ md_X12_told → h c = h c := fun _ _ => rfl
  cases hf
  exact fr
theorem m_X12_told : ∀ (h0 : zH) (x1 : Int32) (x2 : Int32) {q : Int32 × zH}, f_X12_told x1 x2 h0 = some q → ∀ c, c ∉ md_X12_told → q.2 c = h0 c := by
  intro h x1 x2 q hf
  unfold f_X12_told at hf
  have fr : ∀ c, c ∉ md_X12_told → h c = h c := fun _ _ => rfl
  obtain ⟨r1, h2, er1, hf⟩ := zbd_some hf
  have fr : ∀ c, c ∉ md_X12_told → h2 c = h c := fun c hc9 => (m_X12_isFront _ _ er1 c (fun z => hc9 (sm_X12_told_X12_isFront c z))).trans (fr c hc9)
  rcases zif_c hf with ⟨hc, hf⟩ | ⟨hc, hf⟩
  · skip
    exact fun c hc9 => (m_X12_told_34  _ hf c hc9).trans (fr c hc9)
  · skip
    obtain ⟨r3, h4, er3, hf⟩ := zbd_some hf
    have fr : ∀ c, c ∉ md_X12_told → h4 c = h c := fun c hc9 => (m_X12_isEnd _ _ er3 c (fun z => hc9 (sm_X12_told_X12_isEnd c z))).trans (fr c hc9)
    rcases zif_c hf with ⟨hc, hf⟩ | ⟨hc, hf⟩
    · skip
      exact fun c hc9 => (m_X12_told_34  _ hf c hc9).trans (fr c hc9)
    · skip
      obtain ⟨hi, hf⟩ := zck_some hf
      cases hf
      exact fr
end
section
abbrev md_X12_book : List Nat := []
theorem sm_X12_book_X12_isIn : ∀ c ∈ md_X12_isIn, c ∈ md_X12_book := by decide
variable {q : Int32 × zH}
theorem m_X12_book_44   : ∀ (h0 : zH), f_X12_book_44  h0 = some q → ∀ c, c ∉ md_X12_book → q.2 c = h0 c := by
  intro h hf
  unfold f_X12_book_44 at hf
  have fr : ∀ c, c ∉ md_X12_book → h c = h c := fun _ _ => rfl
  cases hf
  exact fr
theorem m_X12_book : ∀ (h0 : zH) (x1 : Int32) (x2 : Int32) {q : Int32 × zH}, f_X12_book x1 x2 h0 = some q → ∀ c, c ∉ md_X12_book → q.2 c = h0 c := by
  intro h x1 x2 q hf
  unfold f_X12_book at hf
  have fr : ∀ c, c ∉ md_X12_book → h c = h c := fun _ _ => rfl
  obtain ⟨r1, h2, er1, hf⟩ := zbd_some hf
  have fr : ∀ c, c ∉ md_X12_book → h2 c = h c := fun c hc9 => (m_X12_isIn _ _ _ _ er1 c (fun z => hc9 (sm_X12_book_X12_isIn c z))).trans (fr c hc9)
  rcases zif_c hf with ⟨hc, hf⟩ | ⟨hc, hf⟩
  · skip
    exact fun c hc9 => (m_X12_book_44  _ hf c hc9).trans (fr c hc9)
  · skip
    obtain ⟨r3, h4, er3, hf⟩ := zbd_some hf
    have fr : ∀ c, c ∉ md_X12_book → h4 c = h c := fun c hc9 => (m_X12_isIn _ _ _ _ er3 c (fun z => hc9 (sm_X12_book_X12_isIn c z))).trans (fr c hc9)
    rcases zif_c hf with ⟨hc, hf⟩ | ⟨hc, hf⟩
    · skip
      exact fun c hc9 => (m_X12_book_44  _ hf c hc9).trans (fr c hc9)
    · skip
      obtain ⟨hi, hf⟩ := zck_some hf
      cases hf
      exact fr
end
section
abbrev md_X12_fame : List Nat := []
theorem sm_X12_fame_X12_isFamily : ∀ c ∈ md_X12_isFamily, c ∈ md_X12_fame := by decide
variable {q : Int32 × zH}
theorem m_X12_fame : ∀ (h0 : zH) (x1 : Int32) {q : Int32 × zH}, f_X12_fame x1 h0 = some q → ∀ c, c ∉ md_X12_fame → q.2 c = h0 c := by
  intro h x1 q hf
  unfold f_X12_fame at hf
  have fr : ∀ c, c ∉ md_X12_fame → h c = h c := fun _ _ => rfl
  obtain ⟨r1, h2, er1, hf⟩ := zbd_some hf
  have fr : ∀ c, c ∉ md_X12_fame → h2 c = h c := fun c hc9 => (m_X12_isFamily _ _ er1 c (fun z => hc9 (sm_X12_fame_X12_isFamily c z))).trans (fr c hc9)
  rcases zif_c hf with ⟨hc, hf⟩ | ⟨hc, hf⟩
  · skip
    cases hf
    exact fr
  · skip
    obtain ⟨hi, hf⟩ := zck_some hf
    cases hf
    exact fr
end
section
abbrev md_X12_isElsewhere : List Nat := []
theorem sm_X12_isElsewhere_X12_quarters : ∀ c ∈ md_X12_quarters, c ∈ md_X12_isElsewhere := by decide
variable {q : Int32 × zH}
theorem m_X12_isElsewhere_28 {k2 : Int32 → Int32 → Int32 → zH → zR} (hk2 : ∀ (h0 : zH) (x1 : Int32) (x2 : Int32) (x3 : Int32), k2 x1 x2 x3 h0 = some q → ∀ c, c ∉ md_X12_isElsewhere → q.2 c = h0 c) : ∀ (h0 : zH) (x1 : Int32) (x2 : Int32) (x3 : Int32), f_X12_isElsewhere_28 k2 x1 x2 x3 h0 = some q → ∀ c, c ∉ md_X12_isElsewhere → q.2 c = h0 c := by
  intro h x1 x2 x3 hf
  unfold f_X12_isElsewhere_28 at hf
  have fr : ∀ c, c ∉ md_X12_isElsewhere → h c = h c := fun _ _ => rfl
  obtain ⟨y3, ey3, hf⟩ := zlt_some hf
  exact fun c hc9 => (hk2 _ _ _ _ hf c hc9).trans (fr c hc9)
theorem m_X12_isElsewhere_2   : ∀ n, ∀ (h0 : zH) (x1 : Int32) (x2 : Int32) (x3 : Int32), f_X12_isElsewhere_2  n x1 x2 x3 h0 = some q → ∀ c, c ∉ md_X12_isElsewhere → q.2 c = h0 c := by
  intro n
  induction n with
  | zero => intro h x1 x2 x3 hf; cases hf
  | succ n ih =>
    intro h x1 x2 x3 hf
    rw [f_X12_isElsewhere_2] at hf
    have fr : ∀ c, c ∉ md_X12_isElsewhere → h c = h c := fun _ _ => rfl
    rcases zif_c hf with ⟨hc, hf⟩ | ⟨hc, hf⟩
    · skip
      cases hf
      exact fr
    · skip
      obtain ⟨r1, h2, er1, hf⟩ := zbd_some hf
      have fr : ∀ c, c ∉ md_X12_isElsewhere → h2 c = h c := fun c hc9 => (m_X12_quarters _ _ _ er1 c (fun z => hc9 (sm_X12_isElsewhere_X12_quarters c z))).trans (fr c hc9)
      rcases zif_c hf with ⟨hc, hf⟩ | ⟨hc, hf⟩
      · skip
        exact fun c hc9 => (m_X12_isElsewhere_28 ih _ _ _ _ hf c hc9).trans (fr c hc9)
      · skip
        obtain ⟨r4, h5, er4, hf⟩ := zbd_some hf
        have fr : ∀ c, c ∉ md_X12_isElsewhere → h5 c = h c := fun c hc9 => (m_X12_quarters _ _ _ er4 c (fun z => hc9 (sm_X12_isElsewhere_X12_quarters c z))).trans (fr c hc9)
        rcases zif_n hf with ⟨hc, hf⟩ | ⟨hc, hf⟩
        · skip
          exact fun c hc9 => (m_X12_isElsewhere_28 ih _ _ _ _ hf c hc9).trans (fr c hc9)
        · skip
          cases hf
          exact fr
theorem m_X12_isElsewhere : ∀ (h0 : zH) (x1 : Int32) (x2 : Int32) {q : Int32 × zH}, f_X12_isElsewhere x1 x2 h0 = some q → ∀ c, c ∉ md_X12_isElsewhere → q.2 c = h0 c := by
  intro h x1 x2 q hf
  unfold f_X12_isElsewhere at hf
  have fr : ∀ c, c ∉ md_X12_isElsewhere → h c = h c := fun _ _ => rfl
  exact fun c hc9 => (m_X12_isElsewhere_2  zN _ _ _ _ hf c hc9).trans (fr c hc9)
end
section
abbrev md_X12_like : List Nat := []
theorem sm_X12_like_X12_isHalf : ∀ c ∈ md_X12_isHalf, c ∈ md_X12_like := by decide
theorem sm_X12_like_X12_isIn : ∀ c ∈ md_X12_isIn, c ∈ md_X12_like := by decide
theorem sm_X12_like_X12_ofHalf : ∀ c ∈ md_X12_ofHalf, c ∈ md_X12_like := by decide
theorem sm_X12_like_X12_isElsewhere : ∀ c ∈ md_X12_isElsewhere, c ∈ md_X12_like := by decide
variable {q : Int32 × zH}
theorem m_X12_like_18   : ∀ (h0 : zH), f_X12_like_18  h0 = some q → ∀ c, c ∉ md_X12_like → q.2 c = h0 c := by
  intro h hf
  unfold f_X12_like_18 at hf
  have fr : ∀ c, c ∉ md_X12_like → h c = h c := fun _ _ => rfl
  cases hf
  exact fr
theorem m_X12_like_104 {k25 : Int32 → Int32 → Int32 → Int32 → zH → zR} (hk25 : ∀ (h0 : zH) (x1 : Int32) (x2 : Int32) (x3 : Int32) (x4 : Int32), k25 x1 x2 x3 x4 h0 = some q → ∀ c, c ∉ md_X12_like → q.2 c = h0 c) : ∀ (h0 : zH) (x1 : Int32) (x2 : Int32) (x4 : Int32) (s0 : Int32) (s1 : Int32), f_X12_like_104 k25 x1 x2 x4 s0 s1 h0 = some q → ∀ c, c ∉ md_X12_like → q.2 c = h0 c := by
  intro h x1 x2 x4 s0 s1 hf
  unfold f_X12_like_104 at hf
  have fr : ∀ c, c ∉ md_X12_like → h c = h c := fun _ _ => rfl
  obtain ⟨y10, ey10, hf⟩ := zlt_some hf
  obtain ⟨y11, ey11, hf⟩ := zlt_some hf
  exact fun c hc9 => (hk25 _ _ _ _ _ hf c hc9).trans (fr c hc9)
theorem m_X12_like_103 {k25 : Int32 → Int32 → Int32 → Int32 → zH → zR} (hk25 : ∀ (h0 : zH) (x1 : Int32) (x2 : Int32) (x3 : Int32) (x4 : Int32), k25 x1 x2 x3 x4 h0 = some q → ∀ c, c ∉ md_X12_like → q.2 c = h0 c) : ∀ (h0 : zH) (x1 : Int32) (x2 : Int32) (x4 : Int32) (s0 : Int32), f_X12_like_103 k25 x1 x2 x4 s0 h0 = some q → ∀ c, c ∉ md_X12_like → q.2 c = h0 c := by
  intro h x1 x2 x4 s0 hf
  unfold f_X12_like_103 at hf
  have fr : ∀ c, c ∉ md_X12_like → h c = h c := fun _ _ => rfl
  exact fun c hc9 => (m_X12_like_104 hk25 _ _ _ _ _ _ hf c hc9).trans (fr c hc9)
theorem m_X12_like_25   : ∀ n, ∀ (h0 : zH) (x1 : Int32) (x2 : Int32) (x3 : Int32) (x4 : Int32), f_X12_like_25  n x1 x2 x3 x4 h0 = some q → ∀ c, c ∉ md_X12_like → q.2 c = h0 c := by
  intro n
  induction n with
  | zero => intro h x1 x2 x3 x4 hf; cases hf
  | succ n ih =>
    intro h x1 x2 x3 x4 hf
    rw [f_X12_like_25] at hf
    have fr : ∀ c, c ∉ md_X12_like → h c = h c := fun _ _ => rfl
    rcases zif_c hf with ⟨hc, hf⟩ | ⟨hc, hf⟩
    · skip
      cases hf
      exact fr
    · skip
      obtain ⟨r5, h6, er5, hf⟩ := zbd_some hf
      have fr : ∀ c, c ∉ md_X12_like → h6 c = h c := fun c hc9 => (m_X12_ofHalf _ _ _ er5 c (fun z => hc9 (sm_X12_like_X12_ofHalf c z))).trans (fr c hc9)
      obtain ⟨r7, h8, er7, hf⟩ := zbd_some hf
      have fr : ∀ c, c ∉ md_X12_like → h8 c = h c := fun c hc9 => (m_X12_ofHalf _ _ _ er7 c (fun z => hc9 (sm_X12_like_X12_ofHalf c z))).trans (fr c hc9)
      obtain ⟨y9, ey9, hf⟩ := zlt_some hf
      rcases zif_c hf with ⟨hc, hf⟩ | ⟨hc, hf⟩
      · skip
        exact fun c hc9 => (m_X12_like_103 ih _ _ _ _ _ hf c hc9).trans (fr c hc9)
      · skip
        obtain ⟨r12, h13, er12, hf⟩ := zbd_some hf
        have fr : ∀ c, c ∉ md_X12_like → h13 c = h c := fun c hc9 => (m_X12_ofHalf _ _ _ er12 c (fun z => hc9 (sm_X12_like_X12_ofHalf c z))).trans (fr c hc9)
        obtain ⟨r14, h15, er14, hf⟩ := zbd_some hf
        have fr : ∀ c, c ∉ md_X12_like → h15 c = h c := fun c hc9 => (m_X12_ofHalf _ _ _ er14 c (fun z => hc9 (sm_X12_like_X12_ofHalf c z))).trans (fr c hc9)
        rcases zif_n hf with ⟨hc, hf⟩ | ⟨hc, hf⟩
        · skip
          exact fun c hc9 => (m_X12_like_103 ih _ _ _ _ _ hf c hc9).trans (fr c hc9)
        · skip
          obtain ⟨r16, h17, er16, hf⟩ := zbd_some hf
          have fr : ∀ c, c ∉ md_X12_like → h17 c = h c := fun c hc9 => (m_X12_isIn _ _ _ _ er16 c (fun z => hc9 (sm_X12_like_X12_isIn c z))).trans (fr c hc9)
          rcases zif_c hf with ⟨hc, hf⟩ | ⟨hc, hf⟩
          · skip
            exact fun c hc9 => (m_X12_like_103 ih _ _ _ _ _ hf c hc9).trans (fr c hc9)
          · skip
            obtain ⟨r18, h19, er18, hf⟩ := zbd_some hf
            have fr : ∀ c, c ∉ md_X12_like → h19 c = h c := fun c hc9 => (m_X12_isElsewhere _ _ _ er18 c (fun z => hc9 (sm_X12_like_X12_isElsewhere c z))).trans (fr c hc9)
            rcases zif_c hf with ⟨hc, hf⟩ | ⟨hc, hf⟩
            · skip
              exact fun c hc9 => (m_X12_like_103 ih _ _ _ _ _ hf c hc9).trans (fr c hc9)
            · skip
              exact fun c hc9 => (m_X12_like_104 ih _ _ _ _ _ _ hf c hc9).trans (fr c hc9)
theorem m_X12_like : ∀ (h0 : zH) (x1 : Int32) (x2 : Int32) {q : Int32 × zH}, f_X12_like x1 x2 h0 = some q → ∀ c, c ∉ md_X12_like → q.2 c = h0 c := by
  intro h x1 x2 q hf
  unfold f_X12_like at hf
  have fr : ∀ c, c ∉ md_X12_like → h c = h c := fun _ _ => rfl
  obtain ⟨r1, h2, er1, hf⟩ := zbd_some hf
  have fr : ∀ c, c ∉ md_X12_like → h2 c = h c := fun c hc9 => (m_X12_isHalf _ _ er1 c (fun z => hc9 (sm_X12_like_X12_isHalf c z))).trans (fr c hc9)
  rcases zif_c hf with ⟨hc, hf⟩ | ⟨hc, hf⟩
  · skip
    exact fun c hc9 => (m_X12_like_18  _ hf c hc9).trans (fr c hc9)
  · skip
    obtain ⟨r3, h4, er3, hf⟩ := zbd_some hf
    have fr : ∀ c, c ∉ md_X12_like → h4 c = h c := fun c hc9 => (m_X12_isIn _ _ _ _ er3 c (fun z => hc9 (sm_X12_like_X12_isIn c z))).trans (fr c hc9)
    rcases zif_n hf with ⟨hc, hf⟩ | ⟨hc, hf⟩
    · skip
      exact fun c hc9 => (m_X12_like_25  zN _ _ _ _ _ hf c hc9).trans (fr c hc9)
    · skip
      exact fun c hc9 => (m_X12_like_18  _ hf c hc9).trans (fr c hc9)
end
section
abbrev md_X12_undo : List Nat := [100, 101]
variable {q : Int32 × zH}
theorem m_X12_undo_72   : ∀ n, ∀ (h0 : zH) (x1 : Int32) (x2 : Int32), f_X12_undo_72  n x1 x2 h0 = some q → ∀ c, c ∉ md_X12_undo → q.2 c = h0 c := by
  intro n
  induction n with
  | zero => intro h x1 x2 hf; cases hf
  | succ n ih =>
    intro h x1 x2 hf
    rw [f_X12_undo_72] at hf
    have fr : ∀ c, c ∉ md_X12_undo → h c = h c := fun _ _ => rfl
    rcases zif_c hf with ⟨hc, hf⟩ | ⟨hc, hf⟩
    · skip
      cases hf
      exact fr
    · skip
      obtain ⟨hi, hf⟩ := zck_some hf
      obtain ⟨hi, hf⟩ := zck_some hf
      obtain ⟨h6, eh6, hf⟩ := zst_some hf
      have fr : ∀ c, c ∉ md_X12_undo → h6 c = h c := fun c hc9 => (congrFun eh6 c).trans ((zup_ne c (fun z => hc9 (by rw [z]; decide))).trans (fr c hc9))
      obtain ⟨y7, ey7, hf⟩ := zlt_some hf
      exact fun c hc9 => (ih _ _ _ hf c hc9).trans (fr c hc9)
theorem m_X12_undo : ∀ (h0 : zH) {q : Int32 × zH}, f_X12_undo h0 = some q → ∀ c, c ∉ md_X12_undo → q.2 c = h0 c := by
  intro h q hf
  unfold f_X12_undo at hf
  have fr : ∀ c, c ∉ md_X12_undo → h c = h c := fun _ _ => rfl
  rcases zif_n hf with ⟨hc, hf⟩ | ⟨hc, hf⟩
  · skip
    obtain ⟨h1, eh1, hf⟩ := zst_some hf
    have fr : ∀ c, c ∉ md_X12_undo → h1 c = h c := fun c hc9 => (congrFun eh1 c).trans ((zup_ne c (fun z => hc9 (by rw [z]; decide))).trans (fr c hc9))
    obtain ⟨y2, ey2, hf⟩ := zlt_some hf
    obtain ⟨hi, hf⟩ := zck_some hf
    obtain ⟨h3, eh3, hf⟩ := zst_some hf
    have fr : ∀ c, c ∉ md_X12_undo → h3 c = h c := fun c hc9 => (congrFun eh3 c).trans ((zup_ne c (fun z => hc9 (by rw [z]; decide))).trans (fr c hc9))
    obtain ⟨hi, hf⟩ := zck_some hf
    obtain ⟨h4, eh4, hf⟩ := zst_some hf
    have fr : ∀ c, c ∉ md_X12_undo → h4 c = h c := fun c hc9 => (congrFun eh4 c).trans ((zup_ne c (fun z => hc9 (by rw [z]; decide))).trans (fr c hc9))
    obtain ⟨hi, hf⟩ := zck_some hf
    obtain ⟨h5, eh5, hf⟩ := zst_some hf
    have fr : ∀ c, c ∉ md_X12_undo → h5 c = h c := fun c hc9 => (congrFun eh5 c).trans ((zup_ne c (fun z => hc9 (by rw [z]; decide))).trans (fr c hc9))
    exact fun c hc9 => (m_X12_undo_72  zN _ _ _ hf c hc9).trans (fr c hc9)
  · skip
    cases hf
    exact fr
end
section
abbrev md_X12_look : List Nat := []
theorem sm_X12_look_X12_isIn : ∀ c ∈ md_X12_isIn, c ∈ md_X12_look := by decide
theorem sm_X12_look_X12_guestAt : ∀ c ∈ md_X12_guestAt, c ∈ md_X12_look := by decide
variable {q : Int32 × zH}
theorem m_X12_look : ∀ (h0 : zH) (x1 : Int32) {q : Int32 × zH}, f_X12_look x1 h0 = some q → ∀ c, c ∉ md_X12_look → q.2 c = h0 c := by
  intro h x1 q hf
  unfold f_X12_look at hf
  have fr : ∀ c, c ∉ md_X12_look → h c = h c := fun _ _ => rfl
  obtain ⟨r1, h2, er1, hf⟩ := zbd_some hf
  have fr : ∀ c, c ∉ md_X12_look → h2 c = h c := fun c hc9 => (m_X12_isIn _ _ _ _ er1 c (fun z => hc9 (sm_X12_look_X12_isIn c z))).trans (fr c hc9)
  rcases zif_c hf with ⟨hc, hf⟩ | ⟨hc, hf⟩
  · skip
    rcases zif_n hf with ⟨hc, hf⟩ | ⟨hc, hf⟩
    · skip
      rcases zif_n hf with ⟨hc, hf⟩ | ⟨hc, hf⟩
      · skip
        obtain ⟨r3, h4, er3, hf⟩ := zbd_some hf
        have fr : ∀ c, c ∉ md_X12_look → h4 c = h c := fun c hc9 => (m_X12_isIn _ _ _ _ er3 c (fun z => hc9 (sm_X12_look_X12_isIn c z))).trans (fr c hc9)
        rcases zif_c hf with ⟨hc, hf⟩ | ⟨hc, hf⟩
        · skip
          obtain ⟨r5, h6, er5, hf⟩ := zbd_some hf
          have fr : ∀ c, c ∉ md_X12_look → h6 c = h c := fun c hc9 => (m_X12_isIn _ _ _ _ er5 c (fun z => hc9 (sm_X12_look_X12_isIn c z))).trans (fr c hc9)
          rcases zif_c hf with ⟨hc, hf⟩ | ⟨hc, hf⟩
          · skip
            cases hf
            exact fr
          · skip
            obtain ⟨hi, hf⟩ := zck_some hf
            cases hf
            exact fr
        · skip
          obtain ⟨r7, h8, er7, hf⟩ := zbd_some hf
          have fr : ∀ c, c ∉ md_X12_look → h8 c = h c := fun c hc9 => (m_X12_guestAt _ _ er7 c (fun z => hc9 (sm_X12_look_X12_guestAt c z))).trans (fr c hc9)
          cases hf
          exact fr
      · skip
        cases hf
        exact fr
    · skip
      cases hf
      exact fr
  · skip
    obtain ⟨hi, hf⟩ := zck_some hf
    cases hf
    exact fr
end
section
abbrev md_X12_both : List Nat := []
variable {q : Int32 × zH}
theorem m_X12_both_101   : ∀ (h0 : zH) (x1 : Int32) (x2 : Int32), f_X12_both_101  x1 x2 h0 = some q → ∀ c, c ∉ md_X12_both → q.2 c = h0 c := by
  intro h x1 x2 hf
  unfold f_X12_both_101 at hf
  have fr : ∀ c, c ∉ md_X12_both → h c = h c := fun _ _ => rfl
  cases hf
  exact fr
theorem m_X12_both : ∀ (h0 : zH) (x0 : Int32) (x1 : Int32) (x2 : Int32) {q : Int32 × zH}, f_X12_both x0 x1 x2 h0 = some q → ∀ c, c ∉ md_X12_both → q.2 c = h0 c := by
  intro h x0 x1 x2 q hf
  unfold f_X12_both at hf
  have fr : ∀ c, c ∉ md_X12_both → h c = h c := fun _ _ => rfl
  by_cases hc13 : x0 = (13 : Int32)
  · have hf := zif_t hc13 hf
    cases hf
    exact fr
  have hf := zif_f hc13 hf
  by_cases hc14 : x0 = (14 : Int32)
  · have hf := zif_t hc14 hf
    cases hf
    exact fr
  have hf := zif_f hc14 hf
  by_cases hc15 : x0 = (15 : Int32)
  · have hf := zif_t hc15 hf
    cases hf
    exact fr
  have hf := zif_f hc15 hf
  by_cases hc16 : x0 = (16 : Int32)
  · have hf := zif_t hc16 hf
    exact fun c hc9 => (m_X12_both_101  _ _ _ hf c hc9).trans (fr c hc9)
  have hf := zif_f hc16 hf
  by_cases hc17 : x0 = (17 : Int32)
  · have hf := zif_t hc17 hf
    rcases zif_c hf with ⟨hc, hf⟩ | ⟨hc, hf⟩
    · skip
      cases hf
      exact fr
    · skip
      cases hf
      exact fr
  have hf := zif_f hc17 hf
  by_cases hc18 : x0 = (18 : Int32)
  · have hf := zif_t hc18 hf
    rcases zif_n hf with ⟨hc, hf⟩ | ⟨hc, hf⟩
    · skip
      cases hf
      exact fr
    · skip
      cases hf
      exact fr
  have hf := zif_f hc18 hf
  by_cases hc19 : x0 = (19 : Int32)
  · have hf := zif_t hc19 hf
    rcases zif_c hf with ⟨hc, hf⟩ | ⟨hc, hf⟩
    · skip
      cases hf
      exact fr
    · skip
      cases hf
      exact fr
  have hf := zif_f hc19 hf
  by_cases hc20 : x0 = (20 : Int32)
  · have hf := zif_t hc20 hf
    exact fun c hc9 => (m_X12_both_101  _ _ _ hf c hc9).trans (fr c hc9)
  have hf := zif_f hc20 hf
  by_cases hc21 : x0 = (21 : Int32)
  · have hf := zif_t hc21 hf
    cases hf
    exact fr
  have hf := zif_f hc21 hf
  exact fun c hc9 => (m_X12_both_101  _ _ _ hf c hc9).trans (fr c hc9)
end
section
abbrev md_X12_comesTo : List Nat := [108]
theorem sm_X12_comesTo_X12_both : ∀ c ∈ md_X12_both, c ∈ md_X12_comesTo := by decide
variable {q : Int32 × zH}
theorem m_X12_comesTo_160 {k5 : Int32 → Int32 → Int32 → zH → zR} (hk5 : ∀ (h0 : zH) (x2 : Int32) (x3 : Int32) (x4 : Int32), k5 x2 x3 x4 h0 = some q → ∀ c, c ∉ md_X12_comesTo → q.2 c = h0 c) : ∀ (h0 : zH) (x2 : Int32) (x3 : Int32) (x4 : Int32), f_X12_comesTo_160 k5 x2 x3 x4 h0 = some q → ∀ c, c ∉ md_X12_comesTo → q.2 c = h0 c := by
  intro h x2 x3 x4 hf
  unfold f_X12_comesTo_160 at hf
  have fr : ∀ c, c ∉ md_X12_comesTo → h c = h c := fun _ _ => rfl
  obtain ⟨y7, ey7, hf⟩ := zlt_some hf
  exact fun c hc9 => (hk5 _ _ _ _ hf c hc9).trans (fr c hc9)
theorem m_X12_comesTo_72 {k5 : Int32 → Int32 → Int32 → zH → zR} (hk5 : ∀ (h0 : zH) (x2 : Int32) (x3 : Int32) (x4 : Int32), k5 x2 x3 x4 h0 = some q → ∀ c, c ∉ md_X12_comesTo → q.2 c = h0 c) : ∀ (h0 : zH) (x2 : Int32) (x3 : Int32) (x4 : Int32) (s0 : Int32) (s1 : Int32), f_X12_comesTo_72 k5 x2 x3 x4 s0 s1 h0 = some q → ∀ c, c ∉ md_X12_comesTo → q.2 c = h0 c := by
  intro h x2 x3 x4 s0 s1 hf
  unfold f_X12_comesTo_72 at hf
  have fr : ∀ c, c ∉ md_X12_comesTo → h c = h c := fun _ _ => rfl
  obtain ⟨hi, hf⟩ := zck_some hf
  obtain ⟨h10, eh10, hf⟩ := zst_some hf
  have fr : ∀ c, c ∉ md_X12_comesTo → h10 c = h c := fun c hc9 => (congrFun eh10 c).trans ((zup_ne c (fun z => hc9 (by rw [z]; decide))).trans (fr c hc9))
  obtain ⟨y11, ey11, hf⟩ := zlt_some hf
  exact fun c hc9 => (m_X12_comesTo_160 hk5 _ _ _ _ hf c hc9).trans (fr c hc9)
theorem m_X12_comesTo_5   : ∀ n, ∀ (h0 : zH) (x2 : Int32) (x3 : Int32) (x4 : Int32), f_X12_comesTo_5  n x2 x3 x4 h0 = some q → ∀ c, c ∉ md_X12_comesTo → q.2 c = h0 c := by
  intro n
  induction n with
  | zero => intro h x2 x3 x4 hf; cases hf
  | succ n ih =>
    intro h x2 x3 x4 hf
    rw [f_X12_comesTo_5] at hf
    have fr : ∀ c, c ∉ md_X12_comesTo → h c = h c := fun _ _ => rfl
    rcases zif_c hf with ⟨hc, hf⟩ | ⟨hc, hf⟩
    · skip
      cases hf
      exact fr
    · skip
      obtain ⟨hi, hf⟩ := zck_some hf
      obtain ⟨y1, ey1, hf⟩ := zlt_some hf
      obtain ⟨hi, hf⟩ := zck_some hf
      obtain ⟨y2, ey2, hf⟩ := zlt_some hf
      rcases zif_c hf with ⟨hc, hf⟩ | ⟨hc, hf⟩
      · skip
        rcases zif_n hf with ⟨hc, hf⟩ | ⟨hc, hf⟩
        · skip
          rcases zif_n hf with ⟨hc, hf⟩ | ⟨hc, hf⟩
          · skip
            obtain ⟨y3, ey3, hf⟩ := zlt_some hf
            obtain ⟨hi, hf⟩ := zck_some hf
            obtain ⟨hi, hf⟩ := zck_some hf
            obtain ⟨r4, h5, er4, hf⟩ := zbd_some hf
            have fr : ∀ c, c ∉ md_X12_comesTo → h5 c = h c := fun c hc9 => (m_X12_both _ _ _ _ er4 c (fun z => hc9 (sm_X12_comesTo_X12_both c z))).trans (fr c hc9)
            obtain ⟨hi, hf⟩ := zck_some hf
            obtain ⟨h6, eh6, hf⟩ := zst_some hf
            have fr : ∀ c, c ∉ md_X12_comesTo → h6 c = h c := fun c hc9 => (congrFun eh6 c).trans ((zup_ne c (fun z => hc9 (by rw [z]; decide))).trans (fr c hc9))
            exact fun c hc9 => (m_X12_comesTo_160 ih _ _ _ _ hf c hc9).trans (fr c hc9)
          · skip
            obtain ⟨hi, hf⟩ := zck_some hf
            obtain ⟨hi, hf⟩ := zck_some hf
            obtain ⟨h8, eh8, hf⟩ := zst_some hf
            have fr : ∀ c, c ∉ md_X12_comesTo → h8 c = h c := fun c hc9 => (congrFun eh8 c).trans ((zup_ne c (fun z => hc9 (by rw [z]; decide))).trans (fr c hc9))
            exact fun c hc9 => (m_X12_comesTo_160 ih _ _ _ _ hf c hc9).trans (fr c hc9)
        · skip
          obtain ⟨hi, hf⟩ := zck_some hf
          obtain ⟨hz, hf⟩ := znz_some hf
          obtain ⟨hi, hf⟩ := zck_some hf
          obtain ⟨h9, eh9, hf⟩ := zst_some hf
          have fr : ∀ c, c ∉ md_X12_comesTo → h9 c = h c := fun c hc9 => (congrFun eh9 c).trans ((zup_ne c (fun z => hc9 (by rw [z]; decide))).trans (fr c hc9))
          exact fun c hc9 => (m_X12_comesTo_160 ih _ _ _ _ hf c hc9).trans (fr c hc9)
      · skip
        rcases zif_n hf with ⟨hc, hf⟩ | ⟨hc, hf⟩
        · skip
          obtain ⟨hi, hf⟩ := zck_some hf
          exact fun c hc9 => (m_X12_comesTo_72 ih _ _ _ _ _ _ hf c hc9).trans (fr c hc9)
        · skip
          exact fun c hc9 => (m_X12_comesTo_72 ih _ _ _ _ _ _ hf c hc9).trans (fr c hc9)
theorem m_X12_comesTo : ∀ (h0 : zH) (x1 : Int32) (x2 : Int32) {q : Int32 × zH}, f_X12_comesTo x1 x2 h0 = some q → ∀ c, c ∉ md_X12_comesTo → q.2 c = h0 c := by
  intro h x1 x2 q hf
  unfold f_X12_comesTo at hf
  have fr : ∀ c, c ∉ md_X12_comesTo → h c = h c := fun _ _ => rfl
  exact fun c hc9 => (m_X12_comesTo_5  zN _ _ _ _ hf c hc9).trans (fr c hc9)
end
section
abbrev md_X12_least : List Nat := []
variable {q : Int32 × zH}
theorem m_X12_least : ∀ (h0 : zH) (x0 : Int32) (x1 : Int32) {q : Int32 × zH}, f_X12_least x0 x1 h0 = some q → ∀ c, c ∉ md_X12_least → q.2 c = h0 c := by
  intro h x0 x1 q hf
  unfold f_X12_least at hf
  have fr : ∀ c, c ∉ md_X12_least → h c = h c := fun _ _ => rfl
  rcases zif_c hf with ⟨hc, hf⟩ | ⟨hc, hf⟩
  · skip
    cases hf
    exact fr
  · skip
    cases hf
    exact fr
end
section
abbrev md_X12_most : List Nat := []
variable {q : Int32 × zH}
theorem m_X12_most : ∀ (h0 : zH) (x0 : Int32) (x1 : Int32) {q : Int32 × zH}, f_X12_most x0 x1 h0 = some q → ∀ c, c ∉ md_X12_most → q.2 c = h0 c := by
  intro h x0 x1 q hf
  unfold f_X12_most at hf
  have fr : ∀ c, c ∉ md_X12_most → h c = h c := fun _ _ => rfl
  rcases zif_c hf with ⟨hc, hf⟩ | ⟨hc, hf⟩
  · skip
    cases hf
    exact fr
  · skip
    cases hf
    exact fr
end
section
abbrev md_X12_laughOf : List Nat := [108, 109]
theorem sm_X12_laughOf_X12_ofHalf : ∀ c ∈ md_X12_ofHalf, c ∈ md_X12_laughOf := by decide
theorem sm_X12_laughOf_X12_comesTo : ∀ c ∈ md_X12_comesTo, c ∈ md_X12_laughOf := by decide
theorem sm_X12_laughOf_X12_least : ∀ c ∈ md_X12_least, c ∈ md_X12_laughOf := by decide
theorem sm_X12_laughOf_X12_most : ∀ c ∈ md_X12_most, c ∈ md_X12_laughOf := by decide
variable {q : Int32 × zH}
theorem m_X12_laughOf_209   : ∀ (h0 : zH) (x4 : Int32), f_X12_laughOf_209  x4 h0 = some q → ∀ c, c ∉ md_X12_laughOf → q.2 c = h0 c := by
  intro h x4 hf
  unfold f_X12_laughOf_209 at hf
  have fr : ∀ c, c ∉ md_X12_laughOf → h c = h c := fun _ _ => rfl
  obtain ⟨hi, hf⟩ := zck_some hf
  obtain ⟨hi, hf⟩ := zck_some hf
  obtain ⟨r19, h20, er19, hf⟩ := zbd_some hf
  have fr : ∀ c, c ∉ md_X12_laughOf → h20 c = h c := fun c hc9 => (m_X12_comesTo _ _ _ er19 c (fun z => hc9 (sm_X12_laughOf_X12_comesTo c z))).trans (fr c hc9)
  obtain ⟨r21, h22, er21, hf⟩ := zbd_some hf
  have fr : ∀ c, c ∉ md_X12_laughOf → h22 c = h c := fun c hc9 => (m_X12_least _ _ _ er21 c (fun z => hc9 (sm_X12_laughOf_X12_least c z))).trans (fr c hc9)
  obtain ⟨r23, h24, er23, hf⟩ := zbd_some hf
  have fr : ∀ c, c ∉ md_X12_laughOf → h24 c = h c := fun c hc9 => (m_X12_most _ _ _ er23 c (fun z => hc9 (sm_X12_laughOf_X12_most c z))).trans (fr c hc9)
  cases hf
  exact fr
theorem m_X12_laughOf_141   : ∀ n, ∀ (h0 : zH) (x4 : Int32), f_X12_laughOf_141  n x4 h0 = some q → ∀ c, c ∉ md_X12_laughOf → q.2 c = h0 c := by
  intro n
  induction n with
  | zero => intro h x4 hf; cases hf
  | succ n ih =>
    intro h x4 hf
    rw [f_X12_laughOf_141] at hf
    have fr : ∀ c, c ∉ md_X12_laughOf → h c = h c := fun _ _ => rfl
    rcases zif_c hf with ⟨hc, hf⟩ | ⟨hc, hf⟩
    · skip
      cases hf
      exact fr
    · skip
      obtain ⟨hi, hf⟩ := zck_some hf
      obtain ⟨hi, hf⟩ := zck_some hf
      rcases zif_c hf with ⟨hc, hf⟩ | ⟨hc, hf⟩
      · skip
        exact fun c hc9 => (m_X12_laughOf_209  _ _ hf c hc9).trans (fr c hc9)
      · skip
        obtain ⟨hi, hf⟩ := zck_some hf
        obtain ⟨hi, hf⟩ := zck_some hf
        obtain ⟨r25, h26, er25, hf⟩ := zbd_some hf
        have fr : ∀ c, c ∉ md_X12_laughOf → h26 c = h c := fun c hc9 => (m_X12_comesTo _ _ _ er25 c (fun z => hc9 (sm_X12_laughOf_X12_comesTo c z))).trans (fr c hc9)
        rcases zif_n hf with ⟨hc, hf⟩ | ⟨hc, hf⟩
        · skip
          obtain ⟨y27, ey27, hf⟩ := zlt_some hf
          exact fun c hc9 => (ih _ _ hf c hc9).trans (fr c hc9)
        · skip
          exact fun c hc9 => (m_X12_laughOf_209  _ _ hf c hc9).trans (fr c hc9)
theorem m_X12_laughOf_111   : ∀ (h0 : zH) (x1 : Int32) (s0 : Int32) (s1 : Int32), f_X12_laughOf_111  x1 s0 s1 h0 = some q → ∀ c, c ∉ md_X12_laughOf → q.2 c = h0 c := by
  intro h x1 s0 s1 hf
  unfold f_X12_laughOf_111 at hf
  have fr : ∀ c, c ∉ md_X12_laughOf → h c = h c := fun _ _ => rfl
  obtain ⟨hi, hf⟩ := zck_some hf
  obtain ⟨h14, eh14, hf⟩ := zst_some hf
  have fr : ∀ c, c ∉ md_X12_laughOf → h14 c = h c := fun c hc9 => (congrFun eh14 c).trans ((zup_ne c (fun z => hc9 (by rw [z]; decide))).trans (fr c hc9))
  obtain ⟨h15, eh15, hf⟩ := zst_some hf
  have fr : ∀ c, c ∉ md_X12_laughOf → h15 c = h c := fun c hc9 => (congrFun eh15 c).trans ((zup_ne c (fun z => hc9 (by rw [z]; decide))).trans (fr c hc9))
  obtain ⟨r16, h17, er16, hf⟩ := zbd_some hf
  have fr : ∀ c, c ∉ md_X12_laughOf → h17 c = h c := fun c hc9 => (m_X12_ofHalf _ _ _ er16 c (fun z => hc9 (sm_X12_laughOf_X12_ofHalf c z))).trans (fr c hc9)
  obtain ⟨h18, eh18, hf⟩ := zst_some hf
  have fr : ∀ c, c ∉ md_X12_laughOf → h18 c = h c := fun c hc9 => (congrFun eh18 c).trans ((zup_ne c (fun z => hc9 (by rw [z]; decide))).trans (fr c hc9))
  exact fun c hc9 => (m_X12_laughOf_141  zN _ _ hf c hc9).trans (fr c hc9)
theorem m_X12_laughOf_65   : ∀ (h0 : zH) (x1 : Int32) (x2 : Int32) (x3 : Int32) (s0 : Int32) (s1 : Int32), f_X12_laughOf_65  x1 x2 x3 s0 s1 h0 = some q → ∀ c, c ∉ md_X12_laughOf → q.2 c = h0 c := by
  intro h x1 x2 x3 s0 s1 hf
  unfold f_X12_laughOf_65 at hf
  have fr : ∀ c, c ∉ md_X12_laughOf → h c = h c := fun _ _ => rfl
  obtain ⟨hi, hf⟩ := zck_some hf
  obtain ⟨h12, eh12, hf⟩ := zst_some hf
  have fr : ∀ c, c ∉ md_X12_laughOf → h12 c = h c := fun c hc9 => (congrFun eh12 c).trans ((zup_ne c (fun z => hc9 (by rw [z]; decide))).trans (fr c hc9))
  obtain ⟨hi, hf⟩ := zck_some hf
  obtain ⟨h13, eh13, hf⟩ := zst_some hf
  have fr : ∀ c, c ∉ md_X12_laughOf → h13 c = h c := fun c hc9 => (congrFun eh13 c).trans ((zup_ne c (fun z => hc9 (by rw [z]; decide))).trans (fr c hc9))
  rcases zif_n hf with ⟨hc, hf⟩ | ⟨hc, hf⟩
  · skip
    exact fun c hc9 => (m_X12_laughOf_111  _ _ _ _ hf c hc9).trans (fr c hc9)
  · skip
    exact fun c hc9 => (m_X12_laughOf_111  _ _ _ _ hf c hc9).trans (fr c hc9)
theorem m_X12_laughOf : ∀ (h0 : zH) (x1 : Int32) (x2 : Int32) {q : Int32 × zH}, f_X12_laughOf x1 x2 h0 = some q → ∀ c, c ∉ md_X12_laughOf → q.2 c = h0 c := by
  intro h x1 x2 q hf
  unfold f_X12_laughOf at hf
  have fr : ∀ c, c ∉ md_X12_laughOf → h c = h c := fun _ _ => rfl
  obtain ⟨hi, hf⟩ := zck_some hf
  obtain ⟨y1, ey1, hf⟩ := zlt_some hf
  obtain ⟨r2, h3, er2, hf⟩ := zbd_some hf
  have fr : ∀ c, c ∉ md_X12_laughOf → h3 c = h c := fun c hc9 => (m_X12_ofHalf _ _ _ er2 c (fun z => hc9 (sm_X12_laughOf_X12_ofHalf c z))).trans (fr c hc9)
  obtain ⟨h4, eh4, hf⟩ := zst_some hf
  have fr : ∀ c, c ∉ md_X12_laughOf → h4 c = h c := fun c hc9 => (congrFun eh4 c).trans ((zup_ne c (fun z => hc9 (by rw [z]; decide))).trans (fr c hc9))
  obtain ⟨r5, h6, er5, hf⟩ := zbd_some hf
  have fr : ∀ c, c ∉ md_X12_laughOf → h6 c = h c := fun c hc9 => (m_X12_ofHalf _ _ _ er5 c (fun z => hc9 (sm_X12_laughOf_X12_ofHalf c z))).trans (fr c hc9)
  obtain ⟨h7, eh7, hf⟩ := zst_some hf
  have fr : ∀ c, c ∉ md_X12_laughOf → h7 c = h c := fun c hc9 => (congrFun eh7 c).trans ((zup_ne c (fun z => hc9 (by rw [z]; decide))).trans (fr c hc9))
  obtain ⟨r8, h9, er8, hf⟩ := zbd_some hf
  have fr : ∀ c, c ∉ md_X12_laughOf → h9 c = h c := fun c hc9 => (m_X12_ofHalf _ _ _ er8 c (fun z => hc9 (sm_X12_laughOf_X12_ofHalf c z))).trans (fr c hc9)
  obtain ⟨r10, h11, er10, hf⟩ := zbd_some hf
  have fr : ∀ c, c ∉ md_X12_laughOf → h11 c = h c := fun c hc9 => (m_X12_ofHalf _ _ _ er10 c (fun z => hc9 (sm_X12_laughOf_X12_ofHalf c z))).trans (fr c hc9)
  rcases zif_n hf with ⟨hc, hf⟩ | ⟨hc, hf⟩
  · skip
    exact fun c hc9 => (m_X12_laughOf_65  _ _ _ _ _ _ hf c hc9).trans (fr c hc9)
  · skip
    exact fun c hc9 => (m_X12_laughOf_65  _ _ _ _ _ _ hf c hc9).trans (fr c hc9)
end
section
abbrev md_X12_laugh : List Nat := [108, 109]
theorem sm_X12_laugh_X12_isFront : ∀ c ∈ md_X12_isFront, c ∈ md_X12_laugh := by decide
theorem sm_X12_laugh_X12_isEnd : ∀ c ∈ md_X12_isEnd, c ∈ md_X12_laugh := by decide
theorem sm_X12_laugh_X12_laughOf : ∀ c ∈ md_X12_laughOf, c ∈ md_X12_laugh := by decide
variable {q : Int32 × zH}
theorem m_X12_laugh_25   : ∀ (h0 : zH), f_X12_laugh_25  h0 = some q → ∀ c, c ∉ md_X12_laugh → q.2 c = h0 c := by
  intro h hf
  unfold f_X12_laugh_25 at hf
  have fr : ∀ c, c ∉ md_X12_laugh → h c = h c := fun _ _ => rfl
  cases hf
  exact fr
theorem m_X12_laugh : ∀ (h0 : zH) (x1 : Int32) (x2 : Int32) {q : Int32 × zH}, f_X12_laugh x1 x2 h0 = some q → ∀ c, c ∉ md_X12_laugh → q.2 c = h0 c := by
  intro h x1 x2 q hf
  unfold f_X12_laugh at hf
  have fr : ∀ c, c ∉ md_X12_laugh → h c = h c := fun _ _ => rfl
  obtain ⟨r1, h2, er1, hf⟩ := zbd_some hf
  have fr : ∀ c, c ∉ md_X12_laugh → h2 c = h c := fun c hc9 => (m_X12_isFront _ _ er1 c (fun z => hc9 (sm_X12_laugh_X12_isFront c z))).trans (fr c hc9)
  rcases zif_c hf with ⟨hc, hf⟩ | ⟨hc, hf⟩
  · skip
    exact fun c hc9 => (m_X12_laugh_25  _ hf c hc9).trans (fr c hc9)
  · skip
    obtain ⟨r3, h4, er3, hf⟩ := zbd_some hf
    have fr : ∀ c, c ∉ md_X12_laugh → h4 c = h c := fun c hc9 => (m_X12_isEnd _ _ er3 c (fun z => hc9 (sm_X12_laugh_X12_isEnd c z))).trans (fr c hc9)
    rcases zif_c hf with ⟨hc, hf⟩ | ⟨hc, hf⟩
    · skip
      exact fun c hc9 => (m_X12_laugh_25  _ hf c hc9).trans (fr c hc9)
    · skip
      obtain ⟨r5, h6, er5, hf⟩ := zbd_some hf
      have fr : ∀ c, c ∉ md_X12_laugh → h6 c = h c := fun c hc9 => (m_X12_laughOf _ _ _ er5 c (fun z => hc9 (sm_X12_laugh_X12_laughOf c z))).trans (fr c hc9)
      cases hf
      exact fr
end
section
abbrev md_X12_canTell : List Nat := []
theorem sm_X12_canTell_X12_quarters : ∀ c ∈ md_X12_quarters, c ∈ md_X12_canTell := by decide
variable {q : Int32 × zH}
theorem m_X12_canTell : ∀ (h0 : zH) (x1 : Int32) (x2 : Int32) {q : Int32 × zH}, f_X12_canTell x1 x2 h0 = some q → ∀ c, c ∉ md_X12_canTell → q.2 c = h0 c := by
  intro h x1 x2 q hf
  unfold f_X12_canTell at hf
  have fr : ∀ c, c ∉ md_X12_canTell → h c = h c := fun _ _ => rfl
  obtain ⟨r1, h2, er1, hf⟩ := zbd_some hf
  have fr : ∀ c, c ∉ md_X12_canTell → h2 c = h c := fun c hc9 => (m_X12_quarters _ _ _ er1 c (fun z => hc9 (sm_X12_canTell_X12_quarters c z))).trans (fr c hc9)
  rcases zif_c hf with ⟨hc, hf⟩ | ⟨hc, hf⟩
  · skip
    cases hf
    exact fr
  · skip
    cases hf
    exact fr
end
section
abbrev md_X12_canBoth : List Nat := []
theorem sm_X12_canBoth_X12_canTell : ∀ c ∈ md_X12_canTell, c ∈ md_X12_canBoth := by decide
variable {q : Int32 × zH}
theorem m_X12_canBoth_23   : ∀ (h0 : zH), f_X12_canBoth_23  h0 = some q → ∀ c, c ∉ md_X12_canBoth → q.2 c = h0 c := by
  intro h hf
  unfold f_X12_canBoth_23 at hf
  have fr : ∀ c, c ∉ md_X12_canBoth → h c = h c := fun _ _ => rfl
  cases hf
  exact fr
theorem m_X12_canBoth : ∀ (h0 : zH) (x1 : Int32) (x2 : Int32) (x3 : Int32) (x4 : Int32) {q : Int32 × zH}, f_X12_canBoth x1 x2 x3 x4 h0 = some q → ∀ c, c ∉ md_X12_canBoth → q.2 c = h0 c := by
  intro h x1 x2 x3 x4 q hf
  unfold f_X12_canBoth at hf
  have fr : ∀ c, c ∉ md_X12_canBoth → h c = h c := fun _ _ => rfl
  obtain ⟨r1, h2, er1, hf⟩ := zbd_some hf
  have fr : ∀ c, c ∉ md_X12_canBoth → h2 c = h c := fun c hc9 => (m_X12_canTell _ _ _ er1 c (fun z => hc9 (sm_X12_canBoth_X12_canTell c z))).trans (fr c hc9)
  rcases zif_c hf with ⟨hc, hf⟩ | ⟨hc, hf⟩
  · skip
    exact fun c hc9 => (m_X12_canBoth_23  _ hf c hc9).trans (fr c hc9)
  · skip
    obtain ⟨r3, h4, er3, hf⟩ := zbd_some hf
    have fr : ∀ c, c ∉ md_X12_canBoth → h4 c = h c := fun c hc9 => (m_X12_canTell _ _ _ er3 c (fun z => hc9 (sm_X12_canBoth_X12_canTell c z))).trans (fr c hc9)
    rcases zif_c hf with ⟨hc, hf⟩ | ⟨hc, hf⟩
    · skip
      exact fun c hc9 => (m_X12_canBoth_23  _ hf c hc9).trans (fr c hc9)
    · skip
      cases hf
      exact fr
end
section
abbrev md_X12_laysTelling : List Nat := [100, 108, 109]
theorem sm_X12_laysTelling_X12_guestAt : ∀ c ∈ md_X12_guestAt, c ∈ md_X12_laysTelling := by decide
theorem sm_X12_laysTelling_X12_ofGuest : ∀ c ∈ md_X12_ofGuest, c ∈ md_X12_laysTelling := by decide
theorem sm_X12_laysTelling_X12_isFront : ∀ c ∈ md_X12_isFront, c ∈ md_X12_laysTelling := by decide
theorem sm_X12_laysTelling_X12_isEnd : ∀ c ∈ md_X12_isEnd, c ∈ md_X12_laysTelling := by decide
theorem sm_X12_laysTelling_X12_canBoth : ∀ c ∈ md_X12_canBoth, c ∈ md_X12_laysTelling := by decide
theorem sm_X12_laysTelling_X12_laughOf : ∀ c ∈ md_X12_laughOf, c ∈ md_X12_laysTelling := by decide
variable {q : Int32 × zH}
theorem m_X12_laysTelling_36   : ∀ (h0 : zH), f_X12_laysTelling_36  h0 = some q → ∀ c, c ∉ md_X12_laysTelling → q.2 c = h0 c := by
  intro h hf
  unfold f_X12_laysTelling_36 at hf
  have fr : ∀ c, c ∉ md_X12_laysTelling → h c = h c := fun _ _ => rfl
  cases hf
  exact fr
theorem m_X12_laysTelling_80   : ∀ (h0 : zH), f_X12_laysTelling_80  h0 = some q → ∀ c, c ∉ md_X12_laysTelling → q.2 c = h0 c := by
  intro h hf
  unfold f_X12_laysTelling_80 at hf
  have fr : ∀ c, c ∉ md_X12_laysTelling → h c = h c := fun _ _ => rfl
  cases hf
  exact fr
theorem m_X12_laysTelling_225 {k85 : Int32 → Int32 → Int32 → Int32 → Int32 → zH → zR} {k99 : Int32 → Int32 → Int32 → Int32 → Int32 → Int32 → zH → zR} (hk85 : ∀ (h0 : zH) (x2 : Int32) (x3 : Int32) (x4 : Int32) (x5 : Int32) (x6 : Int32), k85 x2 x3 x4 x5 x6 h0 = some q → ∀ c, c ∉ md_X12_laysTelling → q.2 c = h0 c) (hk99 : ∀ (h0 : zH) (x2 : Int32) (x3 : Int32) (x4 : Int32) (x5 : Int32) (x6 : Int32) (x7 : Int32), k99 x2 x3 x4 x5 x6 x7 h0 = some q → ∀ c, c ∉ md_X12_laysTelling → q.2 c = h0 c) : ∀ (h0 : zH) (x2 : Int32) (x3 : Int32) (x4 : Int32) (x5 : Int32) (x6 : Int32) (x7 : Int32), f_X12_laysTelling_225 k85 k99 x2 x3 x4 x5 x6 x7 h0 = some q → ∀ c, c ∉ md_X12_laysTelling → q.2 c = h0 c := by
  intro h x2 x3 x4 x5 x6 x7 hf
  unfold f_X12_laysTelling_225 at hf
  have fr : ∀ c, c ∉ md_X12_laysTelling → h c = h c := fun _ _ => rfl
  obtain ⟨y13, ey13, hf⟩ := zlt_some hf
  exact fun c hc9 => (hk99 _ _ _ _ _ _ _ hf c hc9).trans (fr c hc9)
theorem m_X12_laysTelling_222 {k85 : Int32 → Int32 → Int32 → Int32 → Int32 → zH → zR} {k99 : Int32 → Int32 → Int32 → Int32 → Int32 → Int32 → zH → zR} (hk85 : ∀ (h0 : zH) (x2 : Int32) (x3 : Int32) (x4 : Int32) (x5 : Int32) (x6 : Int32), k85 x2 x3 x4 x5 x6 h0 = some q → ∀ c, c ∉ md_X12_laysTelling → q.2 c = h0 c) (hk99 : ∀ (h0 : zH) (x2 : Int32) (x3 : Int32) (x4 : Int32) (x5 : Int32) (x6 : Int32) (x7 : Int32), k99 x2 x3 x4 x5 x6 x7 h0 = some q → ∀ c, c ∉ md_X12_laysTelling → q.2 c = h0 c) : ∀ (h0 : zH) (x2 : Int32) (x3 : Int32) (x4 : Int32) (x5 : Int32) (x6 : Int32) (x7 : Int32) (s0 : Int32), f_X12_laysTelling_222 k85 k99 x2 x3 x4 x5 x6 x7 s0 h0 = some q → ∀ c, c ∉ md_X12_laysTelling → q.2 c = h0 c := by
  intro h x2 x3 x4 x5 x6 x7 s0 hf
  unfold f_X12_laysTelling_222 at hf
  have fr : ∀ c, c ∉ md_X12_laysTelling → h c = h c := fun _ _ => rfl
  obtain ⟨h25, eh25, hf⟩ := zst_some hf
  have fr : ∀ c, c ∉ md_X12_laysTelling → h25 c = h c := fun c hc9 => (congrFun eh25 c).trans ((zup_ne c (fun z => hc9 (by rw [z]; decide))).trans (fr c hc9))
  exact fun c hc9 => (m_X12_laysTelling_225 hk85 hk99 _ _ _ _ _ _ _ hf c hc9).trans (fr c hc9)
theorem m_X12_laysTelling_161 {k85 : Int32 → Int32 → Int32 → Int32 → Int32 → zH → zR} {k99 : Int32 → Int32 → Int32 → Int32 → Int32 → Int32 → zH → zR} (hk85 : ∀ (h0 : zH) (x2 : Int32) (x3 : Int32) (x4 : Int32) (x5 : Int32) (x6 : Int32), k85 x2 x3 x4 x5 x6 h0 = some q → ∀ c, c ∉ md_X12_laysTelling → q.2 c = h0 c) (hk99 : ∀ (h0 : zH) (x2 : Int32) (x3 : Int32) (x4 : Int32) (x5 : Int32) (x6 : Int32) (x7 : Int32), k99 x2 x3 x4 x5 x6 x7 h0 = some q → ∀ c, c ∉ md_X12_laysTelling → q.2 c = h0 c) : ∀ (h0 : zH) (x2 : Int32) (x3 : Int32) (x4 : Int32) (x5 : Int32) (x6 : Int32) (x7 : Int32), f_X12_laysTelling_161 k85 k99 x2 x3 x4 x5 x6 x7 h0 = some q → ∀ c, c ∉ md_X12_laysTelling → q.2 c = h0 c := by
  intro h x2 x3 x4 x5 x6 x7 hf
  unfold f_X12_laysTelling_161 at hf
  have fr : ∀ c, c ∉ md_X12_laysTelling → h c = h c := fun _ _ => rfl
  obtain ⟨r18, h19, er18, hf⟩ := zbd_some hf
  have fr : ∀ c, c ∉ md_X12_laysTelling → h19 c = h c := fun c hc9 => (m_X12_laughOf _ _ _ er18 c (fun z => hc9 (sm_X12_laysTelling_X12_laughOf c z))).trans (fr c hc9)
  rcases zif_c hf with ⟨hc, hf⟩ | ⟨hc, hf⟩
  · skip
    obtain ⟨h20, eh20, hf⟩ := zst_some hf
    have fr : ∀ c, c ∉ md_X12_laysTelling → h20 c = h c := fun c hc9 => (congrFun eh20 c).trans ((zup_ne c (fun z => hc9 (by rw [z]; decide))).trans (fr c hc9))
    obtain ⟨h21, eh21, hf⟩ := zst_some hf
    have fr : ∀ c, c ∉ md_X12_laysTelling → h21 c = h c := fun c hc9 => (congrFun eh21 c).trans ((zup_ne c (fun z => hc9 (by rw [z]; decide))).trans (fr c hc9))
    obtain ⟨h22, eh22, hf⟩ := zst_some hf
    have fr : ∀ c, c ∉ md_X12_laysTelling → h22 c = h c := fun c hc9 => (congrFun eh22 c).trans ((zup_ne c (fun z => hc9 (by rw [z]; decide))).trans (fr c hc9))
    obtain ⟨r23, h24, er23, hf⟩ := zbd_some hf
    have fr : ∀ c, c ∉ md_X12_laysTelling → h24 c = h c := fun c hc9 => (m_X12_canBoth _ _ _ _ _ er23 c (fun z => hc9 (sm_X12_laysTelling_X12_canBoth c z))).trans (fr c hc9)
    rcases zif_c hf with ⟨hc, hf⟩ | ⟨hc, hf⟩
    · skip
      exact fun c hc9 => (m_X12_laysTelling_222 hk85 hk99 _ _ _ _ _ _ _ _ hf c hc9).trans (fr c hc9)
    · skip
      exact fun c hc9 => (m_X12_laysTelling_222 hk85 hk99 _ _ _ _ _ _ _ _ hf c hc9).trans (fr c hc9)
  · skip
    exact fun c hc9 => (m_X12_laysTelling_225 hk85 hk99 _ _ _ _ _ _ _ hf c hc9).trans (fr c hc9)
theorem m_X12_laysTelling_99 {k85 : Int32 → Int32 → Int32 → Int32 → Int32 → zH → zR} (hk85 : ∀ (h0 : zH) (x2 : Int32) (x3 : Int32) (x4 : Int32) (x5 : Int32) (x6 : Int32), k85 x2 x3 x4 x5 x6 h0 = some q → ∀ c, c ∉ md_X12_laysTelling → q.2 c = h0 c) : ∀ n, ∀ (h0 : zH) (x2 : Int32) (x3 : Int32) (x4 : Int32) (x5 : Int32) (x6 : Int32) (x7 : Int32), f_X12_laysTelling_99 k85 n x2 x3 x4 x5 x6 x7 h0 = some q → ∀ c, c ∉ md_X12_laysTelling → q.2 c = h0 c := by
  intro n
  induction n with
  | zero => intro h x2 x3 x4 x5 x6 x7 hf; cases hf
  | succ n ih =>
    intro h x2 x3 x4 x5 x6 x7 hf
    rw [f_X12_laysTelling_99] at hf
    have fr : ∀ c, c ∉ md_X12_laysTelling → h c = h c := fun _ _ => rfl
    rcases zif_c hf with ⟨hc, hf⟩ | ⟨hc, hf⟩
    · skip
      obtain ⟨y10, ey10, hf⟩ := zlt_some hf
      exact fun c hc9 => (hk85 _ _ _ _ _ _ hf c hc9).trans (fr c hc9)
    · skip
      obtain ⟨r11, h12, er11, hf⟩ := zbd_some hf
      have fr : ∀ c, c ∉ md_X12_laysTelling → h12 c = h c := fun c hc9 => (m_X12_isFront _ _ er11 c (fun z => hc9 (sm_X12_laysTelling_X12_isFront c z))).trans (fr c hc9)
      rcases zif_c hf with ⟨hc, hf⟩ | ⟨hc, hf⟩
      · skip
        exact fun c hc9 => (m_X12_laysTelling_225 hk85 ih _ _ _ _ _ _ _ hf c hc9).trans (fr c hc9)
      · skip
        obtain ⟨r14, h15, er14, hf⟩ := zbd_some hf
        have fr : ∀ c, c ∉ md_X12_laysTelling → h15 c = h c := fun c hc9 => (m_X12_isEnd _ _ er14 c (fun z => hc9 (sm_X12_laysTelling_X12_isEnd c z))).trans (fr c hc9)
        rcases zif_c hf with ⟨hc, hf⟩ | ⟨hc, hf⟩
        · skip
          exact fun c hc9 => (m_X12_laysTelling_225 hk85 ih _ _ _ _ _ _ _ hf c hc9).trans (fr c hc9)
        · skip
          obtain ⟨r16, h17, er16, hf⟩ := zbd_some hf
          have fr : ∀ c, c ∉ md_X12_laysTelling → h17 c = h c := fun c hc9 => (m_X12_canBoth _ _ _ _ _ er16 c (fun z => hc9 (sm_X12_laysTelling_X12_canBoth c z))).trans (fr c hc9)
          rcases zif_n hf with ⟨hc, hf⟩ | ⟨hc, hf⟩
          · skip
            exact fun c hc9 => (m_X12_laysTelling_161 hk85 ih _ _ _ _ _ _ _ hf c hc9).trans (fr c hc9)
          · skip
            obtain ⟨r26, h27, er26, hf⟩ := zbd_some hf
            have fr : ∀ c, c ∉ md_X12_laysTelling → h27 c = h c := fun c hc9 => (m_X12_canBoth _ _ _ _ _ er26 c (fun z => hc9 (sm_X12_laysTelling_X12_canBoth c z))).trans (fr c hc9)
            rcases zif_n hf with ⟨hc, hf⟩ | ⟨hc, hf⟩
            · skip
              exact fun c hc9 => (m_X12_laysTelling_161 hk85 ih _ _ _ _ _ _ _ hf c hc9).trans (fr c hc9)
            · skip
              exact fun c hc9 => (m_X12_laysTelling_225 hk85 ih _ _ _ _ _ _ _ hf c hc9).trans (fr c hc9)
theorem m_X12_laysTelling_85   : ∀ n, ∀ (h0 : zH) (x2 : Int32) (x3 : Int32) (x4 : Int32) (x5 : Int32) (x6 : Int32), f_X12_laysTelling_85  n x2 x3 x4 x5 x6 h0 = some q → ∀ c, c ∉ md_X12_laysTelling → q.2 c = h0 c := by
  intro n
  induction n with
  | zero => intro h x2 x3 x4 x5 x6 hf; cases hf
  | succ n ih =>
    intro h x2 x3 x4 x5 x6 hf
    rw [f_X12_laysTelling_85] at hf
    have fr : ∀ c, c ∉ md_X12_laysTelling → h c = h c := fun _ _ => rfl
    rcases zif_c hf with ⟨hc, hf⟩ | ⟨hc, hf⟩
    · skip
      rcases zif_c hf with ⟨hc, hf⟩ | ⟨hc, hf⟩
      · skip
        cases hf
        exact fr
      · skip
        cases hf
        exact fr
    · skip
      exact fun c hc9 => (m_X12_laysTelling_99 ih zN _ _ _ _ _ _ _ hf c hc9).trans (fr c hc9)
theorem m_X12_laysTelling : ∀ (h0 : zH) (x1 : Int32) {q : Int32 × zH}, f_X12_laysTelling x1 h0 = some q → ∀ c, c ∉ md_X12_laysTelling → q.2 c = h0 c := by
  intro h x1 q hf
  unfold f_X12_laysTelling at hf
  have fr : ∀ c, c ∉ md_X12_laysTelling → h c = h c := fun _ _ => rfl
  obtain ⟨r1, h2, er1, hf⟩ := zbd_some hf
  have fr : ∀ c, c ∉ md_X12_laysTelling → h2 c = h c := fun c hc9 => (m_X12_guestAt _ _ er1 c (fun z => hc9 (sm_X12_laysTelling_X12_guestAt c z))).trans (fr c hc9)
  obtain ⟨hz, hf⟩ := znz_some hf
  obtain ⟨r3, h4, er3, hf⟩ := zbd_some hf
  have fr : ∀ c, c ∉ md_X12_laysTelling → h4 c = h c := fun c hc9 => (m_X12_guestAt _ _ er3 c (fun z => hc9 (sm_X12_laysTelling_X12_guestAt c z))).trans (fr c hc9)
  obtain ⟨h5, eh5, hf⟩ := zst_some hf
  have fr : ∀ c, c ∉ md_X12_laysTelling → h5 c = h c := fun c hc9 => (congrFun eh5 c).trans ((zup_ne c (fun z => hc9 (by rw [z]; decide))).trans (fr c hc9))
  rcases zif_c hf with ⟨hc, hf⟩ | ⟨hc, hf⟩
  · skip
    exact fun c hc9 => (m_X12_laysTelling_36  _ hf c hc9).trans (fr c hc9)
  · skip
    rcases zif_n hf with ⟨hc, hf⟩ | ⟨hc, hf⟩
    · skip
      obtain ⟨r6, h7, er6, hf⟩ := zbd_some hf
      have fr : ∀ c, c ∉ md_X12_laysTelling → h7 c = h c := fun c hc9 => (m_X12_ofGuest _ _ _ er6 c (fun z => hc9 (sm_X12_laysTelling_X12_ofGuest c z))).trans (fr c hc9)
      obtain ⟨r8, h9, er8, hf⟩ := zbd_some hf
      have fr : ∀ c, c ∉ md_X12_laysTelling → h9 c = h c := fun c hc9 => (m_X12_ofGuest _ _ _ er8 c (fun z => hc9 (sm_X12_laysTelling_X12_ofGuest c z))).trans (fr c hc9)
      rcases zif_c hf with ⟨hc, hf⟩ | ⟨hc, hf⟩
      · skip
        exact fun c hc9 => (m_X12_laysTelling_80  _ hf c hc9).trans (fr c hc9)
      · skip
        obtain ⟨hi, hf⟩ := zck_some hf
        rcases zif_n hf with ⟨hc, hf⟩ | ⟨hc, hf⟩
        · skip
          exact fun c hc9 => (m_X12_laysTelling_85  zN _ _ _ _ _ _ hf c hc9).trans (fr c hc9)
        · skip
          exact fun c hc9 => (m_X12_laysTelling_80  _ hf c hc9).trans (fr c hc9)
    · skip
      exact fun c hc9 => (m_X12_laysTelling_36  _ hf c hc9).trans (fr c hc9)
end
section
abbrev md_X12_telling : List Nat := [100, 108, 109]
theorem sm_X12_telling_X12_isIn : ∀ c ∈ md_X12_isIn, c ∈ md_X12_telling := by decide
theorem sm_X12_telling_X12_laysTelling : ∀ c ∈ md_X12_laysTelling, c ∈ md_X12_telling := by decide
variable {q : Int32 × zH}
theorem m_X12_telling_33   : ∀ (h0 : zH), f_X12_telling_33  h0 = some q → ∀ c, c ∉ md_X12_telling → q.2 c = h0 c := by
  intro h hf
  unfold f_X12_telling_33 at hf
  have fr : ∀ c, c ∉ md_X12_telling → h c = h c := fun _ _ => rfl
  cases hf
  exact fr
theorem m_X12_telling : ∀ (h0 : zH) (x1 : Int32) (x2 : Int32) {q : Int32 × zH}, f_X12_telling x1 x2 h0 = some q → ∀ c, c ∉ md_X12_telling → q.2 c = h0 c := by
  intro h x1 x2 q hf
  unfold f_X12_telling at hf
  have fr : ∀ c, c ∉ md_X12_telling → h c = h c := fun _ _ => rfl
  obtain ⟨r1, h2, er1, hf⟩ := zbd_some hf
  have fr : ∀ c, c ∉ md_X12_telling → h2 c = h c := fun c hc9 => (m_X12_isIn _ _ _ _ er1 c (fun z => hc9 (sm_X12_telling_X12_isIn c z))).trans (fr c hc9)
  rcases zif_c hf with ⟨hc, hf⟩ | ⟨hc, hf⟩
  · skip
    exact fun c hc9 => (m_X12_telling_33  _ hf c hc9).trans (fr c hc9)
  · skip
    obtain ⟨r3, h4, er3, hf⟩ := zbd_some hf
    have fr : ∀ c, c ∉ md_X12_telling → h4 c = h c := fun c hc9 => (m_X12_isIn _ _ _ _ er3 c (fun z => hc9 (sm_X12_telling_X12_isIn c z))).trans (fr c hc9)
    rcases zif_c hf with ⟨hc, hf⟩ | ⟨hc, hf⟩
    · skip
      exact fun c hc9 => (m_X12_telling_33  _ hf c hc9).trans (fr c hc9)
    · skip
      obtain ⟨r5, h6, er5, hf⟩ := zbd_some hf
      have fr : ∀ c, c ∉ md_X12_telling → h6 c = h c := fun c hc9 => (m_X12_laysTelling _ _ er5 c (fun z => hc9 (sm_X12_telling_X12_laysTelling c z))).trans (fr c hc9)
      rcases zif_n hf with ⟨hc, hf⟩ | ⟨hc, hf⟩
      · skip
        rcases zif_n hf with ⟨hc, hf⟩ | ⟨hc, hf⟩
        · skip
          rcases zif_n hf with ⟨hc, hf⟩ | ⟨hc, hf⟩
          · skip
            rcases zif_n hf with ⟨hc, hf⟩ | ⟨hc, hf⟩
            · skip
              cases hf
              exact fr
            · skip
              cases hf
              exact fr
          · skip
            cases hf
            exact fr
        · skip
          cases hf
          exact fr
      · skip
        exact fun c hc9 => (m_X12_telling_33  _ hf c hc9).trans (fr c hc9)
end
section
abbrev md_X12_isTold : List Nat := [101]
variable {q : Int32 × zH}
theorem m_X12_isTold : ∀ (h0 : zH) {q : Int32 × zH}, f_X12_isTold h0 = some q → ∀ c, c ∉ md_X12_isTold → q.2 c = h0 c := by
  intro h q hf
  unfold f_X12_isTold at hf
  have fr : ∀ c, c ∉ md_X12_isTold → h c = h c := fun _ _ => rfl
  obtain ⟨hi, hf⟩ := zck_some hf
  obtain ⟨hi, hf⟩ := zck_some hf
  obtain ⟨h1, eh1, hf⟩ := zst_some hf
  have fr : ∀ c, c ∉ md_X12_isTold → h1 c = h c := fun c hc9 => (congrFun eh1 c).trans ((zup_ne c (fun z => hc9 (by rw [z]; decide))).trans (fr c hc9))
  obtain ⟨hi, hf⟩ := zck_some hf
  obtain ⟨h2, eh2, hf⟩ := zst_some hf
  have fr : ∀ c, c ∉ md_X12_isTold → h2 c = h c := fun c hc9 => (congrFun eh2 c).trans ((zup_ne c (fun z => hc9 (by rw [z]; decide))).trans (fr c hc9))
  cases hf
  exact fr
end
section
abbrev md_X12_merryNow : List Nat := [100, 101, 104, 108, 109]
theorem sm_X12_merryNow_X12_laysTelling : ∀ c ∈ md_X12_laysTelling, c ∈ md_X12_merryNow := by decide
theorem sm_X12_merryNow_X12_isTold : ∀ c ∈ md_X12_isTold, c ∈ md_X12_merryNow := by decide
variable {q : Int32 × zH}
theorem m_X12_merryNow_75   : ∀ n, ∀ (h0 : zH) (x1 : Int32) (x2 : Int32), f_X12_merryNow_75  n x1 x2 h0 = some q → ∀ c, c ∉ md_X12_merryNow → q.2 c = h0 c := by
  intro n
  induction n with
  | zero => intro h x1 x2 hf; cases hf
  | succ n ih =>
    intro h x1 x2 hf
    rw [f_X12_merryNow_75] at hf
    have fr : ∀ c, c ∉ md_X12_merryNow → h c = h c := fun _ _ => rfl
    rcases zif_c hf with ⟨hc, hf⟩ | ⟨hc, hf⟩
    · skip
      cases hf
      exact fr
    · skip
      obtain ⟨hi, hf⟩ := zck_some hf
      obtain ⟨hi, hf⟩ := zck_some hf
      obtain ⟨h1, eh1, hf⟩ := zst_some hf
      have fr : ∀ c, c ∉ md_X12_merryNow → h1 c = h c := fun c hc9 => (congrFun eh1 c).trans ((zup_ne c (fun z => hc9 (by rw [z]; decide))).trans (fr c hc9))
      obtain ⟨y2, ey2, hf⟩ := zlt_some hf
      exact fun c hc9 => (ih _ _ _ hf c hc9).trans (fr c hc9)
theorem m_X12_merryNow_67 {k35 : Int32 → Int32 → zH → zR} (hk35 : ∀ (h0 : zH) (x1 : Int32) (x2 : Int32), k35 x1 x2 h0 = some q → ∀ c, c ∉ md_X12_merryNow → q.2 c = h0 c) : ∀ (h0 : zH) (x1 : Int32) (x2 : Int32), f_X12_merryNow_67 k35 x1 x2 h0 = some q → ∀ c, c ∉ md_X12_merryNow → q.2 c = h0 c := by
  intro h x1 x2 hf
  unfold f_X12_merryNow_67 at hf
  have fr : ∀ c, c ∉ md_X12_merryNow → h c = h c := fun _ _ => rfl
  obtain ⟨y8, ey8, hf⟩ := zlt_some hf
  exact fun c hc9 => (hk35 _ _ _ hf c hc9).trans (fr c hc9)
theorem m_X12_merryNow_35   : ∀ n, ∀ (h0 : zH) (x1 : Int32) (x2 : Int32), f_X12_merryNow_35  n x1 x2 h0 = some q → ∀ c, c ∉ md_X12_merryNow → q.2 c = h0 c := by
  intro n
  induction n with
  | zero => intro h x1 x2 hf; cases hf
  | succ n ih =>
    intro h x1 x2 hf
    rw [f_X12_merryNow_35] at hf
    have fr : ∀ c, c ∉ md_X12_merryNow → h c = h c := fun _ _ => rfl
    rcases zif_c hf with ⟨hc, hf⟩ | ⟨hc, hf⟩
    · skip
      exact fun c hc9 => (m_X12_merryNow_75  zN _ _ _ hf c hc9).trans (fr c hc9)
    · skip
      obtain ⟨r3, h4, er3, hf⟩ := zbd_some hf
      have fr : ∀ c, c ∉ md_X12_merryNow → h4 c = h c := fun c hc9 => (m_X12_laysTelling _ _ er3 c (fun z => hc9 (sm_X12_merryNow_X12_laysTelling c z))).trans (fr c hc9)
      rcases zif_n hf with ⟨hc, hf⟩ | ⟨hc, hf⟩
      · skip
        obtain ⟨y5, ey5, hf⟩ := zlt_some hf
        obtain ⟨r6, h7, er6, hf⟩ := zbd_some hf
        have fr : ∀ c, c ∉ md_X12_merryNow → h7 c = h c := fun c hc9 => (m_X12_isTold _ er6 c (fun z => hc9 (sm_X12_merryNow_X12_isTold c z))).trans (fr c hc9)
        exact fun c hc9 => (m_X12_merryNow_67 ih _ _ _ hf c hc9).trans (fr c hc9)
      · skip
        exact fun c hc9 => (m_X12_merryNow_67 ih _ _ _ hf c hc9).trans (fr c hc9)
theorem m_X12_merryNow_2   : ∀ n, ∀ (h0 : zH) (x1 : Int32), f_X12_merryNow_2  n x1 h0 = some q → ∀ c, c ∉ md_X12_merryNow → q.2 c = h0 c := by
  intro n
  induction n with
  | zero => intro h x1 hf; cases hf
  | succ n ih =>
    intro h x1 hf
    rw [f_X12_merryNow_2] at hf
    have fr : ∀ c, c ∉ md_X12_merryNow → h c = h c := fun _ _ => rfl
    rcases zif_c hf with ⟨hc, hf⟩ | ⟨hc, hf⟩
    · skip
      exact fun c hc9 => (m_X12_merryNow_35  zN _ _ _ hf c hc9).trans (fr c hc9)
    · skip
      obtain ⟨hi, hf⟩ := zck_some hf
      obtain ⟨hi, hf⟩ := zck_some hf
      obtain ⟨h9, eh9, hf⟩ := zst_some hf
      have fr : ∀ c, c ∉ md_X12_merryNow → h9 c = h c := fun c hc9 => (congrFun eh9 c).trans ((zup_ne c (fun z => hc9 (by rw [z]; decide))).trans (fr c hc9))
      obtain ⟨y10, ey10, hf⟩ := zlt_some hf
      exact fun c hc9 => (ih _ _ hf c hc9).trans (fr c hc9)
theorem m_X12_merryNow : ∀ (h0 : zH) {q : Int32 × zH}, f_X12_merryNow h0 = some q → ∀ c, c ∉ md_X12_merryNow → q.2 c = h0 c := by
  intro h q hf
  unfold f_X12_merryNow at hf
  have fr : ∀ c, c ∉ md_X12_merryNow → h c = h c := fun _ _ => rfl
  exact fun c hc9 => (m_X12_merryNow_2  zN _ _ hf c hc9).trans (fr c hc9)
end
section
abbrev md_X12_merry : List Nat := [100, 101, 104, 108, 109]
theorem sm_X12_merry_X12_merryNow : ∀ c ∈ md_X12_merryNow, c ∈ md_X12_merry := by decide
variable {q : Int32 × zH}
theorem m_X12_merry : ∀ (h0 : zH) {q : Int32 × zH}, f_X12_merry h0 = some q → ∀ c, c ∉ md_X12_merry → q.2 c = h0 c := by
  intro h q hf
  unfold f_X12_merry at hf
  have fr : ∀ c, c ∉ md_X12_merry → h c = h c := fun _ _ => rfl
  obtain ⟨r1, h2, er1, hf⟩ := zbd_some hf
  have fr : ∀ c, c ∉ md_X12_merry → h2 c = h c := fun c hc9 => (m_X12_merryNow _ er1 c (fun z => hc9 (sm_X12_merry_X12_merryNow c z))).trans (fr c hc9)
  cases hf
  exact fr
end
section
abbrev md_X12_canLaugh : List Nat := [108, 109]
theorem sm_X12_canLaugh_X12_isFront : ∀ c ∈ md_X12_isFront, c ∈ md_X12_canLaugh := by decide
theorem sm_X12_canLaugh_X12_isEnd : ∀ c ∈ md_X12_isEnd, c ∈ md_X12_canLaugh := by decide
theorem sm_X12_canLaugh_X12_canBoth : ∀ c ∈ md_X12_canBoth, c ∈ md_X12_canLaugh := by decide
theorem sm_X12_canLaugh_X12_laughOf : ∀ c ∈ md_X12_laughOf, c ∈ md_X12_canLaugh := by decide
variable {q : Int32 × zH}
theorem m_X12_canLaugh_79 {k2 : Int32 → Int32 → Int32 → zH → zR} {k15 : Int32 → Int32 → Int32 → Int32 → zH → zR} (hk2 : ∀ (h0 : zH) (x1 : Int32) (x2 : Int32) (x3 : Int32), k2 x1 x2 x3 h0 = some q → ∀ c, c ∉ md_X12_canLaugh → q.2 c = h0 c) (hk15 : ∀ (h0 : zH) (x1 : Int32) (x2 : Int32) (x3 : Int32) (x4 : Int32), k15 x1 x2 x3 x4 h0 = some q → ∀ c, c ∉ md_X12_canLaugh → q.2 c = h0 c) : ∀ (h0 : zH) (x1 : Int32) (x2 : Int32) (x3 : Int32) (x4 : Int32), f_X12_canLaugh_79 k2 k15 x1 x2 x3 x4 h0 = some q → ∀ c, c ∉ md_X12_canLaugh → q.2 c = h0 c := by
  intro h x1 x2 x3 x4 hf
  unfold f_X12_canLaugh_79 at hf
  have fr : ∀ c, c ∉ md_X12_canLaugh → h c = h c := fun _ _ => rfl
  obtain ⟨y4, ey4, hf⟩ := zlt_some hf
  exact fun c hc9 => (hk15 _ _ _ _ _ hf c hc9).trans (fr c hc9)
theorem m_X12_canLaugh_67 {k2 : Int32 → Int32 → Int32 → zH → zR} {k15 : Int32 → Int32 → Int32 → Int32 → zH → zR} (hk2 : ∀ (h0 : zH) (x1 : Int32) (x2 : Int32) (x3 : Int32), k2 x1 x2 x3 h0 = some q → ∀ c, c ∉ md_X12_canLaugh → q.2 c = h0 c) (hk15 : ∀ (h0 : zH) (x1 : Int32) (x2 : Int32) (x3 : Int32) (x4 : Int32), k15 x1 x2 x3 x4 h0 = some q → ∀ c, c ∉ md_X12_canLaugh → q.2 c = h0 c) : ∀ (h0 : zH) (x1 : Int32) (x2 : Int32) (x3 : Int32) (x4 : Int32), f_X12_canLaugh_67 k2 k15 x1 x2 x3 x4 h0 = some q → ∀ c, c ∉ md_X12_canLaugh → q.2 c = h0 c := by
  intro h x1 x2 x3 x4 hf
  unfold f_X12_canLaugh_67 at hf
  have fr : ∀ c, c ∉ md_X12_canLaugh → h c = h c := fun _ _ => rfl
  obtain ⟨r9, h10, er9, hf⟩ := zbd_some hf
  have fr : ∀ c, c ∉ md_X12_canLaugh → h10 c = h c := fun c hc9 => (m_X12_laughOf _ _ _ er9 c (fun z => hc9 (sm_X12_canLaugh_X12_laughOf c z))).trans (fr c hc9)
  rcases zif_c hf with ⟨hc, hf⟩ | ⟨hc, hf⟩
  · skip
    exact fun c hc9 => (m_X12_canLaugh_79 hk2 hk15 _ _ _ _ _ hf c hc9).trans (fr c hc9)
  · skip
    cases hf
    exact fr
theorem m_X12_canLaugh_15 {k2 : Int32 → Int32 → Int32 → zH → zR} (hk2 : ∀ (h0 : zH) (x1 : Int32) (x2 : Int32) (x3 : Int32), k2 x1 x2 x3 h0 = some q → ∀ c, c ∉ md_X12_canLaugh → q.2 c = h0 c) : ∀ n, ∀ (h0 : zH) (x1 : Int32) (x2 : Int32) (x3 : Int32) (x4 : Int32), f_X12_canLaugh_15 k2 n x1 x2 x3 x4 h0 = some q → ∀ c, c ∉ md_X12_canLaugh → q.2 c = h0 c := by
  intro n
  induction n with
  | zero => intro h x1 x2 x3 x4 hf; cases hf
  | succ n ih =>
    intro h x1 x2 x3 x4 hf
    rw [f_X12_canLaugh_15] at hf
    have fr : ∀ c, c ∉ md_X12_canLaugh → h c = h c := fun _ _ => rfl
    rcases zif_c hf with ⟨hc, hf⟩ | ⟨hc, hf⟩
    · skip
      obtain ⟨y1, ey1, hf⟩ := zlt_some hf
      exact fun c hc9 => (hk2 _ _ _ _ hf c hc9).trans (fr c hc9)
    · skip
      obtain ⟨r2, h3, er2, hf⟩ := zbd_some hf
      have fr : ∀ c, c ∉ md_X12_canLaugh → h3 c = h c := fun c hc9 => (m_X12_isFront _ _ er2 c (fun z => hc9 (sm_X12_canLaugh_X12_isFront c z))).trans (fr c hc9)
      rcases zif_c hf with ⟨hc, hf⟩ | ⟨hc, hf⟩
      · skip
        exact fun c hc9 => (m_X12_canLaugh_79 hk2 ih _ _ _ _ _ hf c hc9).trans (fr c hc9)
      · skip
        obtain ⟨r5, h6, er5, hf⟩ := zbd_some hf
        have fr : ∀ c, c ∉ md_X12_canLaugh → h6 c = h c := fun c hc9 => (m_X12_isEnd _ _ er5 c (fun z => hc9 (sm_X12_canLaugh_X12_isEnd c z))).trans (fr c hc9)
        rcases zif_c hf with ⟨hc, hf⟩ | ⟨hc, hf⟩
        · skip
          exact fun c hc9 => (m_X12_canLaugh_79 hk2 ih _ _ _ _ _ hf c hc9).trans (fr c hc9)
        · skip
          obtain ⟨r7, h8, er7, hf⟩ := zbd_some hf
          have fr : ∀ c, c ∉ md_X12_canLaugh → h8 c = h c := fun c hc9 => (m_X12_canBoth _ _ _ _ _ er7 c (fun z => hc9 (sm_X12_canLaugh_X12_canBoth c z))).trans (fr c hc9)
          rcases zif_n hf with ⟨hc, hf⟩ | ⟨hc, hf⟩
          · skip
            exact fun c hc9 => (m_X12_canLaugh_67 hk2 ih _ _ _ _ _ hf c hc9).trans (fr c hc9)
          · skip
            obtain ⟨r11, h12, er11, hf⟩ := zbd_some hf
            have fr : ∀ c, c ∉ md_X12_canLaugh → h12 c = h c := fun c hc9 => (m_X12_canBoth _ _ _ _ _ er11 c (fun z => hc9 (sm_X12_canLaugh_X12_canBoth c z))).trans (fr c hc9)
            rcases zif_c hf with ⟨hc, hf⟩ | ⟨hc, hf⟩
            · skip
              exact fun c hc9 => (m_X12_canLaugh_79 hk2 ih _ _ _ _ _ hf c hc9).trans (fr c hc9)
            · skip
              exact fun c hc9 => (m_X12_canLaugh_67 hk2 ih _ _ _ _ _ hf c hc9).trans (fr c hc9)
theorem m_X12_canLaugh_2   : ∀ n, ∀ (h0 : zH) (x1 : Int32) (x2 : Int32) (x3 : Int32), f_X12_canLaugh_2  n x1 x2 x3 h0 = some q → ∀ c, c ∉ md_X12_canLaugh → q.2 c = h0 c := by
  intro n
  induction n with
  | zero => intro h x1 x2 x3 hf; cases hf
  | succ n ih =>
    intro h x1 x2 x3 hf
    rw [f_X12_canLaugh_2] at hf
    have fr : ∀ c, c ∉ md_X12_canLaugh → h c = h c := fun _ _ => rfl
    rcases zif_c hf with ⟨hc, hf⟩ | ⟨hc, hf⟩
    · skip
      cases hf
      exact fr
    · skip
      exact fun c hc9 => (m_X12_canLaugh_15 ih zN _ _ _ _ _ hf c hc9).trans (fr c hc9)
theorem m_X12_canLaugh : ∀ (h0 : zH) (x1 : Int32) (x2 : Int32) {q : Int32 × zH}, f_X12_canLaugh x1 x2 h0 = some q → ∀ c, c ∉ md_X12_canLaugh → q.2 c = h0 c := by
  intro h x1 x2 q hf
  unfold f_X12_canLaugh at hf
  have fr : ∀ c, c ∉ md_X12_canLaugh → h c = h c := fun _ _ => rfl
  exact fun c hc9 => (m_X12_canLaugh_2  zN _ _ _ _ hf c hc9).trans (fr c hc9)
end
section
abbrev md_X12_silent : List Nat := [108, 109]
theorem sm_X12_silent_X12_isFamily : ∀ c ∈ md_X12_isFamily, c ∈ md_X12_silent := by decide
theorem sm_X12_silent_X12_canLaugh : ∀ c ∈ md_X12_canLaugh, c ∈ md_X12_silent := by decide
variable {q : Int32 × zH}
theorem m_X12_silent_58 {k13 : Int32 → Int32 → Int32 → zH → zR} (hk13 : ∀ (h0 : zH) (x1 : Int32) (x2 : Int32) (x3 : Int32), k13 x1 x2 x3 h0 = some q → ∀ c, c ∉ md_X12_silent → q.2 c = h0 c) : ∀ (h0 : zH) (x1 : Int32) (x3 : Int32) (s0 : Int32) (s1 : Int32), f_X12_silent_58 k13 x1 x3 s0 s1 h0 = some q → ∀ c, c ∉ md_X12_silent → q.2 c = h0 c := by
  intro h x1 x3 s0 s1 hf
  unfold f_X12_silent_58 at hf
  have fr : ∀ c, c ∉ md_X12_silent → h c = h c := fun _ _ => rfl
  obtain ⟨y3, ey3, hf⟩ := zlt_some hf
  obtain ⟨y4, ey4, hf⟩ := zlt_some hf
  exact fun c hc9 => (hk13 _ _ _ _ hf c hc9).trans (fr c hc9)
theorem m_X12_silent_57 {k13 : Int32 → Int32 → Int32 → zH → zR} (hk13 : ∀ (h0 : zH) (x1 : Int32) (x2 : Int32) (x3 : Int32), k13 x1 x2 x3 h0 = some q → ∀ c, c ∉ md_X12_silent → q.2 c = h0 c) : ∀ (h0 : zH) (x1 : Int32) (x3 : Int32) (s0 : Int32), f_X12_silent_57 k13 x1 x3 s0 h0 = some q → ∀ c, c ∉ md_X12_silent → q.2 c = h0 c := by
  intro h x1 x3 s0 hf
  unfold f_X12_silent_57 at hf
  have fr : ∀ c, c ∉ md_X12_silent → h c = h c := fun _ _ => rfl
  exact fun c hc9 => (m_X12_silent_58 hk13 _ _ _ _ _ hf c hc9).trans (fr c hc9)
theorem m_X12_silent_51 {k13 : Int32 → Int32 → Int32 → zH → zR} (hk13 : ∀ (h0 : zH) (x1 : Int32) (x2 : Int32) (x3 : Int32), k13 x1 x2 x3 h0 = some q → ∀ c, c ∉ md_X12_silent → q.2 c = h0 c) : ∀ (h0 : zH) (x1 : Int32) (x3 : Int32) (s0 : Int32), f_X12_silent_51 k13 x1 x3 s0 h0 = some q → ∀ c, c ∉ md_X12_silent → q.2 c = h0 c := by
  intro h x1 x3 s0 hf
  unfold f_X12_silent_51 at hf
  have fr : ∀ c, c ∉ md_X12_silent → h c = h c := fun _ _ => rfl
  exact fun c hc9 => (m_X12_silent_58 hk13 _ _ _ _ _ hf c hc9).trans (fr c hc9)
theorem m_X12_silent_13   : ∀ n, ∀ (h0 : zH) (x1 : Int32) (x2 : Int32) (x3 : Int32), f_X12_silent_13  n x1 x2 x3 h0 = some q → ∀ c, c ∉ md_X12_silent → q.2 c = h0 c := by
  intro n
  induction n with
  | zero => intro h x1 x2 x3 hf; cases hf
  | succ n ih =>
    intro h x1 x2 x3 hf
    rw [f_X12_silent_13] at hf
    have fr : ∀ c, c ∉ md_X12_silent → h c = h c := fun _ _ => rfl
    rcases zif_c hf with ⟨hc, hf⟩ | ⟨hc, hf⟩
    · skip
      cases hf
      exact fr
    · skip
      rcases zif_c hf with ⟨hc, hf⟩ | ⟨hc, hf⟩
      · skip
        exact fun c hc9 => (m_X12_silent_57 ih _ _ _ _ hf c hc9).trans (fr c hc9)
      · skip
        obtain ⟨hi, hf⟩ := zck_some hf
        rcases zif_c hf with ⟨hc, hf⟩ | ⟨hc, hf⟩
        · skip
          exact fun c hc9 => (m_X12_silent_51 ih _ _ _ _ hf c hc9).trans (fr c hc9)
        · skip
          obtain ⟨r5, h6, er5, hf⟩ := zbd_some hf
          have fr : ∀ c, c ∉ md_X12_silent → h6 c = h c := fun c hc9 => (m_X12_canLaugh _ _ _ er5 c (fun z => hc9 (sm_X12_silent_X12_canLaugh c z))).trans (fr c hc9)
          rcases zif_n hf with ⟨hc, hf⟩ | ⟨hc, hf⟩
          · skip
            exact fun c hc9 => (m_X12_silent_57 ih _ _ _ _ hf c hc9).trans (fr c hc9)
          · skip
            exact fun c hc9 => (m_X12_silent_51 ih _ _ _ _ hf c hc9).trans (fr c hc9)
theorem m_X12_silent : ∀ (h0 : zH) (x1 : Int32) {q : Int32 × zH}, f_X12_silent x1 h0 = some q → ∀ c, c ∉ md_X12_silent → q.2 c = h0 c := by
  intro h x1 q hf
  unfold f_X12_silent at hf
  have fr : ∀ c, c ∉ md_X12_silent → h c = h c := fun _ _ => rfl
  obtain ⟨r1, h2, er1, hf⟩ := zbd_some hf
  have fr : ∀ c, c ∉ md_X12_silent → h2 c = h c := fun c hc9 => (m_X12_isFamily _ _ er1 c (fun z => hc9 (sm_X12_silent_X12_isFamily c z))).trans (fr c hc9)
  rcases zif_n hf with ⟨hc, hf⟩ | ⟨hc, hf⟩
  · skip
    exact fun c hc9 => (m_X12_silent_13  zN _ _ _ _ hf c hc9).trans (fr c hc9)
  · skip
    cases hf
    exact fr
end
section
abbrev md_X12_keeps : List Nat := [100, 103]
variable {q : Int32 × zH}
theorem m_X12_keeps_103   : ∀ n, ∀ (h0 : zH) (x1 : Int32) (x2 : Int32), f_X12_keeps_103  n x1 x2 h0 = some q → ∀ c, c ∉ md_X12_keeps → q.2 c = h0 c := by
  intro n
  induction n with
  | zero => intro h x1 x2 hf; cases hf
  | succ n ih =>
    intro h x1 x2 hf
    rw [f_X12_keeps_103] at hf
    have fr : ∀ c, c ∉ md_X12_keeps → h c = h c := fun _ _ => rfl
    rcases zif_c hf with ⟨hc, hf⟩ | ⟨hc, hf⟩
    · skip
      obtain ⟨h5, eh5, hf⟩ := zst_some hf
      have fr : ∀ c, c ∉ md_X12_keeps → h5 c = h c := fun c hc9 => (congrFun eh5 c).trans ((zup_ne c (fun z => hc9 (by rw [z]; decide))).trans (fr c hc9))
      cases hf
      exact fr
    · skip
      obtain ⟨hi, hf⟩ := zck_some hf
      obtain ⟨hi, hf⟩ := zck_some hf
      obtain ⟨h6, eh6, hf⟩ := zst_some hf
      have fr : ∀ c, c ∉ md_X12_keeps → h6 c = h c := fun c hc9 => (congrFun eh6 c).trans ((zup_ne c (fun z => hc9 (by rw [z]; decide))).trans (fr c hc9))
      obtain ⟨y7, ey7, hf⟩ := zlt_some hf
      exact fun c hc9 => (ih _ _ _ hf c hc9).trans (fr c hc9)
theorem m_X12_keeps_50   : ∀ (h0 : zH), f_X12_keeps_50  h0 = some q → ∀ c, c ∉ md_X12_keeps → q.2 c = h0 c := by
  intro h hf
  unfold f_X12_keeps_50 at hf
  have fr : ∀ c, c ∉ md_X12_keeps → h c = h c := fun _ _ => rfl
  obtain ⟨y1, ey1, hf⟩ := zlt_some hf
  obtain ⟨hi, hf⟩ := zck_some hf
  obtain ⟨h2, eh2, hf⟩ := zst_some hf
  have fr : ∀ c, c ∉ md_X12_keeps → h2 c = h c := fun c hc9 => (congrFun eh2 c).trans ((zup_ne c (fun z => hc9 (by rw [z]; decide))).trans (fr c hc9))
  obtain ⟨hi, hf⟩ := zck_some hf
  obtain ⟨h3, eh3, hf⟩ := zst_some hf
  have fr : ∀ c, c ∉ md_X12_keeps → h3 c = h c := fun c hc9 => (congrFun eh3 c).trans ((zup_ne c (fun z => hc9 (by rw [z]; decide))).trans (fr c hc9))
  obtain ⟨hi, hf⟩ := zck_some hf
  obtain ⟨h4, eh4, hf⟩ := zst_some hf
  have fr : ∀ c, c ∉ md_X12_keeps → h4 c = h c := fun c hc9 => (congrFun eh4 c).trans ((zup_ne c (fun z => hc9 (by rw [z]; decide))).trans (fr c hc9))
  exact fun c hc9 => (m_X12_keeps_103  zN _ _ _ hf c hc9).trans (fr c hc9)
theorem m_X12_keeps_11   : ∀ n, ∀ (h0 : zH) (x1 : Int32), f_X12_keeps_11  n x1 h0 = some q → ∀ c, c ∉ md_X12_keeps → q.2 c = h0 c := by
  intro n
  induction n with
  | zero => intro h x1 hf; cases hf
  | succ n ih =>
    intro h x1 hf
    rw [f_X12_keeps_11] at hf
    have fr : ∀ c, c ∉ md_X12_keeps → h c = h c := fun _ _ => rfl
    rcases zif_c hf with ⟨hc, hf⟩ | ⟨hc, hf⟩
    · skip
      obtain ⟨h8, eh8, hf⟩ := zst_some hf
      have fr : ∀ c, c ∉ md_X12_keeps → h8 c = h c := fun c hc9 => (congrFun eh8 c).trans ((zup_ne c (fun z => hc9 (by rw [z]; decide))).trans (fr c hc9))
      exact fun c hc9 => (m_X12_keeps_50  _ hf c hc9).trans (fr c hc9)
    · skip
      obtain ⟨hi, hf⟩ := zck_some hf
      obtain ⟨hi, hf⟩ := zck_some hf
      obtain ⟨h9, eh9, hf⟩ := zst_some hf
      have fr : ∀ c, c ∉ md_X12_keeps → h9 c = h c := fun c hc9 => (congrFun eh9 c).trans ((zup_ne c (fun z => hc9 (by rw [z]; decide))).trans (fr c hc9))
      obtain ⟨y10, ey10, hf⟩ := zlt_some hf
      exact fun c hc9 => (ih _ _ hf c hc9).trans (fr c hc9)
theorem m_X12_keeps : ∀ (h0 : zH) {q : Int32 × zH}, f_X12_keeps h0 = some q → ∀ c, c ∉ md_X12_keeps → q.2 c = h0 c := by
  intro h q hf
  unfold f_X12_keeps at hf
  have fr : ∀ c, c ∉ md_X12_keeps → h c = h c := fun _ _ => rfl
  rcases zif_n hf with ⟨hc, hf⟩ | ⟨hc, hf⟩
  · skip
    exact fun c hc9 => (m_X12_keeps_50  _ hf c hc9).trans (fr c hc9)
  · skip
    exact fun c hc9 => (m_X12_keeps_11  zN _ _ hf c hc9).trans (fr c hc9)
end
section
abbrev md_X12_writes : List Nat := [101]
variable {q : Int32 × zH}
theorem m_X12_writes : ∀ (h0 : zH) (x1 : Int32) (x2 : Int32) {q : Int32 × zH}, f_X12_writes x1 x2 h0 = some q → ∀ c, c ∉ md_X12_writes → q.2 c = h0 c := by
  intro h x1 x2 q hf
  unfold f_X12_writes at hf
  have fr : ∀ c, c ∉ md_X12_writes → h c = h c := fun _ _ => rfl
  rcases zif_n hf with ⟨hc, hf⟩ | ⟨hc, hf⟩
  · skip
    obtain ⟨y1, ey1, hf⟩ := zlt_some hf
    obtain ⟨hi, hf⟩ := zck_some hf
    obtain ⟨h2, eh2, hf⟩ := zst_some hf
    have fr : ∀ c, c ∉ md_X12_writes → h2 c = h c := fun c hc9 => (congrFun eh2 c).trans ((zup_ne c (fun z => hc9 (by rw [z]; decide))).trans (fr c hc9))
    obtain ⟨hi, hf⟩ := zck_some hf
    obtain ⟨h3, eh3, hf⟩ := zst_some hf
    have fr : ∀ c, c ∉ md_X12_writes → h3 c = h c := fun c hc9 => (congrFun eh3 c).trans ((zup_ne c (fun z => hc9 (by rw [z]; decide))).trans (fr c hc9))
    obtain ⟨hi, hf⟩ := zck_some hf
    obtain ⟨h4, eh4, hf⟩ := zst_some hf
    have fr : ∀ c, c ∉ md_X12_writes → h4 c = h c := fun c hc9 => (congrFun eh4 c).trans ((zup_ne c (fun z => hc9 (by rw [z]; decide))).trans (fr c hc9))
    obtain ⟨hi, hf⟩ := zck_some hf
    obtain ⟨h5, eh5, hf⟩ := zst_some hf
    have fr : ∀ c, c ∉ md_X12_writes → h5 c = h c := fun c hc9 => (congrFun eh5 c).trans ((zup_ne c (fun z => hc9 (by rw [z]; decide))).trans (fr c hc9))
    obtain ⟨hi, hf⟩ := zck_some hf
    obtain ⟨h6, eh6, hf⟩ := zst_some hf
    have fr : ∀ c, c ∉ md_X12_writes → h6 c = h c := fun c hc9 => (congrFun eh6 c).trans ((zup_ne c (fun z => hc9 (by rw [z]; decide))).trans (fr c hc9))
    obtain ⟨hi, hf⟩ := zck_some hf
    obtain ⟨h7, eh7, hf⟩ := zst_some hf
    have fr : ∀ c, c ∉ md_X12_writes → h7 c = h c := fun c hc9 => (congrFun eh7 c).trans ((zup_ne c (fun z => hc9 (by rw [z]; decide))).trans (fr c hc9))
    obtain ⟨h8, eh8, hf⟩ := zst_some hf
    have fr : ∀ c, c ∉ md_X12_writes → h8 c = h c := fun c hc9 => (congrFun eh8 c).trans ((zup_ne c (fun z => hc9 (by rw [z]; decide))).trans (fr c hc9))
    cases hf
    exact fr
  · skip
    cases hf
    exact fr
end
section
abbrev md_X12_draw : List Nat := [101]
variable {q : Int32 × zH}
theorem m_X12_draw : ∀ (h0 : zH) (x1 : Int32) {q : Int32 × zH}, f_X12_draw x1 h0 = some q → ∀ c, c ∉ md_X12_draw → q.2 c = h0 c := by
  intro h x1 q hf
  unfold f_X12_draw at hf
  have fr : ∀ c, c ∉ md_X12_draw → h c = h c := fun _ _ => rfl
  obtain ⟨h1, eh1, hf⟩ := zst_some hf
  have fr : ∀ c, c ∉ md_X12_draw → h1 c = h c := fun c hc9 => (congrFun eh1 c).trans ((zup_ne c (fun z => hc9 (by rw [z]; decide))).trans (fr c hc9))
  obtain ⟨hz, hf⟩ := znz_some hf
  cases hf
  exact fr
end
section
abbrev md_X12_anEvening : List Nat := [100, 101, 108, 109]
theorem sm_X12_anEvening_X12_laysTelling : ∀ c ∈ md_X12_laysTelling, c ∈ md_X12_anEvening := by decide
theorem sm_X12_anEvening_X12_isTold : ∀ c ∈ md_X12_isTold, c ∈ md_X12_anEvening := by decide
theorem sm_X12_anEvening_X12_guestAt : ∀ c ∈ md_X12_guestAt, c ∈ md_X12_anEvening := by decide
theorem sm_X12_anEvening_X12_writes : ∀ c ∈ md_X12_writes, c ∈ md_X12_anEvening := by decide
theorem sm_X12_anEvening_X12_quarters : ∀ c ∈ md_X12_quarters, c ∈ md_X12_anEvening := by decide
theorem sm_X12_anEvening_X12_draw : ∀ c ∈ md_X12_draw, c ∈ md_X12_anEvening := by decide
variable {q : Int32 × zH}
theorem m_X12_anEvening_174 {k4 : Int32 → Int32 → zH → zR} (hk4 : ∀ (h0 : zH) (x1 : Int32) (x2 : Int32), k4 x1 x2 h0 = some q → ∀ c, c ∉ md_X12_anEvening → q.2 c = h0 c) : ∀ (h0 : zH) (x1 : Int32) (x2 : Int32), f_X12_anEvening_174 k4 x1 x2 h0 = some q → ∀ c, c ∉ md_X12_anEvening → q.2 c = h0 c := by
  intro h x1 x2 hf
  unfold f_X12_anEvening_174 at hf
  have fr : ∀ c, c ∉ md_X12_anEvening → h c = h c := fun _ _ => rfl
  obtain ⟨y11, ey11, hf⟩ := zlt_some hf
  exact fun c hc9 => (hk4 _ _ _ hf c hc9).trans (fr c hc9)
theorem m_X12_anEvening_118 {k4 : Int32 → Int32 → zH → zR} (hk4 : ∀ (h0 : zH) (x1 : Int32) (x2 : Int32), k4 x1 x2 h0 = some q → ∀ c, c ∉ md_X12_anEvening → q.2 c = h0 c) : ∀ n, ∀ (h0 : zH) (x1 : Int32) (x2 : Int32) (x4 : Int32) (x6 : Int32), f_X12_anEvening_118 k4 n x1 x2 x4 x6 h0 = some q → ∀ c, c ∉ md_X12_anEvening → q.2 c = h0 c := by
  intro n
  induction n with
  | zero => intro h x1 x2 x4 x6 hf; cases hf
  | succ n ih =>
    intro h x1 x2 x4 x6 hf
    rw [f_X12_anEvening_118] at hf
    have fr : ∀ c, c ∉ md_X12_anEvening → h c = h c := fun _ _ => rfl
    rcases zif_c hf with ⟨hc, hf⟩ | ⟨hc, hf⟩
    · skip
      obtain ⟨y10, ey10, hf⟩ := zlt_some hf
      exact fun c hc9 => (m_X12_anEvening_174 hk4 _ _ _ hf c hc9).trans (fr c hc9)
    · skip
      obtain ⟨hi, hf⟩ := zck_some hf
      obtain ⟨r12, h13, er12, hf⟩ := zbd_some hf
      have fr : ∀ c, c ∉ md_X12_anEvening → h13 c = h c := fun c hc9 => (m_X12_quarters _ _ _ er12 c (fun z => hc9 (sm_X12_anEvening_X12_quarters c z))).trans (fr c hc9)
      obtain ⟨r14, h15, er14, hf⟩ := zbd_some hf
      have fr : ∀ c, c ∉ md_X12_anEvening → h15 c = h c := fun c hc9 => (m_X12_quarters _ _ _ er14 c (fun z => hc9 (sm_X12_anEvening_X12_quarters c z))).trans (fr c hc9)
      obtain ⟨hi, hf⟩ := zck_some hf
      obtain ⟨h16, eh16, hf⟩ := zst_some hf
      have fr : ∀ c, c ∉ md_X12_anEvening → h16 c = h c := fun c hc9 => (congrFun eh16 c).trans ((zup_ne c (fun z => hc9 (by rw [z]; decide))).trans (fr c hc9))
      obtain ⟨y17, ey17, hf⟩ := zlt_some hf
      exact fun c hc9 => (ih _ _ _ _ _ hf c hc9).trans (fr c hc9)
theorem m_X12_anEvening_110 {k4 : Int32 → Int32 → zH → zR} (hk4 : ∀ (h0 : zH) (x1 : Int32) (x2 : Int32), k4 x1 x2 h0 = some q → ∀ c, c ∉ md_X12_anEvening → q.2 c = h0 c) : ∀ (h0 : zH) (x1 : Int32) (x2 : Int32) (x4 : Int32) (s0 : Int32), f_X12_anEvening_110 k4 x1 x2 x4 s0 h0 = some q → ∀ c, c ∉ md_X12_anEvening → q.2 c = h0 c := by
  intro h x1 x2 x4 s0 hf
  unfold f_X12_anEvening_110 at hf
  have fr : ∀ c, c ∉ md_X12_anEvening → h c = h c := fun _ _ => rfl
  obtain ⟨r8, h9, er8, hf⟩ := zbd_some hf
  have fr : ∀ c, c ∉ md_X12_anEvening → h9 c = h c := fun c hc9 => (m_X12_writes _ _ _ er8 c (fun z => hc9 (sm_X12_anEvening_X12_writes c z))).trans (fr c hc9)
  exact fun c hc9 => (m_X12_anEvening_118 hk4 zN _ _ _ _ _ hf c hc9).trans (fr c hc9)
theorem m_X12_anEvening_68 {k4 : Int32 → Int32 → zH → zR} (hk4 : ∀ (h0 : zH) (x1 : Int32) (x2 : Int32), k4 x1 x2 h0 = some q → ∀ c, c ∉ md_X12_anEvening → q.2 c = h0 c) : ∀ (h0 : zH) (x1 : Int32) (x2 : Int32) (s0 : Int32), f_X12_anEvening_68 k4 x1 x2 s0 h0 = some q → ∀ c, c ∉ md_X12_anEvening → q.2 c = h0 c := by
  intro h x1 x2 s0 hf
  unfold f_X12_anEvening_68 at hf
  have fr : ∀ c, c ∉ md_X12_anEvening → h c = h c := fun _ _ => rfl
  obtain ⟨r4, h5, er4, hf⟩ := zbd_some hf
  have fr : ∀ c, c ∉ md_X12_anEvening → h5 c = h c := fun c hc9 => (m_X12_isTold _ er4 c (fun z => hc9 (sm_X12_anEvening_X12_isTold c z))).trans (fr c hc9)
  obtain ⟨r6, h7, er6, hf⟩ := zbd_some hf
  have fr : ∀ c, c ∉ md_X12_anEvening → h7 c = h c := fun c hc9 => (m_X12_guestAt _ _ er6 c (fun z => hc9 (sm_X12_anEvening_X12_guestAt c z))).trans (fr c hc9)
  rcases zif_n hf with ⟨hc, hf⟩ | ⟨hc, hf⟩
  · skip
    exact fun c hc9 => (m_X12_anEvening_110 hk4 _ _ _ _ _ hf c hc9).trans (fr c hc9)
  · skip
    obtain ⟨hz, hf⟩ := znz_some hf
    obtain ⟨r18, h19, er18, hf⟩ := zbd_some hf
    have fr : ∀ c, c ∉ md_X12_anEvening → h19 c = h c := fun c hc9 => (m_X12_guestAt _ _ er18 c (fun z => hc9 (sm_X12_anEvening_X12_guestAt c z))).trans (fr c hc9)
    exact fun c hc9 => (m_X12_anEvening_110 hk4 _ _ _ _ _ hf c hc9).trans (fr c hc9)
theorem m_X12_anEvening_55 {k4 : Int32 → Int32 → zH → zR} (hk4 : ∀ (h0 : zH) (x1 : Int32) (x2 : Int32), k4 x1 x2 h0 = some q → ∀ c, c ∉ md_X12_anEvening → q.2 c = h0 c) : ∀ (h0 : zH) (x1 : Int32) (x2 : Int32) (s0 : Int32), f_X12_anEvening_55 k4 x1 x2 s0 h0 = some q → ∀ c, c ∉ md_X12_anEvening → q.2 c = h0 c := by
  intro h x1 x2 s0 hf
  unfold f_X12_anEvening_55 at hf
  have fr : ∀ c, c ∉ md_X12_anEvening → h c = h c := fun _ _ => rfl
  rcases zif_c hf with ⟨hc, hf⟩ | ⟨hc, hf⟩
  · skip
    exact fun c hc9 => (m_X12_anEvening_68 hk4 _ _ _ _ hf c hc9).trans (fr c hc9)
  · skip
    exact fun c hc9 => (m_X12_anEvening_68 hk4 _ _ _ _ hf c hc9).trans (fr c hc9)
theorem m_X12_anEvening_54 {k4 : Int32 → Int32 → zH → zR} (hk4 : ∀ (h0 : zH) (x1 : Int32) (x2 : Int32), k4 x1 x2 h0 = some q → ∀ c, c ∉ md_X12_anEvening → q.2 c = h0 c) : ∀ (h0 : zH) (x1 : Int32) (x2 : Int32), f_X12_anEvening_54 k4 x1 x2 h0 = some q → ∀ c, c ∉ md_X12_anEvening → q.2 c = h0 c := by
  intro h x1 x2 hf
  unfold f_X12_anEvening_54 at hf
  have fr : ∀ c, c ∉ md_X12_anEvening → h c = h c := fun _ _ => rfl
  exact fun c hc9 => (m_X12_anEvening_55 hk4 _ _ _ _ hf c hc9).trans (fr c hc9)
theorem m_X12_anEvening_4   : ∀ n, ∀ (h0 : zH) (x1 : Int32) (x2 : Int32), f_X12_anEvening_4  n x1 x2 h0 = some q → ∀ c, c ∉ md_X12_anEvening → q.2 c = h0 c := by
  intro n
  induction n with
  | zero => intro h x1 x2 hf; cases hf
  | succ n ih =>
    intro h x1 x2 hf
    rw [f_X12_anEvening_4] at hf
    have fr : ∀ c, c ∉ md_X12_anEvening → h c = h c := fun _ _ => rfl
    rcases zif_c hf with ⟨hc, hf⟩ | ⟨hc, hf⟩
    · skip
      obtain ⟨h1, eh1, hf⟩ := zst_some hf
      have fr : ∀ c, c ∉ md_X12_anEvening → h1 c = h c := fun c hc9 => (congrFun eh1 c).trans ((zup_ne c (fun z => hc9 (by rw [z]; decide))).trans (fr c hc9))
      cases hf
      exact fr
    · skip
      obtain ⟨r2, h3, er2, hf⟩ := zbd_some hf
      have fr : ∀ c, c ∉ md_X12_anEvening → h3 c = h c := fun c hc9 => (m_X12_laysTelling _ _ er2 c (fun z => hc9 (sm_X12_anEvening_X12_laysTelling c z))).trans (fr c hc9)
      rcases zif_n hf with ⟨hc, hf⟩ | ⟨hc, hf⟩
      · skip
        rcases zif_c hf with ⟨hc, hf⟩ | ⟨hc, hf⟩
        · skip
          exact fun c hc9 => (m_X12_anEvening_54 ih _ _ _ hf c hc9).trans (fr c hc9)
        · skip
          obtain ⟨r20, h21, er20, hf⟩ := zbd_some hf
          have fr : ∀ c, c ∉ md_X12_anEvening → h21 c = h c := fun c hc9 => (m_X12_draw _ _ er20 c (fun z => hc9 (sm_X12_anEvening_X12_draw c z))).trans (fr c hc9)
          rcases zif_c hf with ⟨hc, hf⟩ | ⟨hc, hf⟩
          · skip
            exact fun c hc9 => (m_X12_anEvening_54 ih _ _ _ hf c hc9).trans (fr c hc9)
          · skip
            exact fun c hc9 => (m_X12_anEvening_55 ih _ _ _ _ hf c hc9).trans (fr c hc9)
      · skip
        exact fun c hc9 => (m_X12_anEvening_174 ih _ _ _ hf c hc9).trans (fr c hc9)
theorem m_X12_anEvening : ∀ (h0 : zH) {q : Int32 × zH}, f_X12_anEvening h0 = some q → ∀ c, c ∉ md_X12_anEvening → q.2 c = h0 c := by
  intro h q hf
  unfold f_X12_anEvening at hf
  have fr : ∀ c, c ∉ md_X12_anEvening → h c = h c := fun _ _ => rfl
  exact fun c hc9 => (m_X12_anEvening_4  zN _ _ _ hf c hc9).trans (fr c hc9)
end
section
abbrev md_X12_evenings : List Nat := [100, 101, 103, 108, 109]
theorem sm_X12_evenings_X12_isIn : ∀ c ∈ md_X12_isIn, c ∈ md_X12_evenings := by decide
theorem sm_X12_evenings_X12_keeps : ∀ c ∈ md_X12_keeps, c ∈ md_X12_evenings := by decide
theorem sm_X12_evenings_X12_anEvening : ∀ c ∈ md_X12_anEvening, c ∈ md_X12_evenings := by decide
variable {q : Int32 × zH}
theorem m_X12_evenings_24   : ∀ (h0 : zH), f_X12_evenings_24  h0 = some q → ∀ c, c ∉ md_X12_evenings → q.2 c = h0 c := by
  intro h hf
  unfold f_X12_evenings_24 at hf
  have fr : ∀ c, c ∉ md_X12_evenings → h c = h c := fun _ _ => rfl
  cases hf
  exact fr
theorem m_X12_evenings_30   : ∀ n, ∀ (h0 : zH) (x1 : Int32) (x2 : Int32) (x3 : Int32), f_X12_evenings_30  n x1 x2 x3 h0 = some q → ∀ c, c ∉ md_X12_evenings → q.2 c = h0 c := by
  intro n
  induction n with
  | zero => intro h x1 x2 x3 hf; cases hf
  | succ n ih =>
    intro h x1 x2 x3 hf
    rw [f_X12_evenings_30] at hf
    have fr : ∀ c, c ∉ md_X12_evenings → h c = h c := fun _ _ => rfl
    rcases zif_c hf with ⟨hc, hf⟩ | ⟨hc, hf⟩
    · skip
      cases hf
      exact fr
    · skip
      obtain ⟨r3, h4, er3, hf⟩ := zbd_some hf
      have fr : ∀ c, c ∉ md_X12_evenings → h4 c = h c := fun c hc9 => (m_X12_keeps _ er3 c (fun z => hc9 (sm_X12_evenings_X12_keeps c z))).trans (fr c hc9)
      obtain ⟨r5, h6, er5, hf⟩ := zbd_some hf
      have fr : ∀ c, c ∉ md_X12_evenings → h6 c = h c := fun c hc9 => (m_X12_anEvening _ er5 c (fun z => hc9 (sm_X12_evenings_X12_anEvening c z))).trans (fr c hc9)
      obtain ⟨y7, ey7, hf⟩ := zlt_some hf
      obtain ⟨y8, ey8, hf⟩ := zlt_some hf
      exact fun c hc9 => (ih _ _ _ _ hf c hc9).trans (fr c hc9)
theorem m_X12_evenings : ∀ (h0 : zH) (x1 : Int32) {q : Int32 × zH}, f_X12_evenings x1 h0 = some q → ∀ c, c ∉ md_X12_evenings → q.2 c = h0 c := by
  intro h x1 q hf
  unfold f_X12_evenings at hf
  have fr : ∀ c, c ∉ md_X12_evenings → h c = h c := fun _ _ => rfl
  obtain ⟨r1, h2, er1, hf⟩ := zbd_some hf
  have fr : ∀ c, c ∉ md_X12_evenings → h2 c = h c := fun c hc9 => (m_X12_isIn _ _ _ _ er1 c (fun z => hc9 (sm_X12_evenings_X12_isIn c z))).trans (fr c hc9)
  rcases zif_c hf with ⟨hc, hf⟩ | ⟨hc, hf⟩
  · skip
    exact fun c hc9 => (m_X12_evenings_24  _ hf c hc9).trans (fr c hc9)
  · skip
    rcases zif_c hf with ⟨hc, hf⟩ | ⟨hc, hf⟩
    · skip
      exact fun c hc9 => (m_X12_evenings_30  zN _ _ _ _ hf c hc9).trans (fr c hc9)
    · skip
      exact fun c hc9 => (m_X12_evenings_24  _ hf c hc9).trans (fr c hc9)
end
section
abbrev md_X12_laysSeats : List Nat := [114]
theorem sm_X12_laysSeats_X12_ofGuest : ∀ c ∈ md_X12_ofGuest, c ∈ md_X12_laysSeats := by decide
variable {q : Int32 × zH}
theorem m_X12_laysSeats_2   : ∀ n, ∀ (h0 : zH) (x1 : Int32), f_X12_laysSeats_2  n x1 h0 = some q → ∀ c, c ∉ md_X12_laysSeats → q.2 c = h0 c := by
  intro n
  induction n with
  | zero => intro h x1 hf; cases hf
  | succ n ih =>
    intro h x1 hf
    rw [f_X12_laysSeats_2] at hf
    have fr : ∀ c, c ∉ md_X12_laysSeats → h c = h c := fun _ _ => rfl
    rcases zif_c hf with ⟨hc, hf⟩ | ⟨hc, hf⟩
    · skip
      cases hf
      exact fr
    · skip
      obtain ⟨r1, h2, er1, hf⟩ := zbd_some hf
      have fr : ∀ c, c ∉ md_X12_laysSeats → h2 c = h c := fun c hc9 => (m_X12_ofGuest _ _ _ er1 c (fun z => hc9 (sm_X12_laysSeats_X12_ofGuest c z))).trans (fr c hc9)
      obtain ⟨hi, hf⟩ := zck_some hf
      obtain ⟨h3, eh3, hf⟩ := zst_some hf
      have fr : ∀ c, c ∉ md_X12_laysSeats → h3 c = h c := fun c hc9 => (congrFun eh3 c).trans ((zup_ne c (fun z => hc9 (by rw [z]; decide))).trans (fr c hc9))
      obtain ⟨y4, ey4, hf⟩ := zlt_some hf
      exact fun c hc9 => (ih _ _ hf c hc9).trans (fr c hc9)
theorem m_X12_laysSeats : ∀ (h0 : zH) {q : Int32 × zH}, f_X12_laysSeats h0 = some q → ∀ c, c ∉ md_X12_laysSeats → q.2 c = h0 c := by
  intro h q hf
  unfold f_X12_laysSeats at hf
  have fr : ∀ c, c ∉ md_X12_laysSeats → h c = h c := fun _ _ => rfl
  exact fun c hc9 => (m_X12_laysSeats_2  zN _ _ hf c hc9).trans (fr c hc9)
end
section
abbrev md_X12_backToSeats : List Nat := [101]
theorem sm_X12_backToSeats_X12_sits : ∀ c ∈ md_X12_sits, c ∈ md_X12_backToSeats := by decide
variable {q : Int32 × zH}
theorem m_X12_backToSeats_2   : ∀ n, ∀ (h0 : zH) (x1 : Int32), f_X12_backToSeats_2  n x1 h0 = some q → ∀ c, c ∉ md_X12_backToSeats → q.2 c = h0 c := by
  intro n
  induction n with
  | zero => intro h x1 hf; cases hf
  | succ n ih =>
    intro h x1 hf
    rw [f_X12_backToSeats_2] at hf
    have fr : ∀ c, c ∉ md_X12_backToSeats → h c = h c := fun _ _ => rfl
    rcases zif_c hf with ⟨hc, hf⟩ | ⟨hc, hf⟩
    · skip
      cases hf
      exact fr
    · skip
      obtain ⟨hi, hf⟩ := zck_some hf
      obtain ⟨r1, h2, er1, hf⟩ := zbd_some hf
      have fr : ∀ c, c ∉ md_X12_backToSeats → h2 c = h c := fun c hc9 => (m_X12_sits _ _ _ er1 c (fun z => hc9 (sm_X12_backToSeats_X12_sits c z))).trans (fr c hc9)
      obtain ⟨y3, ey3, hf⟩ := zlt_some hf
      exact fun c hc9 => (ih _ _ hf c hc9).trans (fr c hc9)
theorem m_X12_backToSeats : ∀ (h0 : zH) {q : Int32 × zH}, f_X12_backToSeats h0 = some q → ∀ c, c ∉ md_X12_backToSeats → q.2 c = h0 c := by
  intro h q hf
  unfold f_X12_backToSeats at hf
  have fr : ∀ c, c ∉ md_X12_backToSeats → h c = h c := fun _ _ => rfl
  exact fun c hc9 => (m_X12_backToSeats_2  zN _ _ hf c hc9).trans (fr c hc9)
end
section
abbrev md_X12_change : List Nat := [100, 101, 104, 108, 109, 114]
theorem sm_X12_change_X12_isIn : ∀ c ∈ md_X12_isIn, c ∈ md_X12_change := by decide
theorem sm_X12_change_X12_laysSeats : ∀ c ∈ md_X12_laysSeats, c ∈ md_X12_change := by decide
theorem sm_X12_change_X12_merryNow : ∀ c ∈ md_X12_merryNow, c ∈ md_X12_change := by decide
theorem sm_X12_change_X12_sits : ∀ c ∈ md_X12_sits, c ∈ md_X12_change := by decide
theorem sm_X12_change_X12_backToSeats : ∀ c ∈ md_X12_backToSeats, c ∈ md_X12_change := by decide
variable {q : Int32 × zH}
theorem m_X12_change_142 {k31 : Int32 → Int32 → Int32 → Int32 → Int32 → Int32 → zH → zR} {k48 : Int32 → Int32 → Int32 → Int32 → Int32 → Int32 → Int32 → zH → zR} (hk31 : ∀ (h0 : zH) (x1 : Int32) (x2 : Int32) (x3 : Int32) (x4 : Int32) (x5 : Int32) (x6 : Int32), k31 x1 x2 x3 x4 x5 x6 h0 = some q → ∀ c, c ∉ md_X12_change → q.2 c = h0 c) (hk48 : ∀ (h0 : zH) (x1 : Int32) (x2 : Int32) (x3 : Int32) (x4 : Int32) (x5 : Int32) (x6 : Int32) (x7 : Int32), k48 x1 x2 x3 x4 x5 x6 x7 h0 = some q → ∀ c, c ∉ md_X12_change → q.2 c = h0 c) : ∀ (h0 : zH) (x1 : Int32) (x2 : Int32) (x3 : Int32) (x4 : Int32) (x5 : Int32) (x6 : Int32) (x7 : Int32), f_X12_change_142 k31 k48 x1 x2 x3 x4 x5 x6 x7 h0 = some q → ∀ c, c ∉ md_X12_change → q.2 c = h0 c := by
  intro h x1 x2 x3 x4 x5 x6 x7 hf
  unfold f_X12_change_142 at hf
  have fr : ∀ c, c ∉ md_X12_change → h c = h c := fun _ _ => rfl
  obtain ⟨y9, ey9, hf⟩ := zlt_some hf
  exact fun c hc9 => (hk48 _ _ _ _ _ _ _ _ hf c hc9).trans (fr c hc9)
theorem m_X12_change_48 {k31 : Int32 → Int32 → Int32 → Int32 → Int32 → Int32 → zH → zR} (hk31 : ∀ (h0 : zH) (x1 : Int32) (x2 : Int32) (x3 : Int32) (x4 : Int32) (x5 : Int32) (x6 : Int32), k31 x1 x2 x3 x4 x5 x6 h0 = some q → ∀ c, c ∉ md_X12_change → q.2 c = h0 c) : ∀ n, ∀ (h0 : zH) (x1 : Int32) (x2 : Int32) (x3 : Int32) (x4 : Int32) (x5 : Int32) (x6 : Int32) (x7 : Int32), f_X12_change_48 k31 n x1 x2 x3 x4 x5 x6 x7 h0 = some q → ∀ c, c ∉ md_X12_change → q.2 c = h0 c := by
  intro n
  induction n with
  | zero => intro h x1 x2 x3 x4 x5 x6 x7 hf; cases hf
  | succ n ih =>
    intro h x1 x2 x3 x4 x5 x6 x7 hf
    rw [f_X12_change_48] at hf
    have fr : ∀ c, c ∉ md_X12_change → h c = h c := fun _ _ => rfl
    rcases zif_c hf with ⟨hc, hf⟩ | ⟨hc, hf⟩
    · skip
      obtain ⟨y8, ey8, hf⟩ := zlt_some hf
      exact fun c hc9 => (hk31 _ _ _ _ _ _ _ hf c hc9).trans (fr c hc9)
    · skip
      obtain ⟨hi, hf⟩ := zck_some hf
      rcases zif_c hf with ⟨hc, hf⟩ | ⟨hc, hf⟩
      · skip
        exact fun c hc9 => (m_X12_change_142 hk31 ih _ _ _ _ _ _ _ _ hf c hc9).trans (fr c hc9)
      · skip
        obtain ⟨hi, hf⟩ := zck_some hf
        rcases zif_n hf with ⟨hc, hf⟩ | ⟨hc, hf⟩
        · skip
          obtain ⟨hi, hf⟩ := zck_some hf
          obtain ⟨r10, h11, er10, hf⟩ := zbd_some hf
          have fr : ∀ c, c ∉ md_X12_change → h11 c = h c := fun c hc9 => (m_X12_sits _ _ _ er10 c (fun z => hc9 (sm_X12_change_X12_sits c z))).trans (fr c hc9)
          obtain ⟨hi, hf⟩ := zck_some hf
          obtain ⟨r12, h13, er12, hf⟩ := zbd_some hf
          have fr : ∀ c, c ∉ md_X12_change → h13 c = h c := fun c hc9 => (m_X12_sits _ _ _ er12 c (fun z => hc9 (sm_X12_change_X12_sits c z))).trans (fr c hc9)
          obtain ⟨r14, h15, er14, hf⟩ := zbd_some hf
          have fr : ∀ c, c ∉ md_X12_change → h15 c = h c := fun c hc9 => (m_X12_merryNow _ er14 c (fun z => hc9 (sm_X12_change_X12_merryNow c z))).trans (fr c hc9)
          obtain ⟨y16, ey16, hf⟩ := zlt_some hf
          obtain ⟨r17, h18, er17, hf⟩ := zbd_some hf
          have fr : ∀ c, c ∉ md_X12_change → h18 c = h c := fun c hc9 => (m_X12_backToSeats _ er17 c (fun z => hc9 (sm_X12_change_X12_backToSeats c z))).trans (fr c hc9)
          rcases zif_c hf with ⟨hc, hf⟩ | ⟨hc, hf⟩
          · skip
            exact fun c hc9 => (m_X12_change_142 hk31 ih _ _ _ _ _ _ _ _ hf c hc9).trans (fr c hc9)
          · skip
            exact fun c hc9 => (m_X12_change_142 hk31 ih _ _ _ _ _ _ _ _ hf c hc9).trans (fr c hc9)
        · skip
          exact fun c hc9 => (m_X12_change_142 hk31 ih _ _ _ _ _ _ _ _ hf c hc9).trans (fr c hc9)
theorem m_X12_change_31   : ∀ n, ∀ (h0 : zH) (x1 : Int32) (x2 : Int32) (x3 : Int32) (x4 : Int32) (x5 : Int32) (x6 : Int32), f_X12_change_31  n x1 x2 x3 x4 x5 x6 h0 = some q → ∀ c, c ∉ md_X12_change → q.2 c = h0 c := by
  intro n
  induction n with
  | zero => intro h x1 x2 x3 x4 x5 x6 hf; cases hf
  | succ n ih =>
    intro h x1 x2 x3 x4 x5 x6 hf
    rw [f_X12_change_31] at hf
    have fr : ∀ c, c ∉ md_X12_change → h c = h c := fun _ _ => rfl
    rcases zif_c hf with ⟨hc, hf⟩ | ⟨hc, hf⟩
    · skip
      rcases zif_n hf with ⟨hc, hf⟩ | ⟨hc, hf⟩
      · skip
        rcases zif_n hf with ⟨hc, hf⟩ | ⟨hc, hf⟩
        · skip
          rcases zif_n hf with ⟨hc, hf⟩ | ⟨hc, hf⟩
          · skip
            cases hf
            exact fr
          · skip
            cases hf
            exact fr
        · skip
          cases hf
          exact fr
      · skip
        cases hf
        exact fr
    · skip
      obtain ⟨y7, ey7, hf⟩ := zlt_some hf
      exact fun c hc9 => (m_X12_change_48 ih zN _ _ _ _ _ _ _ _ hf c hc9).trans (fr c hc9)
theorem m_X12_change : ∀ (h0 : zH) (x1 : Int32) {q : Int32 × zH}, f_X12_change x1 h0 = some q → ∀ c, c ∉ md_X12_change → q.2 c = h0 c := by
  intro h x1 q hf
  unfold f_X12_change at hf
  have fr : ∀ c, c ∉ md_X12_change → h c = h c := fun _ _ => rfl
  obtain ⟨r1, h2, er1, hf⟩ := zbd_some hf
  have fr : ∀ c, c ∉ md_X12_change → h2 c = h c := fun c hc9 => (m_X12_isIn _ _ _ _ er1 c (fun z => hc9 (sm_X12_change_X12_isIn c z))).trans (fr c hc9)
  rcases zif_n hf with ⟨hc, hf⟩ | ⟨hc, hf⟩
  · skip
    obtain ⟨r3, h4, er3, hf⟩ := zbd_some hf
    have fr : ∀ c, c ∉ md_X12_change → h4 c = h c := fun c hc9 => (m_X12_laysSeats _ er3 c (fun z => hc9 (sm_X12_change_X12_laysSeats c z))).trans (fr c hc9)
    obtain ⟨r5, h6, er5, hf⟩ := zbd_some hf
    have fr : ∀ c, c ∉ md_X12_change → h6 c = h c := fun c hc9 => (m_X12_merryNow _ er5 c (fun z => hc9 (sm_X12_change_X12_merryNow c z))).trans (fr c hc9)
    exact fun c hc9 => (m_X12_change_31  zN _ _ _ _ _ _ _ hf c hc9).trans (fr c hc9)
  · skip
    cases hf
    exact fr
end
section
abbrev md_X12_away : List Nat := [100, 101, 104, 108, 109, 114]
theorem sm_X12_away_X12_laysSeats : ∀ c ∈ md_X12_laysSeats, c ∈ md_X12_away := by decide
theorem sm_X12_away_X12_sits : ∀ c ∈ md_X12_sits, c ∈ md_X12_away := by decide
theorem sm_X12_away_X12_merryNow : ∀ c ∈ md_X12_merryNow, c ∈ md_X12_away := by decide
variable {q : Int32 × zH}
theorem m_X12_away_66 {k8 : Int32 → Int32 → Int32 → zH → zR} (hk8 : ∀ (h0 : zH) (x1 : Int32) (x2 : Int32) (x3 : Int32), k8 x1 x2 x3 h0 = some q → ∀ c, c ∉ md_X12_away → q.2 c = h0 c) : ∀ (h0 : zH) (x1 : Int32) (x2 : Int32) (x3 : Int32), f_X12_away_66 k8 x1 x2 x3 h0 = some q → ∀ c, c ∉ md_X12_away → q.2 c = h0 c := by
  intro h x1 x2 x3 hf
  unfold f_X12_away_66 at hf
  have fr : ∀ c, c ∉ md_X12_away → h c = h c := fun _ _ => rfl
  obtain ⟨y10, ey10, hf⟩ := zlt_some hf
  exact fun c hc9 => (hk8 _ _ _ _ hf c hc9).trans (fr c hc9)
theorem m_X12_away_53 {k8 : Int32 → Int32 → Int32 → zH → zR} (hk8 : ∀ (h0 : zH) (x1 : Int32) (x2 : Int32) (x3 : Int32), k8 x1 x2 x3 h0 = some q → ∀ c, c ∉ md_X12_away → q.2 c = h0 c) : ∀ (h0 : zH) (x1 : Int32) (x3 : Int32) (s0 : Int32) (s1 : Int32), f_X12_away_53 k8 x1 x3 s0 s1 h0 = some q → ∀ c, c ∉ md_X12_away → q.2 c = h0 c := by
  intro h x1 x3 s0 s1 hf
  unfold f_X12_away_53 at hf
  have fr : ∀ c, c ∉ md_X12_away → h c = h c := fun _ _ => rfl
  obtain ⟨y7, ey7, hf⟩ := zlt_some hf
  obtain ⟨hi, hf⟩ := zck_some hf
  obtain ⟨r8, h9, er8, hf⟩ := zbd_some hf
  have fr : ∀ c, c ∉ md_X12_away → h9 c = h c := fun c hc9 => (m_X12_sits _ _ _ er8 c (fun z => hc9 (sm_X12_away_X12_sits c z))).trans (fr c hc9)
  exact fun c hc9 => (m_X12_away_66 hk8 _ _ _ _ hf c hc9).trans (fr c hc9)
theorem m_X12_away_8   : ∀ n, ∀ (h0 : zH) (x1 : Int32) (x2 : Int32) (x3 : Int32), f_X12_away_8  n x1 x2 x3 h0 = some q → ∀ c, c ∉ md_X12_away → q.2 c = h0 c := by
  intro n
  induction n with
  | zero => intro h x1 x2 x3 hf; cases hf
  | succ n ih =>
    intro h x1 x2 x3 hf
    rw [f_X12_away_8] at hf
    have fr : ∀ c, c ∉ md_X12_away → h c = h c := fun _ _ => rfl
    rcases zif_c hf with ⟨hc, hf⟩ | ⟨hc, hf⟩
    · skip
      cases hf
      exact fr
    · skip
      obtain ⟨hi, hf⟩ := zck_some hf
      rcases zif_n hf with ⟨hc, hf⟩ | ⟨hc, hf⟩
      · skip
        obtain ⟨r3, h4, er3, hf⟩ := zbd_some hf
        have fr : ∀ c, c ∉ md_X12_away → h4 c = h c := fun c hc9 => (m_X12_sits _ _ _ er3 c (fun z => hc9 (sm_X12_away_X12_sits c z))).trans (fr c hc9)
        obtain ⟨r5, h6, er5, hf⟩ := zbd_some hf
        have fr : ∀ c, c ∉ md_X12_away → h6 c = h c := fun c hc9 => (m_X12_merryNow _ er5 c (fun z => hc9 (sm_X12_away_X12_merryNow c z))).trans (fr c hc9)
        rcases zif_n hf with ⟨hc, hf⟩ | ⟨hc, hf⟩
        · skip
          exact fun c hc9 => (m_X12_away_53 ih _ _ _ _ _ hf c hc9).trans (fr c hc9)
        · skip
          exact fun c hc9 => (m_X12_away_53 ih _ _ _ _ _ hf c hc9).trans (fr c hc9)
      · skip
        exact fun c hc9 => (m_X12_away_66 ih _ _ _ _ hf c hc9).trans (fr c hc9)
theorem m_X12_away : ∀ (h0 : zH) (x1 : Int32) {q : Int32 × zH}, f_X12_away x1 h0 = some q → ∀ c, c ∉ md_X12_away → q.2 c = h0 c := by
  intro h x1 q hf
  unfold f_X12_away at hf
  have fr : ∀ c, c ∉ md_X12_away → h c = h c := fun _ _ => rfl
  obtain ⟨r1, h2, er1, hf⟩ := zbd_some hf
  have fr : ∀ c, c ∉ md_X12_away → h2 c = h c := fun c hc9 => (m_X12_laysSeats _ er1 c (fun z => hc9 (sm_X12_away_X12_laysSeats c z))).trans (fr c hc9)
  exact fun c hc9 => (m_X12_away_8  zN _ _ _ _ hf c hc9).trans (fr c hc9)
end
section
abbrev md_X12_laysQuarters : List Nat := [117]
theorem sm_X12_laysQuarters_X12_quarters : ∀ c ∈ md_X12_quarters, c ∈ md_X12_laysQuarters := by decide
variable {q : Int32 × zH}
theorem m_X12_laysQuarters_14 {k2 : Int32 → zH → zR} (hk2 : ∀ (h0 : zH) (x1 : Int32), k2 x1 h0 = some q → ∀ c, c ∉ md_X12_laysQuarters → q.2 c = h0 c) : ∀ n, ∀ (h0 : zH) (x1 : Int32) (x2 : Int32), f_X12_laysQuarters_14 k2 n x1 x2 h0 = some q → ∀ c, c ∉ md_X12_laysQuarters → q.2 c = h0 c := by
  intro n
  induction n with
  | zero => intro h x1 x2 hf; cases hf
  | succ n ih =>
    intro h x1 x2 hf
    rw [f_X12_laysQuarters_14] at hf
    have fr : ∀ c, c ∉ md_X12_laysQuarters → h c = h c := fun _ _ => rfl
    rcases zif_c hf with ⟨hc, hf⟩ | ⟨hc, hf⟩
    · skip
      obtain ⟨y1, ey1, hf⟩ := zlt_some hf
      exact fun c hc9 => (hk2 _ _ hf c hc9).trans (fr c hc9)
    · skip
      obtain ⟨r2, h3, er2, hf⟩ := zbd_some hf
      have fr : ∀ c, c ∉ md_X12_laysQuarters → h3 c = h c := fun c hc9 => (m_X12_quarters _ _ _ er2 c (fun z => hc9 (sm_X12_laysQuarters_X12_quarters c z))).trans (fr c hc9)
      obtain ⟨hi, hf⟩ := zck_some hf
      obtain ⟨h4, eh4, hf⟩ := zst_some hf
      have fr : ∀ c, c ∉ md_X12_laysQuarters → h4 c = h c := fun c hc9 => (congrFun eh4 c).trans ((zup_ne c (fun z => hc9 (by rw [z]; decide))).trans (fr c hc9))
      obtain ⟨y5, ey5, hf⟩ := zlt_some hf
      exact fun c hc9 => (ih _ _ _ hf c hc9).trans (fr c hc9)
theorem m_X12_laysQuarters_2   : ∀ n, ∀ (h0 : zH) (x1 : Int32), f_X12_laysQuarters_2  n x1 h0 = some q → ∀ c, c ∉ md_X12_laysQuarters → q.2 c = h0 c := by
  intro n
  induction n with
  | zero => intro h x1 hf; cases hf
  | succ n ih =>
    intro h x1 hf
    rw [f_X12_laysQuarters_2] at hf
    have fr : ∀ c, c ∉ md_X12_laysQuarters → h c = h c := fun _ _ => rfl
    rcases zif_c hf with ⟨hc, hf⟩ | ⟨hc, hf⟩
    · skip
      cases hf
      exact fr
    · skip
      exact fun c hc9 => (m_X12_laysQuarters_14 ih zN _ _ _ hf c hc9).trans (fr c hc9)
theorem m_X12_laysQuarters : ∀ (h0 : zH) {q : Int32 × zH}, f_X12_laysQuarters h0 = some q → ∀ c, c ∉ md_X12_laysQuarters → q.2 c = h0 c := by
  intro h q hf
  unfold f_X12_laysQuarters at hf
  have fr : ∀ c, c ∉ md_X12_laysQuarters → h c = h c := fun _ _ => rfl
  exact fun c hc9 => (m_X12_laysQuarters_2  zN _ _ hf c hc9).trans (fr c hc9)
end
section
abbrev md_X12_putsQuarters : List Nat := [101]
variable {q : Int32 × zH}
theorem m_X12_putsQuarters_14 {k2 : Int32 → zH → zR} (hk2 : ∀ (h0 : zH) (x1 : Int32), k2 x1 h0 = some q → ∀ c, c ∉ md_X12_putsQuarters → q.2 c = h0 c) : ∀ n, ∀ (h0 : zH) (x1 : Int32) (x2 : Int32), f_X12_putsQuarters_14 k2 n x1 x2 h0 = some q → ∀ c, c ∉ md_X12_putsQuarters → q.2 c = h0 c := by
  intro n
  induction n with
  | zero => intro h x1 x2 hf; cases hf
  | succ n ih =>
    intro h x1 x2 hf
    rw [f_X12_putsQuarters_14] at hf
    have fr : ∀ c, c ∉ md_X12_putsQuarters → h c = h c := fun _ _ => rfl
    rcases zif_c hf with ⟨hc, hf⟩ | ⟨hc, hf⟩
    · skip
      obtain ⟨y1, ey1, hf⟩ := zlt_some hf
      exact fun c hc9 => (hk2 _ _ hf c hc9).trans (fr c hc9)
    · skip
      obtain ⟨hi, hf⟩ := zck_some hf
      obtain ⟨hi, hf⟩ := zck_some hf
      obtain ⟨h2, eh2, hf⟩ := zst_some hf
      have fr : ∀ c, c ∉ md_X12_putsQuarters → h2 c = h c := fun c hc9 => (congrFun eh2 c).trans ((zup_ne c (fun z => hc9 (by rw [z]; decide))).trans (fr c hc9))
      obtain ⟨y3, ey3, hf⟩ := zlt_some hf
      exact fun c hc9 => (ih _ _ _ hf c hc9).trans (fr c hc9)
theorem m_X12_putsQuarters_2   : ∀ n, ∀ (h0 : zH) (x1 : Int32), f_X12_putsQuarters_2  n x1 h0 = some q → ∀ c, c ∉ md_X12_putsQuarters → q.2 c = h0 c := by
  intro n
  induction n with
  | zero => intro h x1 hf; cases hf
  | succ n ih =>
    intro h x1 hf
    rw [f_X12_putsQuarters_2] at hf
    have fr : ∀ c, c ∉ md_X12_putsQuarters → h c = h c := fun _ _ => rfl
    rcases zif_c hf with ⟨hc, hf⟩ | ⟨hc, hf⟩
    · skip
      cases hf
      exact fr
    · skip
      exact fun c hc9 => (m_X12_putsQuarters_14 ih zN _ _ _ hf c hc9).trans (fr c hc9)
theorem m_X12_putsQuarters : ∀ (h0 : zH) {q : Int32 × zH}, f_X12_putsQuarters h0 = some q → ∀ c, c ∉ md_X12_putsQuarters → q.2 c = h0 c := by
  intro h q hf
  unfold f_X12_putsQuarters at hf
  have fr : ∀ c, c ∉ md_X12_putsQuarters → h c = h c := fun _ _ => rfl
  exact fun c hc9 => (m_X12_putsQuarters_2  zN _ _ hf c hc9).trans (fr c hc9)
end
section
abbrev md_X12_uncle : List Nat := [100, 101, 104, 108, 109, 117]
theorem sm_X12_uncle_X12_isFamily : ∀ c ∈ md_X12_isFamily, c ∈ md_X12_uncle := by decide
theorem sm_X12_uncle_X12_isIn : ∀ c ∈ md_X12_isIn, c ∈ md_X12_uncle := by decide
theorem sm_X12_uncle_X12_laysQuarters : ∀ c ∈ md_X12_laysQuarters, c ∈ md_X12_uncle := by decide
theorem sm_X12_uncle_X12_merryNow : ∀ c ∈ md_X12_merryNow, c ∈ md_X12_uncle := by decide
theorem sm_X12_uncle_X12_putsQuarters : ∀ c ∈ md_X12_putsQuarters, c ∈ md_X12_uncle := by decide
theorem sm_X12_uncle_X12_quarters : ∀ c ∈ md_X12_quarters, c ∈ md_X12_uncle := by decide
theorem sm_X12_uncle_X12_adds : ∀ c ∈ md_X12_adds, c ∈ md_X12_uncle := by decide
variable {q : Int32 × zH}
theorem m_X12_uncle_16   : ∀ (h0 : zH), f_X12_uncle_16  h0 = some q → ∀ c, c ∉ md_X12_uncle → q.2 c = h0 c := by
  intro h hf
  unfold f_X12_uncle_16 at hf
  have fr : ∀ c, c ∉ md_X12_uncle → h c = h c := fun _ _ => rfl
  cases hf
  exact fr
theorem m_X12_uncle_123 {k30 : Int32 → Int32 → Int32 → Int32 → Int32 → zH → zR} (hk30 : ∀ (h0 : zH) (x1 : Int32) (x2 : Int32) (x3 : Int32) (x4 : Int32) (x5 : Int32), k30 x1 x2 x3 x4 x5 h0 = some q → ∀ c, c ∉ md_X12_uncle → q.2 c = h0 c) : ∀ (h0 : zH) (x1 : Int32) (x2 : Int32) (x3 : Int32) (x4 : Int32) (x5 : Int32), f_X12_uncle_123 k30 x1 x2 x3 x4 x5 h0 = some q → ∀ c, c ∉ md_X12_uncle → q.2 c = h0 c := by
  intro h x1 x2 x3 x4 x5 hf
  unfold f_X12_uncle_123 at hf
  have fr : ∀ c, c ∉ md_X12_uncle → h c = h c := fun _ _ => rfl
  obtain ⟨y11, ey11, hf⟩ := zlt_some hf
  exact fun c hc9 => (hk30 _ _ _ _ _ _ hf c hc9).trans (fr c hc9)
theorem m_X12_uncle_49 {k30 : Int32 → Int32 → Int32 → Int32 → Int32 → zH → zR} (hk30 : ∀ (h0 : zH) (x1 : Int32) (x2 : Int32) (x3 : Int32) (x4 : Int32) (x5 : Int32), k30 x1 x2 x3 x4 x5 h0 = some q → ∀ c, c ∉ md_X12_uncle → q.2 c = h0 c) : ∀ n, ∀ (h0 : zH) (x1 : Int32) (x2 : Int32) (x3 : Int32) (x4 : Int32) (x5 : Int32) (x6 : Int32), f_X12_uncle_49 k30 n x1 x2 x3 x4 x5 x6 h0 = some q → ∀ c, c ∉ md_X12_uncle → q.2 c = h0 c := by
  intro n
  induction n with
  | zero => intro h x1 x2 x3 x4 x5 x6 hf; cases hf
  | succ n ih =>
    intro h x1 x2 x3 x4 x5 x6 hf
    rw [f_X12_uncle_49] at hf
    have fr : ∀ c, c ∉ md_X12_uncle → h c = h c := fun _ _ => rfl
    rcases zif_c hf with ⟨hc, hf⟩ | ⟨hc, hf⟩
    · skip
      obtain ⟨r7, h8, er7, hf⟩ := zbd_some hf
      have fr : ∀ c, c ∉ md_X12_uncle → h8 c = h c := fun c hc9 => (m_X12_merryNow _ er7 c (fun z => hc9 (sm_X12_uncle_X12_merryNow c z))).trans (fr c hc9)
      obtain ⟨r9, h10, er9, hf⟩ := zbd_some hf
      have fr : ∀ c, c ∉ md_X12_uncle → h10 c = h c := fun c hc9 => (m_X12_putsQuarters _ er9 c (fun z => hc9 (sm_X12_uncle_X12_putsQuarters c z))).trans (fr c hc9)
      rcases zif_c hf with ⟨hc, hf⟩ | ⟨hc, hf⟩
      · skip
        exact fun c hc9 => (m_X12_uncle_123 hk30 _ _ _ _ _ _ hf c hc9).trans (fr c hc9)
      · skip
        exact fun c hc9 => (m_X12_uncle_123 hk30 _ _ _ _ _ _ hf c hc9).trans (fr c hc9)
    · skip
      obtain ⟨r12, h13, er12, hf⟩ := zbd_some hf
      have fr : ∀ c, c ∉ md_X12_uncle → h13 c = h c := fun c hc9 => (m_X12_quarters _ _ _ er12 c (fun z => hc9 (sm_X12_uncle_X12_quarters c z))).trans (fr c hc9)
      obtain ⟨r14, h15, er14, hf⟩ := zbd_some hf
      have fr : ∀ c, c ∉ md_X12_uncle → h15 c = h c := fun c hc9 => (m_X12_adds _ _ _ _ er14 c (fun z => hc9 (sm_X12_uncle_X12_adds c z))).trans (fr c hc9)
      obtain ⟨r16, h17, er16, hf⟩ := zbd_some hf
      have fr : ∀ c, c ∉ md_X12_uncle → h17 c = h c := fun c hc9 => (m_X12_quarters _ _ _ er16 c (fun z => hc9 (sm_X12_uncle_X12_quarters c z))).trans (fr c hc9)
      obtain ⟨r18, h19, er18, hf⟩ := zbd_some hf
      have fr : ∀ c, c ∉ md_X12_uncle → h19 c = h c := fun c hc9 => (m_X12_adds _ _ _ _ er18 c (fun z => hc9 (sm_X12_uncle_X12_adds c z))).trans (fr c hc9)
      obtain ⟨y20, ey20, hf⟩ := zlt_some hf
      exact fun c hc9 => (ih _ _ _ _ _ _ _ hf c hc9).trans (fr c hc9)
theorem m_X12_uncle_30   : ∀ n, ∀ (h0 : zH) (x1 : Int32) (x2 : Int32) (x3 : Int32) (x4 : Int32) (x5 : Int32), f_X12_uncle_30  n x1 x2 x3 x4 x5 h0 = some q → ∀ c, c ∉ md_X12_uncle → q.2 c = h0 c := by
  intro n
  induction n with
  | zero => intro h x1 x2 x3 x4 x5 hf; cases hf
  | succ n ih =>
    intro h x1 x2 x3 x4 x5 hf
    rw [f_X12_uncle_30] at hf
    have fr : ∀ c, c ∉ md_X12_uncle → h c = h c := fun _ _ => rfl
    rcases zif_c hf with ⟨hc, hf⟩ | ⟨hc, hf⟩
    · skip
      rcases zif_n hf with ⟨hc, hf⟩ | ⟨hc, hf⟩
      · skip
        cases hf
        exact fr
      · skip
        cases hf
        exact fr
    · skip
      rcases zif_n hf with ⟨hc, hf⟩ | ⟨hc, hf⟩
      · skip
        exact fun c hc9 => (m_X12_uncle_49 ih zN _ _ _ _ _ _ _ hf c hc9).trans (fr c hc9)
      · skip
        exact fun c hc9 => (m_X12_uncle_123 ih _ _ _ _ _ _ hf c hc9).trans (fr c hc9)
theorem m_X12_uncle : ∀ (h0 : zH) (x1 : Int32) (x2 : Int32) {q : Int32 × zH}, f_X12_uncle x1 x2 h0 = some q → ∀ c, c ∉ md_X12_uncle → q.2 c = h0 c := by
  intro h x1 x2 q hf
  unfold f_X12_uncle at hf
  have fr : ∀ c, c ∉ md_X12_uncle → h c = h c := fun _ _ => rfl
  obtain ⟨r1, h2, er1, hf⟩ := zbd_some hf
  have fr : ∀ c, c ∉ md_X12_uncle → h2 c = h c := fun c hc9 => (m_X12_isFamily _ _ er1 c (fun z => hc9 (sm_X12_uncle_X12_isFamily c z))).trans (fr c hc9)
  rcases zif_c hf with ⟨hc, hf⟩ | ⟨hc, hf⟩
  · skip
    exact fun c hc9 => (m_X12_uncle_16  _ hf c hc9).trans (fr c hc9)
  · skip
    obtain ⟨r3, h4, er3, hf⟩ := zbd_some hf
    have fr : ∀ c, c ∉ md_X12_uncle → h4 c = h c := fun c hc9 => (m_X12_isIn _ _ _ _ er3 c (fun z => hc9 (sm_X12_uncle_X12_isIn c z))).trans (fr c hc9)
    rcases zif_n hf with ⟨hc, hf⟩ | ⟨hc, hf⟩
    · skip
      obtain ⟨r5, h6, er5, hf⟩ := zbd_some hf
      have fr : ∀ c, c ∉ md_X12_uncle → h6 c = h c := fun c hc9 => (m_X12_laysQuarters _ er5 c (fun z => hc9 (sm_X12_uncle_X12_laysQuarters c z))).trans (fr c hc9)
      exact fun c hc9 => (m_X12_uncle_30  zN _ _ _ _ _ _ hf c hc9).trans (fr c hc9)
    · skip
      exact fun c hc9 => (m_X12_uncle_16  _ hf c hc9).trans (fr c hc9)
end
section
abbrev md_X12_sorts : List Nat := [100, 110, 111]
theorem sm_X12_sorts_X12_isFront : ∀ c ∈ md_X12_isFront, c ∈ md_X12_sorts := by decide
variable {q : Int32 × zH}
theorem m_X12_sorts_73 {k12 : Int32 → zH → zR} (hk12 : ∀ (h0 : zH) (x1 : Int32), k12 x1 h0 = some q → ∀ c, c ∉ md_X12_sorts → q.2 c = h0 c) : ∀ (h0 : zH) (x1 : Int32), f_X12_sorts_73 k12 x1 h0 = some q → ∀ c, c ∉ md_X12_sorts → q.2 c = h0 c := by
  intro h x1 hf
  unfold f_X12_sorts_73 at hf
  have fr : ∀ c, c ∉ md_X12_sorts → h c = h c := fun _ _ => rfl
  obtain ⟨y7, ey7, hf⟩ := zlt_some hf
  exact fun c hc9 => (hk12 _ _ hf c hc9).trans (fr c hc9)
theorem m_X12_sorts_12   : ∀ n, ∀ (h0 : zH) (x1 : Int32), f_X12_sorts_12  n x1 h0 = some q → ∀ c, c ∉ md_X12_sorts → q.2 c = h0 c := by
  intro n
  induction n with
  | zero => intro h x1 hf; cases hf
  | succ n ih =>
    intro h x1 hf
    rw [f_X12_sorts_12] at hf
    have fr : ∀ c, c ∉ md_X12_sorts → h c = h c := fun _ _ => rfl
    rcases zif_c hf with ⟨hc, hf⟩ | ⟨hc, hf⟩
    · skip
      cases hf
      exact fr
    · skip
      obtain ⟨r3, h4, er3, hf⟩ := zbd_some hf
      have fr : ∀ c, c ∉ md_X12_sorts → h4 c = h c := fun c hc9 => (m_X12_isFront _ _ er3 c (fun z => hc9 (sm_X12_sorts_X12_isFront c z))).trans (fr c hc9)
      rcases zif_c hf with ⟨hc, hf⟩ | ⟨hc, hf⟩
      · skip
        obtain ⟨hi, hf⟩ := zck_some hf
        obtain ⟨h5, eh5, hf⟩ := zst_some hf
        have fr : ∀ c, c ∉ md_X12_sorts → h5 c = h c := fun c hc9 => (congrFun eh5 c).trans ((zup_ne c (fun z => hc9 (by rw [z]; decide))).trans (fr c hc9))
        obtain ⟨h6, eh6, hf⟩ := zst_some hf
        have fr : ∀ c, c ∉ md_X12_sorts → h6 c = h c := fun c hc9 => (congrFun eh6 c).trans ((zup_ne c (fun z => hc9 (by rw [z]; decide))).trans (fr c hc9))
        exact fun c hc9 => (m_X12_sorts_73 ih _ _ hf c hc9).trans (fr c hc9)
      · skip
        obtain ⟨hi, hf⟩ := zck_some hf
        obtain ⟨h8, eh8, hf⟩ := zst_some hf
        have fr : ∀ c, c ∉ md_X12_sorts → h8 c = h c := fun c hc9 => (congrFun eh8 c).trans ((zup_ne c (fun z => hc9 (by rw [z]; decide))).trans (fr c hc9))
        obtain ⟨h9, eh9, hf⟩ := zst_some hf
        have fr : ∀ c, c ∉ md_X12_sorts → h9 c = h c := fun c hc9 => (congrFun eh9 c).trans ((zup_ne c (fun z => hc9 (by rw [z]; decide))).trans (fr c hc9))
        exact fun c hc9 => (m_X12_sorts_73 ih _ _ hf c hc9).trans (fr c hc9)
theorem m_X12_sorts : ∀ (h0 : zH) {q : Int32 × zH}, f_X12_sorts h0 = some q → ∀ c, c ∉ md_X12_sorts → q.2 c = h0 c := by
  intro h q hf
  unfold f_X12_sorts at hf
  have fr : ∀ c, c ∉ md_X12_sorts → h c = h c := fun _ _ => rfl
  obtain ⟨h1, eh1, hf⟩ := zst_some hf
  have fr : ∀ c, c ∉ md_X12_sorts → h1 c = h c := fun c hc9 => (congrFun eh1 c).trans ((zup_ne c (fun z => hc9 (by rw [z]; decide))).trans (fr c hc9))
  obtain ⟨h2, eh2, hf⟩ := zst_some hf
  have fr : ∀ c, c ∉ md_X12_sorts → h2 c = h c := fun c hc9 => (congrFun eh2 c).trans ((zup_ne c (fun z => hc9 (by rw [z]; decide))).trans (fr c hc9))
  exact fun c hc9 => (m_X12_sorts_12  zN _ _ hf c hc9).trans (fr c hc9)
end
section
abbrev md_X12_fitted : List Nat := []
variable {q : Int32 × zH}
theorem m_X12_fitted : ∀ (h0 : zH) (x1 : Int32) (x2 : Int32) {q : Int32 × zH}, f_X12_fitted x1 x2 h0 = some q → ∀ c, c ∉ md_X12_fitted → q.2 c = h0 c := by
  intro h x1 x2 q hf
  unfold f_X12_fitted at hf
  have fr : ∀ c, c ∉ md_X12_fitted → h c = h c := fun _ _ => rfl
  obtain ⟨hi, hf⟩ := zck_some hf
  cases hf
  exact fr
end
section
abbrev md_X12_laysFit : List Nat := [108, 109, 112, 113]
theorem sm_X12_laysFit_X12_laughOf : ∀ c ∈ md_X12_laughOf, c ∈ md_X12_laysFit := by decide
theorem sm_X12_laysFit_X12_fitted : ∀ c ∈ md_X12_fitted, c ∈ md_X12_laysFit := by decide
theorem sm_X12_laysFit_X12_most : ∀ c ∈ md_X12_most, c ∈ md_X12_laysFit := by decide
variable {q : Int32 × zH}
theorem m_X12_laysFit_311 {k180 : Int32 → Int32 → zH → zR} (hk180 : ∀ (h0 : zH) (x2 : Int32) (x3 : Int32), k180 x2 x3 h0 = some q → ∀ c, c ∉ md_X12_laysFit → q.2 c = h0 c) : ∀ (h0 : zH) (x2 : Int32) (x3 : Int32), f_X12_laysFit_311 k180 x2 x3 h0 = some q → ∀ c, c ∉ md_X12_laysFit → q.2 c = h0 c := by
  intro h x2 x3 hf
  unfold f_X12_laysFit_311 at hf
  have fr : ∀ c, c ∉ md_X12_laysFit → h c = h c := fun _ _ => rfl
  obtain ⟨y6, ey6, hf⟩ := zlt_some hf
  exact fun c hc9 => (hk180 _ _ _ hf c hc9).trans (fr c hc9)
theorem m_X12_laysFit_256 {k180 : Int32 → Int32 → zH → zR} (hk180 : ∀ (h0 : zH) (x2 : Int32) (x3 : Int32), k180 x2 x3 h0 = some q → ∀ c, c ∉ md_X12_laysFit → q.2 c = h0 c) : ∀ (h0 : zH) (x2 : Int32) (x3 : Int32) (x4 : Int32), f_X12_laysFit_256 k180 x2 x3 x4 h0 = some q → ∀ c, c ∉ md_X12_laysFit → q.2 c = h0 c := by
  intro h x2 x3 x4 hf
  unfold f_X12_laysFit_256 at hf
  have fr : ∀ c, c ∉ md_X12_laysFit → h c = h c := fun _ _ => rfl
  rcases zif_n hf with ⟨hc, hf⟩ | ⟨hc, hf⟩
  · skip
    obtain ⟨hi, hf⟩ := zck_some hf
    obtain ⟨hi, hf⟩ := zck_some hf
    obtain ⟨hi, hf⟩ := zck_some hf
    obtain ⟨h3, eh3, hf⟩ := zst_some hf
    have fr : ∀ c, c ∉ md_X12_laysFit → h3 c = h c := fun c hc9 => (congrFun eh3 c).trans ((zup_ne c (fun z => hc9 (by rw [z]; decide))).trans (fr c hc9))
    obtain ⟨hi, hf⟩ := zck_some hf
    obtain ⟨hi, hf⟩ := zck_some hf
    obtain ⟨hi, hf⟩ := zck_some hf
    obtain ⟨h4, eh4, hf⟩ := zst_some hf
    have fr : ∀ c, c ∉ md_X12_laysFit → h4 c = h c := fun c hc9 => (congrFun eh4 c).trans ((zup_ne c (fun z => hc9 (by rw [z]; decide))).trans (fr c hc9))
    obtain ⟨y5, ey5, hf⟩ := zlt_some hf
    exact fun c hc9 => (m_X12_laysFit_311 hk180 _ _ _ hf c hc9).trans (fr c hc9)
  · skip
    exact fun c hc9 => (m_X12_laysFit_311 hk180 _ _ _ hf c hc9).trans (fr c hc9)
theorem m_X12_laysFit_250 {k180 : Int32 → Int32 → zH → zR} {k191 : Int32 → Int32 → Int32 → zH → zR} (hk180 : ∀ (h0 : zH) (x2 : Int32) (x3 : Int32), k180 x2 x3 h0 = some q → ∀ c, c ∉ md_X12_laysFit → q.2 c = h0 c) (hk191 : ∀ (h0 : zH) (x2 : Int32) (x3 : Int32) (x4 : Int32), k191 x2 x3 x4 h0 = some q → ∀ c, c ∉ md_X12_laysFit → q.2 c = h0 c) : ∀ (h0 : zH) (x2 : Int32) (x3 : Int32) (x4 : Int32), f_X12_laysFit_250 k180 k191 x2 x3 x4 h0 = some q → ∀ c, c ∉ md_X12_laysFit → q.2 c = h0 c := by
  intro h x2 x3 x4 hf
  unfold f_X12_laysFit_250 at hf
  have fr : ∀ c, c ∉ md_X12_laysFit → h c = h c := fun _ _ => rfl
  obtain ⟨y7, ey7, hf⟩ := zlt_some hf
  exact fun c hc9 => (hk191 _ _ _ _ hf c hc9).trans (fr c hc9)
theorem m_X12_laysFit_191 {k180 : Int32 → Int32 → zH → zR} (hk180 : ∀ (h0 : zH) (x2 : Int32) (x3 : Int32), k180 x2 x3 h0 = some q → ∀ c, c ∉ md_X12_laysFit → q.2 c = h0 c) : ∀ n, ∀ (h0 : zH) (x2 : Int32) (x3 : Int32) (x4 : Int32), f_X12_laysFit_191 k180 n x2 x3 x4 h0 = some q → ∀ c, c ∉ md_X12_laysFit → q.2 c = h0 c := by
  intro n
  induction n with
  | zero => intro h x2 x3 x4 hf; cases hf
  | succ n ih =>
    intro h x2 x3 x4 hf
    rw [f_X12_laysFit_191] at hf
    have fr : ∀ c, c ∉ md_X12_laysFit → h c = h c := fun _ _ => rfl
    rcases zif_c hf with ⟨hc, hf⟩ | ⟨hc, hf⟩
    · skip
      exact fun c hc9 => (m_X12_laysFit_256 hk180 _ _ _ _ hf c hc9).trans (fr c hc9)
    · skip
      rcases zif_c hf with ⟨hc, hf⟩ | ⟨hc, hf⟩
      · skip
        exact fun c hc9 => (m_X12_laysFit_250 hk180 ih _ _ _ _ hf c hc9).trans (fr c hc9)
      · skip
        obtain ⟨hi, hf⟩ := zck_some hf
        obtain ⟨hi, hf⟩ := zck_some hf
        obtain ⟨r8, h9, er8, hf⟩ := zbd_some hf
        have fr : ∀ c, c ∉ md_X12_laysFit → h9 c = h c := fun c hc9 => (m_X12_laughOf _ _ _ er8 c (fun z => hc9 (sm_X12_laysFit_X12_laughOf c z))).trans (fr c hc9)
        obtain ⟨r10, h11, er10, hf⟩ := zbd_some hf
        have fr : ∀ c, c ∉ md_X12_laysFit → h11 c = h c := fun c hc9 => (m_X12_fitted _ _ _ er10 c (fun z => hc9 (sm_X12_laysFit_X12_fitted c z))).trans (fr c hc9)
        obtain ⟨r12, h13, er12, hf⟩ := zbd_some hf
        have fr : ∀ c, c ∉ md_X12_laysFit → h13 c = h c := fun c hc9 => (m_X12_fitted _ _ _ er12 c (fun z => hc9 (sm_X12_laysFit_X12_fitted c z))).trans (fr c hc9)
        rcases zif_c hf with ⟨hc, hf⟩ | ⟨hc, hf⟩
        · skip
          exact fun c hc9 => (m_X12_laysFit_256 hk180 _ _ _ _ hf c hc9).trans (fr c hc9)
        · skip
          exact fun c hc9 => (m_X12_laysFit_250 hk180 ih _ _ _ _ hf c hc9).trans (fr c hc9)
theorem m_X12_laysFit_180   : ∀ n, ∀ (h0 : zH) (x2 : Int32) (x3 : Int32), f_X12_laysFit_180  n x2 x3 h0 = some q → ∀ c, c ∉ md_X12_laysFit → q.2 c = h0 c := by
  intro n
  induction n with
  | zero => intro h x2 x3 hf; cases hf
  | succ n ih =>
    intro h x2 x3 hf
    rw [f_X12_laysFit_180] at hf
    have fr : ∀ c, c ∉ md_X12_laysFit → h c = h c := fun _ _ => rfl
    rcases zif_c hf with ⟨hc, hf⟩ | ⟨hc, hf⟩
    · skip
      cases hf
      exact fr
    · skip
      exact fun c hc9 => (m_X12_laysFit_191 ih zN _ _ _ _ hf c hc9).trans (fr c hc9)
theorem m_X12_laysFit_157   : ∀ n, ∀ (h0 : zH) (x2 : Int32), f_X12_laysFit_157  n x2 h0 = some q → ∀ c, c ∉ md_X12_laysFit → q.2 c = h0 c := by
  intro n
  induction n with
  | zero => intro h x2 hf; cases hf
  | succ n ih =>
    intro h x2 hf
    rw [f_X12_laysFit_157] at hf
    have fr : ∀ c, c ∉ md_X12_laysFit → h c = h c := fun _ _ => rfl
    rcases zif_c hf with ⟨hc, hf⟩ | ⟨hc, hf⟩
    · skip
      exact fun c hc9 => (m_X12_laysFit_180  zN _ _ _ hf c hc9).trans (fr c hc9)
    · skip
      obtain ⟨hi, hf⟩ := zck_some hf
      obtain ⟨h14, eh14, hf⟩ := zst_some hf
      have fr : ∀ c, c ∉ md_X12_laysFit → h14 c = h c := fun c hc9 => (congrFun eh14 c).trans ((zup_ne c (fun z => hc9 (by rw [z]; decide))).trans (fr c hc9))
      obtain ⟨y15, ey15, hf⟩ := zlt_some hf
      exact fun c hc9 => (ih _ _ hf c hc9).trans (fr c hc9)
theorem m_X12_laysFit_123 {k43 : Int32 → Int32 → zH → zR} {k49 : Int32 → Int32 → Int32 → zH → zR} {k67 : Int32 → Int32 → Int32 → Int32 → Int32 → zH → zR} (hk43 : ∀ (h0 : zH) (x1 : Int32) (x2 : Int32), k43 x1 x2 h0 = some q → ∀ c, c ∉ md_X12_laysFit → q.2 c = h0 c) (hk49 : ∀ (h0 : zH) (x1 : Int32) (x2 : Int32) (x3 : Int32), k49 x1 x2 x3 h0 = some q → ∀ c, c ∉ md_X12_laysFit → q.2 c = h0 c) (hk67 : ∀ (h0 : zH) (x1 : Int32) (x2 : Int32) (x3 : Int32) (x4 : Int32) (x5 : Int32), k67 x1 x2 x3 x4 x5 h0 = some q → ∀ c, c ∉ md_X12_laysFit → q.2 c = h0 c) : ∀ (h0 : zH) (x1 : Int32) (x2 : Int32) (x3 : Int32) (x4 : Int32) (x5 : Int32), f_X12_laysFit_123 k43 k49 k67 x1 x2 x3 x4 x5 h0 = some q → ∀ c, c ∉ md_X12_laysFit → q.2 c = h0 c := by
  intro h x1 x2 x3 x4 x5 hf
  unfold f_X12_laysFit_123 at hf
  have fr : ∀ c, c ∉ md_X12_laysFit → h c = h c := fun _ _ => rfl
  obtain ⟨y21, ey21, hf⟩ := zlt_some hf
  exact fun c hc9 => (hk67 _ _ _ _ _ _ hf c hc9).trans (fr c hc9)
theorem m_X12_laysFit_67 {k43 : Int32 → Int32 → zH → zR} {k49 : Int32 → Int32 → Int32 → zH → zR} (hk43 : ∀ (h0 : zH) (x1 : Int32) (x2 : Int32), k43 x1 x2 h0 = some q → ∀ c, c ∉ md_X12_laysFit → q.2 c = h0 c) (hk49 : ∀ (h0 : zH) (x1 : Int32) (x2 : Int32) (x3 : Int32), k49 x1 x2 x3 h0 = some q → ∀ c, c ∉ md_X12_laysFit → q.2 c = h0 c) : ∀ n, ∀ (h0 : zH) (x1 : Int32) (x2 : Int32) (x3 : Int32) (x4 : Int32) (x5 : Int32), f_X12_laysFit_67 k43 k49 n x1 x2 x3 x4 x5 h0 = some q → ∀ c, c ∉ md_X12_laysFit → q.2 c = h0 c := by
  intro n
  induction n with
  | zero => intro h x1 x2 x3 x4 x5 hf; cases hf
  | succ n ih =>
    intro h x1 x2 x3 x4 x5 hf
    rw [f_X12_laysFit_67] at hf
    have fr : ∀ c, c ∉ md_X12_laysFit → h c = h c := fun _ _ => rfl
    rcases zif_c hf with ⟨hc, hf⟩ | ⟨hc, hf⟩
    · skip
      obtain ⟨hi, hf⟩ := zck_some hf
      obtain ⟨h19, eh19, hf⟩ := zst_some hf
      have fr : ∀ c, c ∉ md_X12_laysFit → h19 c = h c := fun c hc9 => (congrFun eh19 c).trans ((zup_ne c (fun z => hc9 (by rw [z]; decide))).trans (fr c hc9))
      obtain ⟨y20, ey20, hf⟩ := zlt_some hf
      exact fun c hc9 => (hk49 _ _ _ _ hf c hc9).trans (fr c hc9)
    · skip
      rcases zif_n hf with ⟨hc, hf⟩ | ⟨hc, hf⟩
      · skip
        exact fun c hc9 => (m_X12_laysFit_123 hk43 hk49 ih _ _ _ _ _ _ hf c hc9).trans (fr c hc9)
      · skip
        obtain ⟨hi, hf⟩ := zck_some hf
        obtain ⟨hi, hf⟩ := zck_some hf
        obtain ⟨r22, h23, er22, hf⟩ := zbd_some hf
        have fr : ∀ c, c ∉ md_X12_laysFit → h23 c = h c := fun c hc9 => (m_X12_laughOf _ _ _ er22 c (fun z => hc9 (sm_X12_laysFit_X12_laughOf c z))).trans (fr c hc9)
        obtain ⟨r24, h25, er24, hf⟩ := zbd_some hf
        have fr : ∀ c, c ∉ md_X12_laysFit → h25 c = h c := fun c hc9 => (m_X12_fitted _ _ _ er24 c (fun z => hc9 (sm_X12_laysFit_X12_fitted c z))).trans (fr c hc9)
        obtain ⟨r26, h27, er26, hf⟩ := zbd_some hf
        have fr : ∀ c, c ∉ md_X12_laysFit → h27 c = h c := fun c hc9 => (m_X12_most _ _ _ er26 c (fun z => hc9 (sm_X12_laysFit_X12_most c z))).trans (fr c hc9)
        exact fun c hc9 => (m_X12_laysFit_123 hk43 hk49 ih _ _ _ _ _ _ hf c hc9).trans (fr c hc9)
theorem m_X12_laysFit_49 {k43 : Int32 → Int32 → zH → zR} (hk43 : ∀ (h0 : zH) (x1 : Int32) (x2 : Int32), k43 x1 x2 h0 = some q → ∀ c, c ∉ md_X12_laysFit → q.2 c = h0 c) : ∀ n, ∀ (h0 : zH) (x1 : Int32) (x2 : Int32) (x3 : Int32), f_X12_laysFit_49 k43 n x1 x2 x3 h0 = some q → ∀ c, c ∉ md_X12_laysFit → q.2 c = h0 c := by
  intro n
  induction n with
  | zero => intro h x1 x2 x3 hf; cases hf
  | succ n ih =>
    intro h x1 x2 x3 hf
    rw [f_X12_laysFit_49] at hf
    have fr : ∀ c, c ∉ md_X12_laysFit → h c = h c := fun _ _ => rfl
    rcases zif_c hf with ⟨hc, hf⟩ | ⟨hc, hf⟩
    · skip
      obtain ⟨y16, ey16, hf⟩ := zlt_some hf
      exact fun c hc9 => (hk43 _ _ _ hf c hc9).trans (fr c hc9)
    · skip
      obtain ⟨r17, h18, er17, hf⟩ := zbd_some hf
      have fr : ∀ c, c ∉ md_X12_laysFit → h18 c = h c := fun c hc9 => (m_X12_fitted _ _ _ er17 c (fun z => hc9 (sm_X12_laysFit_X12_fitted c z))).trans (fr c hc9)
      exact fun c hc9 => (m_X12_laysFit_67 hk43 ih zN _ _ _ _ _ _ hf c hc9).trans (fr c hc9)
theorem m_X12_laysFit_43   : ∀ n, ∀ (h0 : zH) (x1 : Int32) (x2 : Int32), f_X12_laysFit_43  n x1 x2 h0 = some q → ∀ c, c ∉ md_X12_laysFit → q.2 c = h0 c := by
  intro n
  induction n with
  | zero => intro h x1 x2 hf; cases hf
  | succ n ih =>
    intro h x1 x2 hf
    rw [f_X12_laysFit_43] at hf
    have fr : ∀ c, c ∉ md_X12_laysFit → h c = h c := fun _ _ => rfl
    rcases zif_c hf with ⟨hc, hf⟩ | ⟨hc, hf⟩
    · skip
      exact fun c hc9 => (m_X12_laysFit_157  zN _ _ hf c hc9).trans (fr c hc9)
    · skip
      exact fun c hc9 => (m_X12_laysFit_49 ih zN _ _ _ _ hf c hc9).trans (fr c hc9)
theorem m_X12_laysFit_9   : ∀ n, ∀ (h0 : zH) (x1 : Int32) (x2 : Int32), f_X12_laysFit_9  n x1 x2 h0 = some q → ∀ c, c ∉ md_X12_laysFit → q.2 c = h0 c := by
  intro n
  induction n with
  | zero => intro h x1 x2 hf; cases hf
  | succ n ih =>
    intro h x1 x2 hf
    rw [f_X12_laysFit_9] at hf
    have fr : ∀ c, c ∉ md_X12_laysFit → h c = h c := fun _ _ => rfl
    rcases zif_c hf with ⟨hc, hf⟩ | ⟨hc, hf⟩
    · skip
      obtain ⟨y2, ey2, hf⟩ := zlt_some hf
      exact fun c hc9 => (m_X12_laysFit_43  zN _ _ _ hf c hc9).trans (fr c hc9)
    · skip
      obtain ⟨hi, hf⟩ := zck_some hf
      obtain ⟨h28, eh28, hf⟩ := zst_some hf
      have fr : ∀ c, c ∉ md_X12_laysFit → h28 c = h c := fun c hc9 => (congrFun eh28 c).trans ((zup_ne c (fun z => hc9 (by rw [z]; decide))).trans (fr c hc9))
      obtain ⟨y29, ey29, hf⟩ := zlt_some hf
      exact fun c hc9 => (ih _ _ _ hf c hc9).trans (fr c hc9)
theorem m_X12_laysFit : ∀ (h0 : zH) {q : Int32 × zH}, f_X12_laysFit h0 = some q → ∀ c, c ∉ md_X12_laysFit → q.2 c = h0 c := by
  intro h q hf
  unfold f_X12_laysFit at hf
  have fr : ∀ c, c ∉ md_X12_laysFit → h c = h c := fun _ _ => rfl
  obtain ⟨y1, ey1, hf⟩ := zlt_some hf
  exact fun c hc9 => (m_X12_laysFit_9  zN _ _ _ hf c hc9).trans (fr c hc9)
end
