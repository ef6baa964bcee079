abbrev zBN : List Nat := [0, 1, 2, 3, 4, 5, 6, 7, 8, 9, 10, 11, 12, 13, 14, 15, 16, 17, 18, 19, 20, 21, 22, 23, 24, 25, 26, 27, 28, 29, 30, 31, 32, 33, 34, 35, 36, 37, 38, 39, 40, 41, 42, 43, 44]
abbrev zBL : List (Nat × Nat) := [(2, 0), (2, 1), (2, 2), (2, 3), (1, 0), (7, 0), (7, 1), (7, 2), (1, 1), (11, 0), (11, 1), (11, 2), (11, 3), (1, 2), (16, 0), (16, 1), (16, 2), (1, 3), (1, 4), (1, 5), (0, 0), (22, 0), (22, 1), (22, 2), (22, 3), (22, 4), (22, 5), (0, 1), (29, 0), (29, 1), (29, 2), (29, 3), (34, 0), (34, 1), (34, 2), (29, 4), (0, 2), (38, 1), (38, 2), (38, 3), (38, 4), (38, 5), (38, 0), (0, 3), (0, 4)]
abbrev zNm : List Nat := [100, 101, 102, 103, 104, 105, 106, 107, 108, 109, 110, 111, 112, 113, 114, 115, 116, 117]
abbrev zLm : List (Nat × Nat) := [(100, 0), (100, 1), (100, 2), (100, 3), (100, 6), (100, 7), (100, 8), (100, 9), (100, 10), (100, 27), (100, 28), (100, 29), (100, 30), (100, 33), (100, 34), (100, 36), (100, 37)]
def zCa5 (G : zG) (h : zH) : Prop := ((¬ h 0 5 = 0 → (∀ c ∈ ([50, 51, 52, 53, 54, 55, 56, 57, 58, 59, 60, 61, 62, 63, 64, 65, 66, 67, 68, 69, 70] : List Nat), c ∈ znm G) ∧ (∀ q ∈ ([(51, 0), (51, 1), (51, 2), (51, 3), (50, 0), (56, 0), (56, 1), (56, 2), (50, 1), (60, 0), (60, 1), (60, 2), (60, 3), (50, 2), (65, 0), (65, 1), (65, 2), (50, 3), (50, 4), (50, 5)] : List (Nat × Nat)), zlk G q.1 q.2 = true)) ∧ (h 0 5 = 0 → (∀ c ∈ ([50, 51, 52, 53, 54, 55, 56, 57, 58, 59, 60, 61, 62, 63, 64, 65, 66, 67, 68, 69, 70] : List Nat), c ∉ znm G) ∧ ∀ c ∈ ([50, 51, 52, 53, 54, 55, 56, 57, 58, 59, 60, 61, 62, 63, 64, 65, 66, 67, 68, 69, 70] : List Nat), ∀ k, zlk G c k = false))
def zCa6 (G : zG) (h : zH) : Prop := ((¬ h 0 6 = 0 → (∀ c ∈ ([71, 72, 73] : List Nat), c ∈ znm G) ∧ (∀ q ∈ ([(71, 1), (71, 2), (71, 0)] : List (Nat × Nat)), zlk G q.1 q.2 = true)) ∧ (h 0 6 = 0 → (∀ c ∈ ([71, 72, 73] : List Nat), c ∉ znm G) ∧ ∀ c ∈ ([71, 72, 73] : List Nat), ∀ k, zlk G c k = false))
def zCa7 (G : zG) (h : zH) : Prop := ((¬ h 0 7 = 0 → (∀ c ∈ ([74, 75, 76, 77, 78, 79] : List Nat), c ∈ znm G) ∧ (∀ q ∈ ([(74, 0), (74, 1), (74, 2), (74, 3), (74, 4)] : List (Nat × Nat)), zlk G q.1 q.2 = true)) ∧ (h 0 7 = 0 → (∀ c ∈ ([74, 75, 76, 77, 78, 79] : List Nat), c ∉ znm G) ∧ ∀ c ∈ ([74, 75, 76, 77, 78, 79] : List Nat), ∀ k, zlk G c k = false))
def zCa8 (G : zG) (h : zH) : Prop := ((¬ h 0 8 = 0 → (∀ c ∈ ([80, 81, 82] : List Nat), c ∈ znm G) ∧ (∀ q ∈ ([(80, 0), (80, 1)] : List (Nat × Nat)), zlk G q.1 q.2 = true)) ∧ (h 0 8 = 0 → (∀ c ∈ ([80, 81, 82] : List Nat), c ∉ znm G) ∧ ∀ c ∈ ([80, 81, 82] : List Nat), ∀ k, zlk G c k = false))
def zIX (s : State) (G : zG) (h : zH) : Prop := zKE s G ∧ (∀ c ∈ zBN, c ∈ znm G) ∧ (∀ q ∈ zBL, zlk G q.1 q.2 = true) ∧ zCa5 G h ∧ zCa6 G h ∧ zCa7 G h ∧ zCa8 G h
def zIM (s : State) (G : zG) : Prop := zKE s G ∧ (∀ c ∈ zNm, c ∈ znm G) ∧ ∀ q ∈ zLm, zlk G q.1 q.2 = true
theorem zIX.same {s : State} {G : zG} {h h1 : zH} (I : zIX s G h) (e : h1 0 = h 0) : zIX s G h1 := by
  unfold zIX zCa5 zCa6 zCa7 zCa8 at *
  rw [e]
  exact I
theorem zIX.SA {s : State} {G : zG} {h : zH} {A : Nat → Prop} (I : zIX s G h) : zIX s (zSA G A) h := I
theorem zIX.ext5 {s : State} {G : zG} {h h1 : zH} {qs : Nat → Nat} (I : zIX s G h) (h0 : h 0 5 = 0) (e : h1 0 = upd (h 0) 5 1) : zIX s (zext G [50, 51, 52, 53, 54, 55, 56, 57, 58, 59, 60, 61, 62, 63, 64, 65, 66, 67, 68, 69, 70] [(51, 0), (51, 1), (51, 2), (51, 3), (50, 0), (56, 0), (56, 1), (56, 2), (50, 1), (60, 0), (60, 1), (60, 2), (60, 3), (50, 2), (65, 0), (65, 1), (65, 2), (50, 3), (50, 4), (50, 5)] qs) h1 := by
  obtain ⟨i1, i2, i3, c5, c6, c7, c8⟩ := I
  refine ⟨i1, fun c hc => zmem_o (i2 c hc), fun q hq => zlk_o (i3 q hq), ?_, ?_, ?_, ?_⟩
  · refine ⟨fun _ => ⟨fun c hc => zmem_n hc, fun q hq => zlk_t ((by decide : ∀ q ∈ ([(51, 0), (51, 1), (51, 2), (51, 3), (50, 0), (56, 0), (56, 1), (56, 2), (50, 1), (60, 0), (60, 1), (60, 2), (60, 3), (50, 2), (65, 0), (65, 1), (65, 2), (50, 3), (50, 4), (50, 5)] : List (Nat × Nat)), ([(51, 0), (51, 1), (51, 2), (51, 3), (50, 0), (56, 0), (56, 1), (56, 2), (50, 1), (60, 0), (60, 1), (60, 2), (60, 3), (50, 2), (65, 0), (65, 1), (65, 2), (50, 3), (50, 4), (50, 5)] : List (Nat × Nat)).contains (q.1, q.2) = true) q hq)⟩, fun h9 => ?_⟩
    rw [e] at h9
    simp [upd] at h9
  · have e9 : h1 0 6 = h 0 6 := by rw [e]; simp [upd]
    refine ⟨fun h9 => ?_, fun h9 => ?_⟩
    · rw [e9] at h9
      exact ⟨fun c hc => zmem_o ((c6.1 h9).1 c hc), fun q hq => zlk_o ((c6.1 h9).2 q hq)⟩
    · rw [e9] at h9
      exact ⟨fun c hc => zfresh ((c6.2 h9).1 c hc) ((by decide : ∀ c ∈ ([71, 72, 73] : List Nat), c ∉ ([50, 51, 52, 53, 54, 55, 56, 57, 58, 59, 60, 61, 62, 63, 64, 65, 66, 67, 68, 69, 70] : List Nat)) c hc), fun c hc => zlk_fn ((c6.2 h9).2 c hc) ((by decide : ∀ c ∈ ([71, 72, 73] : List Nat), ([(51, 0), (51, 1), (51, 2), (51, 3), (50, 0), (56, 0), (56, 1), (56, 2), (50, 1), (60, 0), (60, 1), (60, 2), (60, 3), (50, 2), (65, 0), (65, 1), (65, 2), (50, 3), (50, 4), (50, 5)] : List (Nat × Nat)).all (fun q => q.1 != c) = true) c hc)⟩
  · have e9 : h1 0 7 = h 0 7 := by rw [e]; simp [upd]
    refine ⟨fun h9 => ?_, fun h9 => ?_⟩
    · rw [e9] at h9
      exact ⟨fun c hc => zmem_o ((c7.1 h9).1 c hc), fun q hq => zlk_o ((c7.1 h9).2 q hq)⟩
    · rw [e9] at h9
      exact ⟨fun c hc => zfresh ((c7.2 h9).1 c hc) ((by decide : ∀ c ∈ ([74, 75, 76, 77, 78, 79] : List Nat), c ∉ ([50, 51, 52, 53, 54, 55, 56, 57, 58, 59, 60, 61, 62, 63, 64, 65, 66, 67, 68, 69, 70] : List Nat)) c hc), fun c hc => zlk_fn ((c7.2 h9).2 c hc) ((by decide : ∀ c ∈ ([74, 75, 76, 77, 78, 79] : List Nat), ([(51, 0), (51, 1), (51, 2), (51, 3), (50, 0), (56, 0), (56, 1), (56, 2), (50, 1), (60, 0), (60, 1), (60, 2), (60, 3), (50, 2), (65, 0), (65, 1), (65, 2), (50, 3), (50, 4), (50, 5)] : List (Nat × Nat)).all (fun q => q.1 != c) = true) c hc)⟩
  · have e9 : h1 0 8 = h 0 8 := by rw [e]; simp [upd]
    refine ⟨fun h9 => ?_, fun h9 => ?_⟩
    · rw [e9] at h9
      exact ⟨fun c hc => zmem_o ((c8.1 h9).1 c hc), fun q hq => zlk_o ((c8.1 h9).2 q hq)⟩
    · rw [e9] at h9
      exact ⟨fun c hc => zfresh ((c8.2 h9).1 c hc) ((by decide : ∀ c ∈ ([80, 81, 82] : List Nat), c ∉ ([50, 51, 52, 53, 54, 55, 56, 57, 58, 59, 60, 61, 62, 63, 64, 65, 66, 67, 68, 69, 70] : List Nat)) c hc), fun c hc => zlk_fn ((c8.2 h9).2 c hc) ((by decide : ∀ c ∈ ([80, 81, 82] : List Nat), ([(51, 0), (51, 1), (51, 2), (51, 3), (50, 0), (56, 0), (56, 1), (56, 2), (50, 1), (60, 0), (60, 1), (60, 2), (60, 3), (50, 2), (65, 0), (65, 1), (65, 2), (50, 3), (50, 4), (50, 5)] : List (Nat × Nat)).all (fun q => q.1 != c) = true) c hc)⟩
theorem zIX.ext6 {s : State} {G : zG} {h h1 : zH} {qs : Nat → Nat} (I : zIX s G h) (h0 : h 0 6 = 0) (e : h1 0 = upd (h 0) 6 1) : zIX s (zext G [71, 72, 73] [(71, 1), (71, 2), (71, 0)] qs) h1 := by
  obtain ⟨i1, i2, i3, c5, c6, c7, c8⟩ := I
  refine ⟨i1, fun c hc => zmem_o (i2 c hc), fun q hq => zlk_o (i3 q hq), ?_, ?_, ?_, ?_⟩
  · have e9 : h1 0 5 = h 0 5 := by rw [e]; simp [upd]
    refine ⟨fun h9 => ?_, fun h9 => ?_⟩
    · rw [e9] at h9
      exact ⟨fun c hc => zmem_o ((c5.1 h9).1 c hc), fun q hq => zlk_o ((c5.1 h9).2 q hq)⟩
    · rw [e9] at h9
      exact ⟨fun c hc => zfresh ((c5.2 h9).1 c hc) ((by decide : ∀ c ∈ ([50, 51, 52, 53, 54, 55, 56, 57, 58, 59, 60, 61, 62, 63, 64, 65, 66, 67, 68, 69, 70] : List Nat), c ∉ ([71, 72, 73] : List Nat)) c hc), fun c hc => zlk_fn ((c5.2 h9).2 c hc) ((by decide : ∀ c ∈ ([50, 51, 52, 53, 54, 55, 56, 57, 58, 59, 60, 61, 62, 63, 64, 65, 66, 67, 68, 69, 70] : List Nat), ([(71, 1), (71, 2), (71, 0)] : List (Nat × Nat)).all (fun q => q.1 != c) = true) c hc)⟩
  · refine ⟨fun _ => ⟨fun c hc => zmem_n hc, fun q hq => zlk_t ((by decide : ∀ q ∈ ([(71, 1), (71, 2), (71, 0)] : List (Nat × Nat)), ([(71, 1), (71, 2), (71, 0)] : List (Nat × Nat)).contains (q.1, q.2) = true) q hq)⟩, fun h9 => ?_⟩
    rw [e] at h9
    simp [upd] at h9
  · have e9 : h1 0 7 = h 0 7 := by rw [e]; simp [upd]
    refine ⟨fun h9 => ?_, fun h9 => ?_⟩
    · rw [e9] at h9
      exact ⟨fun c hc => zmem_o ((c7.1 h9).1 c hc), fun q hq => zlk_o ((c7.1 h9).2 q hq)⟩
    · rw [e9] at h9
      exact ⟨fun c hc => zfresh ((c7.2 h9).1 c hc) ((by decide : ∀ c ∈ ([74, 75, 76, 77, 78, 79] : List Nat), c ∉ ([71, 72, 73] : List Nat)) c hc), fun c hc => zlk_fn ((c7.2 h9).2 c hc) ((by decide : ∀ c ∈ ([74, 75, 76, 77, 78, 79] : List Nat), ([(71, 1), (71, 2), (71, 0)] : List (Nat × Nat)).all (fun q => q.1 != c) = true) c hc)⟩
  · have e9 : h1 0 8 = h 0 8 := by rw [e]; simp [upd]
    refine ⟨fun h9 => ?_, fun h9 => ?_⟩
    · rw [e9] at h9
      exact ⟨fun c hc => zmem_o ((c8.1 h9).1 c hc), fun q hq => zlk_o ((c8.1 h9).2 q hq)⟩
    · rw [e9] at h9
      exact ⟨fun c hc => zfresh ((c8.2 h9).1 c hc) ((by decide : ∀ c ∈ ([80, 81, 82] : List Nat), c ∉ ([71, 72, 73] : List Nat)) c hc), fun c hc => zlk_fn ((c8.2 h9).2 c hc) ((by decide : ∀ c ∈ ([80, 81, 82] : List Nat), ([(71, 1), (71, 2), (71, 0)] : List (Nat × Nat)).all (fun q => q.1 != c) = true) c hc)⟩
theorem zIX.ext7 {s : State} {G : zG} {h h1 : zH} {qs : Nat → Nat} (I : zIX s G h) (h0 : h 0 7 = 0) (e : h1 0 = upd (h 0) 7 1) : zIX s (zext G [74, 75, 76, 77, 78, 79] [(74, 0), (74, 1), (74, 2), (74, 3), (74, 4)] qs) h1 := by
  obtain ⟨i1, i2, i3, c5, c6, c7, c8⟩ := I
  refine ⟨i1, fun c hc => zmem_o (i2 c hc), fun q hq => zlk_o (i3 q hq), ?_, ?_, ?_, ?_⟩
  · have e9 : h1 0 5 = h 0 5 := by rw [e]; simp [upd]
    refine ⟨fun h9 => ?_, fun h9 => ?_⟩
    · rw [e9] at h9
      exact ⟨fun c hc => zmem_o ((c5.1 h9).1 c hc), fun q hq => zlk_o ((c5.1 h9).2 q hq)⟩
    · rw [e9] at h9
      exact ⟨fun c hc => zfresh ((c5.2 h9).1 c hc) ((by decide : ∀ c ∈ ([50, 51, 52, 53, 54, 55, 56, 57, 58, 59, 60, 61, 62, 63, 64, 65, 66, 67, 68, 69, 70] : List Nat), c ∉ ([74, 75, 76, 77, 78, 79] : List Nat)) c hc), fun c hc => zlk_fn ((c5.2 h9).2 c hc) ((by decide : ∀ c ∈ ([50, 51, 52, 53, 54, 55, 56, 57, 58, 59, 60, 61, 62, 63, 64, 65, 66, 67, 68, 69, 70] : List Nat), ([(74, 0), (74, 1), (74, 2), (74, 3), (74, 4)] : List (Nat × Nat)).all (fun q => q.1 != c) = true) c hc)⟩
  · have e9 : h1 0 6 = h 0 6 := by rw [e]; simp [upd]
    refine ⟨fun h9 => ?_, fun h9 => ?_⟩
    · rw [e9] at h9
      exact ⟨fun c hc => zmem_o ((c6.1 h9).1 c hc), fun q hq => zlk_o ((c6.1 h9).2 q hq)⟩
    · rw [e9] at h9
      exact ⟨fun c hc => zfresh ((c6.2 h9).1 c hc) ((by decide : ∀ c ∈ ([71, 72, 73] : List Nat), c ∉ ([74, 75, 76, 77, 78, 79] : List Nat)) c hc), fun c hc => zlk_fn ((c6.2 h9).2 c hc) ((by decide : ∀ c ∈ ([71, 72, 73] : List Nat), ([(74, 0), (74, 1), (74, 2), (74, 3), (74, 4)] : List (Nat × Nat)).all (fun q => q.1 != c) = true) c hc)⟩
  · refine ⟨fun _ => ⟨fun c hc => zmem_n hc, fun q hq => zlk_t ((by decide : ∀ q ∈ ([(74, 0), (74, 1), (74, 2), (74, 3), (74, 4)] : List (Nat × Nat)), ([(74, 0), (74, 1), (74, 2), (74, 3), (74, 4)] : List (Nat × Nat)).contains (q.1, q.2) = true) q hq)⟩, fun h9 => ?_⟩
    rw [e] at h9
    simp [upd] at h9
  · have e9 : h1 0 8 = h 0 8 := by rw [e]; simp [upd]
    refine ⟨fun h9 => ?_, fun h9 => ?_⟩
    · rw [e9] at h9
      exact ⟨fun c hc => zmem_o ((c8.1 h9).1 c hc), fun q hq => zlk_o ((c8.1 h9).2 q hq)⟩
    · rw [e9] at h9
      exact ⟨fun c hc => zfresh ((c8.2 h9).1 c hc) ((by decide : ∀ c ∈ ([80, 81, 82] : List Nat), c ∉ ([74, 75, 76, 77, 78, 79] : List Nat)) c hc), fun c hc => zlk_fn ((c8.2 h9).2 c hc) ((by decide : ∀ c ∈ ([80, 81, 82] : List Nat), ([(74, 0), (74, 1), (74, 2), (74, 3), (74, 4)] : List (Nat × Nat)).all (fun q => q.1 != c) = true) c hc)⟩
theorem zIX.ext8 {s : State} {G : zG} {h h1 : zH} {qs : Nat → Nat} (I : zIX s G h) (h0 : h 0 8 = 0) (e : h1 0 = upd (h 0) 8 1) : zIX s (zext G [80, 81, 82] [(80, 0), (80, 1)] qs) h1 := by
  obtain ⟨i1, i2, i3, c5, c6, c7, c8⟩ := I
  refine ⟨i1, fun c hc => zmem_o (i2 c hc), fun q hq => zlk_o (i3 q hq), ?_, ?_, ?_, ?_⟩
  · have e9 : h1 0 5 = h 0 5 := by rw [e]; simp [upd]
    refine ⟨fun h9 => ?_, fun h9 => ?_⟩
    · rw [e9] at h9
      exact ⟨fun c hc => zmem_o ((c5.1 h9).1 c hc), fun q hq => zlk_o ((c5.1 h9).2 q hq)⟩
    · rw [e9] at h9
      exact ⟨fun c hc => zfresh ((c5.2 h9).1 c hc) ((by decide : ∀ c ∈ ([50, 51, 52, 53, 54, 55, 56, 57, 58, 59, 60, 61, 62, 63, 64, 65, 66, 67, 68, 69, 70] : List Nat), c ∉ ([80, 81, 82] : List Nat)) c hc), fun c hc => zlk_fn ((c5.2 h9).2 c hc) ((by decide : ∀ c ∈ ([50, 51, 52, 53, 54, 55, 56, 57, 58, 59, 60, 61, 62, 63, 64, 65, 66, 67, 68, 69, 70] : List Nat), ([(80, 0), (80, 1)] : List (Nat × Nat)).all (fun q => q.1 != c) = true) c hc)⟩
  · have e9 : h1 0 6 = h 0 6 := by rw [e]; simp [upd]
    refine ⟨fun h9 => ?_, fun h9 => ?_⟩
    · rw [e9] at h9
      exact ⟨fun c hc => zmem_o ((c6.1 h9).1 c hc), fun q hq => zlk_o ((c6.1 h9).2 q hq)⟩
    · rw [e9] at h9
      exact ⟨fun c hc => zfresh ((c6.2 h9).1 c hc) ((by decide : ∀ c ∈ ([71, 72, 73] : List Nat), c ∉ ([80, 81, 82] : List Nat)) c hc), fun c hc => zlk_fn ((c6.2 h9).2 c hc) ((by decide : ∀ c ∈ ([71, 72, 73] : List Nat), ([(80, 0), (80, 1)] : List (Nat × Nat)).all (fun q => q.1 != c) = true) c hc)⟩
  · have e9 : h1 0 7 = h 0 7 := by rw [e]; simp [upd]
    refine ⟨fun h9 => ?_, fun h9 => ?_⟩
    · rw [e9] at h9
      exact ⟨fun c hc => zmem_o ((c7.1 h9).1 c hc), fun q hq => zlk_o ((c7.1 h9).2 q hq)⟩
    · rw [e9] at h9
      exact ⟨fun c hc => zfresh ((c7.2 h9).1 c hc) ((by decide : ∀ c ∈ ([74, 75, 76, 77, 78, 79] : List Nat), c ∉ ([80, 81, 82] : List Nat)) c hc), fun c hc => zlk_fn ((c7.2 h9).2 c hc) ((by decide : ∀ c ∈ ([74, 75, 76, 77, 78, 79] : List Nat), ([(80, 0), (80, 1)] : List (Nat × Nat)).all (fun q => q.1 != c) = true) c hc)⟩
  · refine ⟨fun _ => ⟨fun c hc => zmem_n hc, fun q hq => zlk_t ((by decide : ∀ q ∈ ([(80, 0), (80, 1)] : List (Nat × Nat)), ([(80, 0), (80, 1)] : List (Nat × Nat)).contains (q.1, q.2) = true) q hq)⟩, fun h9 => ?_⟩
    rw [e] at h9
    simp [upd] at h9
def zst_state (Rel : zH → zH → Prop) : Prop := ∀ (h1 h2 : zH) (a0 : Int32), Rel h1 h2 → ∃ r k1 k2, f_X11_state a0 h1 = some (r, k1) ∧ f_X12_state a0 h2 = some (r, k2) ∧ Rel k1 k2
def zst_half (Rel : zH → zH → Prop) : Prop := ∀ (h1 h2 : zH) (a0 : Int32) (a1 : Int32) (a2 : Int32) (a3 : Int32), Rel h1 h2 → ∃ r k1 k2, f_X11_half a0 a1 a2 a3 h1 = some (r, k1) ∧ f_X12_half a0 a1 a2 a3 h2 = some (r, k2) ∧ Rel k1 k2
def zst_give (Rel : zH → zH → Prop) : Prop := ∀ (h1 h2 : zH) (a0 : Int32) (a1 : Int32) (a2 : Int32) (a3 : Int32), Rel h1 h2 → ∃ r k1 k2, f_X11_give a0 a1 a2 a3 h1 = some (r, k1) ∧ f_X12_give a0 a1 a2 a3 h2 = some (r, k2) ∧ Rel k1 k2
def zst_heirs (Rel : zH → zH → Prop) : Prop := ∀ (h1 h2 : zH) (a0 : Int32) (a1 : Int32), Rel h1 h2 → ∃ r k1 k2, f_X11_heirs a0 a1 h1 = some (r, k1) ∧ f_X12_heirs a0 a1 h2 = some (r, k2) ∧ Rel k1 k2
def zst_feud (Rel : zH → zH → Prop) : Prop := ∀ (h1 h2 : zH) (a0 : Int32) (a1 : Int32) (a2 : Int32), Rel h1 h2 → (a2 = 0 ∨ a2 = 1) → ∃ r k1 k2, f_X11_feud a0 a1 a2 h1 = some (r, k1) ∧ f_X12_feud a0 a1 a2 h2 = some (r, k2) ∧ Rel k1 k2
def zst_guest (Rel : zH → zH → Prop) : Prop := ∀ (h1 h2 : zH) (a0 : Int32), Rel h1 h2 → ∃ r k1 k2, f_X11_guest a0 h1 = some (r, k1) ∧ f_X12_guest a0 h2 = some (r, k2) ∧ Rel k1 k2
def zst_seat (Rel : zH → zH → Prop) : Prop := ∀ (h1 h2 : zH) (a0 : Int32) (a1 : Int32), Rel h1 h2 → ∃ r k1 k2, f_X11_seat a0 a1 h1 = some (r, k1) ∧ f_X12_seat a0 a1 h2 = some (r, k2) ∧ Rel k1 k2
def zst_set (Rel : zH → zH → Prop) : Prop := ∀ (h1 h2 : zH) (a0 : Int32) (a1 : Int32), Rel h1 h2 → ∃ r k1 k2, f_X11_set a0 a1 h1 = some (r, k1) ∧ f_X12_set a0 a1 h2 = some (r, k2) ∧ Rel k1 k2
def zst_feed (Rel : zH → zH → Prop) : Prop := ∀ (h1 h2 : zH) (a0 : Int32) (a1 : Int32) (a2 : Int32) (a3 : Int32) (a4 : Int32), Rel h1 h2 → ∃ r k1 k2, f_X11_feed a0 a1 a2 a3 a4 h1 = some (r, k1) ∧ f_X12_feed a0 a1 a2 a3 a4 h2 = some (r, k2) ∧ Rel k1 k2
def zst_end (Rel : zH → zH → Prop) : Prop := ∀ (h1 h2 : zH) (a0 : Int32), Rel h1 h2 → ∃ r k1 k2, f_X11_end a0 h1 = some (r, k1) ∧ f_X12_end a0 h2 = some (r, k2) ∧ Rel k1 k2
def zst_text (Rel : zH → zH → Prop) : Prop := ∀ (h1 h2 : zH), Rel h1 h2 → ∃ r k1 k2, f_X11_text h1 = some (r, k1) ∧ f_X12_text h2 = some (r, k2) ∧ Rel k1 k2
def zst_fault (Rel : zH → zH → Prop) : Prop := ∀ (h1 h2 : zH) (a0 : Int32), Rel h1 h2 → ∃ r k1 k2, f_X11_fault a0 h1 = some (r, k1) ∧ f_X12_fault a0 h2 = some (r, k2) ∧ Rel k1 k2
def zst_evenings (Rel : zH → zH → Prop) : Prop := ∀ (h1 h2 : zH) (a0 : Int32), Rel h1 h2 → ∃ r k1 k2, f_X11_evenings a0 h1 = some (r, k1) ∧ f_X12_evenings a0 h2 = some (r, k2) ∧ Rel k1 k2
def zst_of (Rel : zH → zH → Prop) : Prop := ∀ (h1 h2 : zH) (a0 : Int32) (a1 : Int32), Rel h1 h2 → ∃ r k1 k2, f_X11_of a0 a1 h1 = some (r, k1) ∧ f_X12_of a0 a1 h2 = some (r, k2) ∧ Rel k1 k2
def zst_who (Rel : zH → zH → Prop) : Prop := ∀ (h1 h2 : zH) (a0 : Int32) (a1 : Int32), Rel h1 h2 → ∃ r k1 k2, f_X11_who a0 a1 h1 = some (r, k1) ∧ f_X12_who a0 a1 h2 = some (r, k2) ∧ Rel k1 k2
def zst_laugh (Rel : zH → zH → Prop) : Prop := ∀ (h1 h2 : zH) (a0 : Int32) (a1 : Int32), Rel h1 h2 → ∃ r k1 k2, f_X11_laugh a0 a1 h1 = some (r, k1) ∧ f_X12_laugh a0 a1 h2 = some (r, k2) ∧ Rel k1 k2
def zst_told (Rel : zH → zH → Prop) : Prop := ∀ (h1 h2 : zH) (a0 : Int32) (a1 : Int32), Rel h1 h2 → ∃ r k1 k2, f_X11_told a0 a1 h1 = some (r, k1) ∧ f_X12_told a0 a1 h2 = some (r, k2) ∧ Rel k1 k2
def zst_telling (Rel : zH → zH → Prop) : Prop := ∀ (h1 h2 : zH) (a0 : Int32) (a1 : Int32), Rel h1 h2 → ∃ r k1 k2, f_X11_telling a0 a1 h1 = some (r, k1) ∧ f_X12_telling a0 a1 h2 = some (r, k2) ∧ Rel k1 k2
def zst_book (Rel : zH → zH → Prop) : Prop := ∀ (h1 h2 : zH) (a0 : Int32) (a1 : Int32), Rel h1 h2 → ∃ r k1 k2, f_X11_book a0 a1 h1 = some (r, k1) ∧ f_X12_book a0 a1 h2 = some (r, k2) ∧ Rel k1 k2
def zst_fame (Rel : zH → zH → Prop) : Prop := ∀ (h1 h2 : zH) (a0 : Int32), Rel h1 h2 → ∃ r k1 k2, f_X11_fame a0 h1 = some (r, k1) ∧ f_X12_fame a0 h2 = some (r, k2) ∧ Rel k1 k2
def zst_merry (Rel : zH → zH → Prop) : Prop := ∀ (h1 h2 : zH), Rel h1 h2 → ∃ r k1 k2, f_X11_merry h1 = some (r, k1) ∧ f_X12_merry h2 = some (r, k2) ∧ Rel k1 k2
def zst_fit (Rel : zH → zH → Prop) : Prop := ∀ (h1 h2 : zH) (a0 : Int32), Rel h1 h2 → ∃ r k1 k2, f_X11_fit a0 h1 = some (r, k1) ∧ f_X12_fit a0 h2 = some (r, k2) ∧ Rel k1 k2
def zst_seating (Rel : zH → zH → Prop) : Prop := ∀ (h1 h2 : zH) (a0 : Int32), Rel h1 h2 → ∃ r k1 k2, f_X11_seating a0 h1 = some (r, k1) ∧ f_X12_seating a0 h2 = some (r, k2) ∧ Rel k1 k2
def zst_change (Rel : zH → zH → Prop) : Prop := ∀ (h1 h2 : zH) (a0 : Int32), Rel h1 h2 → ∃ r k1 k2, f_X11_change a0 h1 = some (r, k1) ∧ f_X12_change a0 h2 = some (r, k2) ∧ Rel k1 k2
def zst_like (Rel : zH → zH → Prop) : Prop := ∀ (h1 h2 : zH) (a0 : Int32) (a1 : Int32), Rel h1 h2 → ∃ r k1 k2, f_X11_like a0 a1 h1 = some (r, k1) ∧ f_X12_like a0 a1 h2 = some (r, k2) ∧ Rel k1 k2
def zst_silent (Rel : zH → zH → Prop) : Prop := ∀ (h1 h2 : zH) (a0 : Int32), Rel h1 h2 → ∃ r k1 k2, f_X11_silent a0 h1 = some (r, k1) ∧ f_X12_silent a0 h2 = some (r, k2) ∧ Rel k1 k2
def zst_worth (Rel : zH → zH → Prop) : Prop := ∀ (h1 h2 : zH) (a0 : Int32) (a1 : Int32), Rel h1 h2 → ∃ r k1 k2, f_X11_worth a0 a1 h1 = some (r, k1) ∧ f_X12_worth a0 a1 h2 = some (r, k2) ∧ Rel k1 k2
def zst_away (Rel : zH → zH → Prop) : Prop := ∀ (h1 h2 : zH) (a0 : Int32), Rel h1 h2 → ∃ r k1 k2, f_X11_away a0 h1 = some (r, k1) ∧ f_X12_away a0 h2 = some (r, k2) ∧ Rel k1 k2
def zst_uncle (Rel : zH → zH → Prop) : Prop := ∀ (h1 h2 : zH) (a0 : Int32) (a1 : Int32), Rel h1 h2 → ∃ r k1 k2, f_X11_uncle a0 a1 h1 = some (r, k1) ∧ f_X12_uncle a0 a1 h2 = some (r, k2) ∧ Rel k1 k2
def zst_undo (Rel : zH → zH → Prop) : Prop := ∀ (h1 h2 : zH), Rel h1 h2 → ∃ r k1 k2, f_X11_undo h1 = some (r, k1) ∧ f_X12_undo h2 = some (r, k2) ∧ Rel k1 k2
def zst_image (Rel : zH → zH → Prop) : Prop := ∀ (h1 h2 : zH) (a0 : Int32), Rel h1 h2 → (a0 = 0 ∨ a0 = 1) → ∃ r k1 k2, f_X11_image a0 h1 = some (r, k1) ∧ f_X12_image a0 h2 = some (r, k2) ∧ Rel k1 k2
def zst_look (Rel : zH → zH → Prop) : Prop := ∀ (h1 h2 : zH) (a0 : Int32), Rel h1 h2 → ∃ r k1 k2, f_X11_look a0 h1 = some (r, k1) ∧ f_X12_look a0 h2 = some (r, k2) ∧ Rel k1 k2
theorem kw_460 : Cond.code yX11_state cX11_state 3 (some .int) ∈ zg := zg_of (List.mem_of_getElem? (i := 460) (by decide +kernel)) (by decide +kernel)
theorem kw_457 : Cond.methodLink RL 13 yX11_state ∈ zg := zg_of (List.mem_of_getElem? (i := 457) (by decide +kernel)) (by decide +kernel)
theorem kw_458 : Cond.instanceMethod yX11_state ∈ zg := zg_of (List.mem_of_getElem? (i := 458) (by decide +kernel)) (by decide +kernel)
theorem kw_459 : Cond.selects RX11 yX11_state yX11_state ∈ zg := zg_of (List.mem_of_getElem? (i := 459) (by decide +kernel)) (by decide +kernel)
theorem mv_L_13 : zMV RL 13 yX11_state cX11_state 3 (some .int) 1 := ⟨⟨kw_457, kw_458, kw_459, kw_84, kw_460⟩, ⟨by decide, by decide, by decide +kernel⟩, by decide⟩
theorem kw_1251 : Cond.code yX12_state cX12_state 3 (some .int) ∈ zg := zg_of (List.mem_of_getElem? (i := 1251) (by decide +kernel)) (by decide +kernel)
theorem kw_1248 : Cond.methodLink RL 17 yX12_state ∈ zg := zg_of (List.mem_of_getElem? (i := 1248) (by decide +kernel)) (by decide +kernel)
theorem kw_1249 : Cond.instanceMethod yX12_state ∈ zg := zg_of (List.mem_of_getElem? (i := 1249) (by decide +kernel)) (by decide +kernel)
theorem kw_1250 : Cond.selects RX12 yX12_state yX12_state ∈ zg := zg_of (List.mem_of_getElem? (i := 1250) (by decide +kernel)) (by decide +kernel)
theorem mv_L_17 : zMV RL 17 yX12_state cX12_state 3 (some .int) 1 := ⟨⟨kw_1248, kw_1249, kw_1250, kw_93, kw_1251⟩, ⟨by decide, by decide, by decide +kernel⟩, by decide⟩
theorem kw_468 : Cond.code yX11_half cX11_half 6 (some .int) ∈ zg := zg_of (List.mem_of_getElem? (i := 468) (by decide +kernel)) (by decide +kernel)
theorem kw_465 : Cond.methodLink RL 18 yX11_half ∈ zg := zg_of (List.mem_of_getElem? (i := 465) (by decide +kernel)) (by decide +kernel)
theorem kw_466 : Cond.instanceMethod yX11_half ∈ zg := zg_of (List.mem_of_getElem? (i := 466) (by decide +kernel)) (by decide +kernel)
theorem kw_467 : Cond.selects RX11 yX11_half yX11_half ∈ zg := zg_of (List.mem_of_getElem? (i := 467) (by decide +kernel)) (by decide +kernel)
theorem mv_L_18 : zMV RL 18 yX11_half cX11_half 6 (some .int) 4 := ⟨⟨kw_465, kw_466, kw_467, kw_84, kw_468⟩, ⟨by decide, by decide, by decide +kernel⟩, by decide⟩
theorem kw_1259 : Cond.code yX12_half cX12_half 7 (some .int) ∈ zg := zg_of (List.mem_of_getElem? (i := 1259) (by decide +kernel)) (by decide +kernel)
theorem kw_1256 : Cond.methodLink RL 22 yX12_half ∈ zg := zg_of (List.mem_of_getElem? (i := 1256) (by decide +kernel)) (by decide +kernel)
theorem kw_1257 : Cond.instanceMethod yX12_half ∈ zg := zg_of (List.mem_of_getElem? (i := 1257) (by decide +kernel)) (by decide +kernel)
theorem kw_1258 : Cond.selects RX12 yX12_half yX12_half ∈ zg := zg_of (List.mem_of_getElem? (i := 1258) (by decide +kernel)) (by decide +kernel)
theorem mv_L_22 : zMV RL 22 yX12_half cX12_half 7 (some .int) 4 := ⟨⟨kw_1256, kw_1257, kw_1258, kw_93, kw_1259⟩, ⟨by decide, by decide, by decide +kernel⟩, by decide⟩
theorem kw_479 : Cond.code yX11_give cX11_give 6 (some .boolean) ∈ zg := zg_of (List.mem_of_getElem? (i := 479) (by decide +kernel)) (by decide +kernel)
theorem kw_476 : Cond.methodLink RL 23 yX11_give ∈ zg := zg_of (List.mem_of_getElem? (i := 476) (by decide +kernel)) (by decide +kernel)
theorem kw_477 : Cond.instanceMethod yX11_give ∈ zg := zg_of (List.mem_of_getElem? (i := 477) (by decide +kernel)) (by decide +kernel)
theorem kw_478 : Cond.selects RX11 yX11_give yX11_give ∈ zg := zg_of (List.mem_of_getElem? (i := 478) (by decide +kernel)) (by decide +kernel)
theorem mv_L_23 : zMV RL 23 yX11_give cX11_give 6 (some .boolean) 4 := ⟨⟨kw_476, kw_477, kw_478, kw_84, kw_479⟩, ⟨by decide, by decide, by decide +kernel⟩, by decide⟩
theorem kw_1269 : Cond.code yX12_give cX12_give 5 (some .boolean) ∈ zg := zg_of (List.mem_of_getElem? (i := 1269) (by decide +kernel)) (by decide +kernel)
theorem kw_1266 : Cond.methodLink RL 27 yX12_give ∈ zg := zg_of (List.mem_of_getElem? (i := 1266) (by decide +kernel)) (by decide +kernel)
theorem kw_1267 : Cond.instanceMethod yX12_give ∈ zg := zg_of (List.mem_of_getElem? (i := 1267) (by decide +kernel)) (by decide +kernel)
theorem kw_1268 : Cond.selects RX12 yX12_give yX12_give ∈ zg := zg_of (List.mem_of_getElem? (i := 1268) (by decide +kernel)) (by decide +kernel)
theorem mv_L_27 : zMV RL 27 yX12_give cX12_give 5 (some .boolean) 4 := ⟨⟨kw_1266, kw_1267, kw_1268, kw_93, kw_1269⟩, ⟨by decide, by decide, by decide +kernel⟩, by decide⟩
theorem kw_496 : Cond.code yX11_heirs cX11_heirs 6 (some .int) ∈ zg := zg_of (List.mem_of_getElem? (i := 496) (by decide +kernel)) (by decide +kernel)
theorem kw_493 : Cond.methodLink RL 28 yX11_heirs ∈ zg := zg_of (List.mem_of_getElem? (i := 493) (by decide +kernel)) (by decide +kernel)
theorem kw_494 : Cond.instanceMethod yX11_heirs ∈ zg := zg_of (List.mem_of_getElem? (i := 494) (by decide +kernel)) (by decide +kernel)
theorem kw_495 : Cond.selects RX11 yX11_heirs yX11_heirs ∈ zg := zg_of (List.mem_of_getElem? (i := 495) (by decide +kernel)) (by decide +kernel)
theorem mv_L_28 : zMV RL 28 yX11_heirs cX11_heirs 6 (some .int) 2 := ⟨⟨kw_493, kw_494, kw_495, kw_84, kw_496⟩, ⟨by decide, by decide, by decide +kernel⟩, by decide⟩
theorem kw_1289 : Cond.code yX12_heirs cX12_heirs 7 (some .int) ∈ zg := zg_of (List.mem_of_getElem? (i := 1289) (by decide +kernel)) (by decide +kernel)
theorem kw_1286 : Cond.methodLink RL 32 yX12_heirs ∈ zg := zg_of (List.mem_of_getElem? (i := 1286) (by decide +kernel)) (by decide +kernel)
theorem kw_1287 : Cond.instanceMethod yX12_heirs ∈ zg := zg_of (List.mem_of_getElem? (i := 1287) (by decide +kernel)) (by decide +kernel)
theorem kw_1288 : Cond.selects RX12 yX12_heirs yX12_heirs ∈ zg := zg_of (List.mem_of_getElem? (i := 1288) (by decide +kernel)) (by decide +kernel)
theorem mv_L_32 : zMV RL 32 yX12_heirs cX12_heirs 7 (some .int) 2 := ⟨⟨kw_1286, kw_1287, kw_1288, kw_93, kw_1289⟩, ⟨by decide, by decide, by decide +kernel⟩, by decide⟩
theorem kw_510 : Cond.code yX11_feud cX11_feud 4 (some .boolean) ∈ zg := zg_of (List.mem_of_getElem? (i := 510) (by decide +kernel)) (by decide +kernel)
theorem kw_507 : Cond.methodLink RL 33 yX11_feud ∈ zg := zg_of (List.mem_of_getElem? (i := 507) (by decide +kernel)) (by decide +kernel)
theorem kw_508 : Cond.instanceMethod yX11_feud ∈ zg := zg_of (List.mem_of_getElem? (i := 508) (by decide +kernel)) (by decide +kernel)
theorem kw_509 : Cond.selects RX11 yX11_feud yX11_feud ∈ zg := zg_of (List.mem_of_getElem? (i := 509) (by decide +kernel)) (by decide +kernel)
theorem mv_L_33 : zMV RL 33 yX11_feud cX11_feud 4 (some .boolean) 3 := ⟨⟨kw_507, kw_508, kw_509, kw_84, kw_510⟩, ⟨by decide, by decide, by decide +kernel⟩, by decide⟩
theorem kw_1296 : Cond.code yX12_feud cX12_feud 4 (some .boolean) ∈ zg := zg_of (List.mem_of_getElem? (i := 1296) (by decide +kernel)) (by decide +kernel)
theorem kw_1293 : Cond.methodLink RL 37 yX12_feud ∈ zg := zg_of (List.mem_of_getElem? (i := 1293) (by decide +kernel)) (by decide +kernel)
theorem kw_1294 : Cond.instanceMethod yX12_feud ∈ zg := zg_of (List.mem_of_getElem? (i := 1294) (by decide +kernel)) (by decide +kernel)
theorem kw_1295 : Cond.selects RX12 yX12_feud yX12_feud ∈ zg := zg_of (List.mem_of_getElem? (i := 1295) (by decide +kernel)) (by decide +kernel)
theorem mv_L_37 : zMV RL 37 yX12_feud cX12_feud 4 (some .boolean) 3 := ⟨⟨kw_1293, kw_1294, kw_1295, kw_93, kw_1296⟩, ⟨by decide, by decide, by decide +kernel⟩, by decide⟩
theorem kw_518 : Cond.code yX11_guest cX11_guest 2 (some .int) ∈ zg := zg_of (List.mem_of_getElem? (i := 518) (by decide +kernel)) (by decide +kernel)
theorem kw_515 : Cond.methodLink RL 38 yX11_guest ∈ zg := zg_of (List.mem_of_getElem? (i := 515) (by decide +kernel)) (by decide +kernel)
theorem kw_516 : Cond.instanceMethod yX11_guest ∈ zg := zg_of (List.mem_of_getElem? (i := 516) (by decide +kernel)) (by decide +kernel)
theorem kw_517 : Cond.selects RX11 yX11_guest yX11_guest ∈ zg := zg_of (List.mem_of_getElem? (i := 517) (by decide +kernel)) (by decide +kernel)
theorem mv_L_38 : zMV RL 38 yX11_guest cX11_guest 2 (some .int) 1 := ⟨⟨kw_515, kw_516, kw_517, kw_84, kw_518⟩, ⟨by decide, by decide, by decide +kernel⟩, by decide⟩
theorem kw_1304 : Cond.code yX12_guest cX12_guest 2 (some .int) ∈ zg := zg_of (List.mem_of_getElem? (i := 1304) (by decide +kernel)) (by decide +kernel)
theorem kw_1301 : Cond.methodLink RL 41 yX12_guest ∈ zg := zg_of (List.mem_of_getElem? (i := 1301) (by decide +kernel)) (by decide +kernel)
theorem kw_1302 : Cond.instanceMethod yX12_guest ∈ zg := zg_of (List.mem_of_getElem? (i := 1302) (by decide +kernel)) (by decide +kernel)
theorem kw_1303 : Cond.selects RX12 yX12_guest yX12_guest ∈ zg := zg_of (List.mem_of_getElem? (i := 1303) (by decide +kernel)) (by decide +kernel)
theorem mv_L_41 : zMV RL 41 yX12_guest cX12_guest 2 (some .int) 1 := ⟨⟨kw_1301, kw_1302, kw_1303, kw_93, kw_1304⟩, ⟨by decide, by decide, by decide +kernel⟩, by decide⟩
theorem kw_526 : Cond.code yX11_seat cX11_seat 3 (some .boolean) ∈ zg := zg_of (List.mem_of_getElem? (i := 526) (by decide +kernel)) (by decide +kernel)
theorem kw_523 : Cond.methodLink RL 42 yX11_seat ∈ zg := zg_of (List.mem_of_getElem? (i := 523) (by decide +kernel)) (by decide +kernel)
theorem kw_524 : Cond.instanceMethod yX11_seat ∈ zg := zg_of (List.mem_of_getElem? (i := 524) (by decide +kernel)) (by decide +kernel)
theorem kw_525 : Cond.selects RX11 yX11_seat yX11_seat ∈ zg := zg_of (List.mem_of_getElem? (i := 525) (by decide +kernel)) (by decide +kernel)
theorem mv_L_42 : zMV RL 42 yX11_seat cX11_seat 3 (some .boolean) 2 := ⟨⟨kw_523, kw_524, kw_525, kw_84, kw_526⟩, ⟨by decide, by decide, by decide +kernel⟩, by decide⟩
theorem kw_1312 : Cond.code yX12_seat cX12_seat 3 (some .boolean) ∈ zg := zg_of (List.mem_of_getElem? (i := 1312) (by decide +kernel)) (by decide +kernel)
theorem kw_1309 : Cond.methodLink RL 46 yX12_seat ∈ zg := zg_of (List.mem_of_getElem? (i := 1309) (by decide +kernel)) (by decide +kernel)
theorem kw_1310 : Cond.instanceMethod yX12_seat ∈ zg := zg_of (List.mem_of_getElem? (i := 1310) (by decide +kernel)) (by decide +kernel)
theorem kw_1311 : Cond.selects RX12 yX12_seat yX12_seat ∈ zg := zg_of (List.mem_of_getElem? (i := 1311) (by decide +kernel)) (by decide +kernel)
theorem mv_L_46 : zMV RL 46 yX12_seat cX12_seat 3 (some .boolean) 2 := ⟨⟨kw_1309, kw_1310, kw_1311, kw_93, kw_1312⟩, ⟨by decide, by decide, by decide +kernel⟩, by decide⟩
theorem kw_539 : Cond.code yX11_set cX11_set 3 (some .boolean) ∈ zg := zg_of (List.mem_of_getElem? (i := 539) (by decide +kernel)) (by decide +kernel)
theorem kw_536 : Cond.methodLink RL 47 yX11_set ∈ zg := zg_of (List.mem_of_getElem? (i := 536) (by decide +kernel)) (by decide +kernel)
theorem kw_537 : Cond.instanceMethod yX11_set ∈ zg := zg_of (List.mem_of_getElem? (i := 537) (by decide +kernel)) (by decide +kernel)
theorem kw_538 : Cond.selects RX11 yX11_set yX11_set ∈ zg := zg_of (List.mem_of_getElem? (i := 538) (by decide +kernel)) (by decide +kernel)
theorem mv_L_47 : zMV RL 47 yX11_set cX11_set 3 (some .boolean) 2 := ⟨⟨kw_536, kw_537, kw_538, kw_84, kw_539⟩, ⟨by decide, by decide, by decide +kernel⟩, by decide⟩
theorem kw_1328 : Cond.code yX12_set cX12_set 4 (some .boolean) ∈ zg := zg_of (List.mem_of_getElem? (i := 1328) (by decide +kernel)) (by decide +kernel)
theorem kw_1325 : Cond.methodLink RL 50 yX12_set ∈ zg := zg_of (List.mem_of_getElem? (i := 1325) (by decide +kernel)) (by decide +kernel)
theorem kw_1326 : Cond.instanceMethod yX12_set ∈ zg := zg_of (List.mem_of_getElem? (i := 1326) (by decide +kernel)) (by decide +kernel)
theorem kw_1327 : Cond.selects RX12 yX12_set yX12_set ∈ zg := zg_of (List.mem_of_getElem? (i := 1327) (by decide +kernel)) (by decide +kernel)
theorem mv_L_50 : zMV RL 50 yX12_set cX12_set 4 (some .boolean) 2 := ⟨⟨kw_1325, kw_1326, kw_1327, kw_93, kw_1328⟩, ⟨by decide, by decide, by decide +kernel⟩, by decide⟩
theorem kw_544 : Cond.code yX11_feed cX11_feed 6 (some .int) ∈ zg := zg_of (List.mem_of_getElem? (i := 544) (by decide +kernel)) (by decide +kernel)
theorem kw_541 : Cond.methodLink RL 51 yX11_feed ∈ zg := zg_of (List.mem_of_getElem? (i := 541) (by decide +kernel)) (by decide +kernel)
theorem kw_542 : Cond.instanceMethod yX11_feed ∈ zg := zg_of (List.mem_of_getElem? (i := 542) (by decide +kernel)) (by decide +kernel)
theorem kw_543 : Cond.selects RX11 yX11_feed yX11_feed ∈ zg := zg_of (List.mem_of_getElem? (i := 543) (by decide +kernel)) (by decide +kernel)
theorem mv_L_51 : zMV RL 51 yX11_feed cX11_feed 6 (some .int) 5 := ⟨⟨kw_541, kw_542, kw_543, kw_84, kw_544⟩, ⟨by decide, by decide, by decide +kernel⟩, by decide⟩
theorem kw_1332 : Cond.code yX12_feed cX12_feed 8 (some .int) ∈ zg := zg_of (List.mem_of_getElem? (i := 1332) (by decide +kernel)) (by decide +kernel)
theorem kw_1329 : Cond.methodLink RL 55 yX12_feed ∈ zg := zg_of (List.mem_of_getElem? (i := 1329) (by decide +kernel)) (by decide +kernel)
theorem kw_1330 : Cond.instanceMethod yX12_feed ∈ zg := zg_of (List.mem_of_getElem? (i := 1330) (by decide +kernel)) (by decide +kernel)
theorem kw_1331 : Cond.selects RX12 yX12_feed yX12_feed ∈ zg := zg_of (List.mem_of_getElem? (i := 1331) (by decide +kernel)) (by decide +kernel)
theorem mv_L_55 : zMV RL 55 yX12_feed cX12_feed 8 (some .int) 5 := ⟨⟨kw_1329, kw_1330, kw_1331, kw_93, kw_1332⟩, ⟨by decide, by decide, by decide +kernel⟩, by decide⟩
theorem kw_556 : Cond.code yX11_end cX11_end 2 (some .boolean) ∈ zg := zg_of (List.mem_of_getElem? (i := 556) (by decide +kernel)) (by decide +kernel)
theorem kw_553 : Cond.methodLink RL 56 yX11_end ∈ zg := zg_of (List.mem_of_getElem? (i := 553) (by decide +kernel)) (by decide +kernel)
theorem kw_554 : Cond.instanceMethod yX11_end ∈ zg := zg_of (List.mem_of_getElem? (i := 554) (by decide +kernel)) (by decide +kernel)
theorem kw_555 : Cond.selects RX11 yX11_end yX11_end ∈ zg := zg_of (List.mem_of_getElem? (i := 555) (by decide +kernel)) (by decide +kernel)
theorem mv_L_56 : zMV RL 56 yX11_end cX11_end 2 (some .boolean) 1 := ⟨⟨kw_553, kw_554, kw_555, kw_84, kw_556⟩, ⟨by decide, by decide, by decide +kernel⟩, by decide⟩
theorem kw_1336 : Cond.code yX12_end cX12_end 2 (some .boolean) ∈ zg := zg_of (List.mem_of_getElem? (i := 1336) (by decide +kernel)) (by decide +kernel)
theorem kw_1333 : Cond.methodLink RL 60 yX12_end ∈ zg := zg_of (List.mem_of_getElem? (i := 1333) (by decide +kernel)) (by decide +kernel)
theorem kw_1334 : Cond.instanceMethod yX12_end ∈ zg := zg_of (List.mem_of_getElem? (i := 1334) (by decide +kernel)) (by decide +kernel)
theorem kw_1335 : Cond.selects RX12 yX12_end yX12_end ∈ zg := zg_of (List.mem_of_getElem? (i := 1335) (by decide +kernel)) (by decide +kernel)
theorem mv_L_60 : zMV RL 60 yX12_end cX12_end 2 (some .boolean) 1 := ⟨⟨kw_1333, kw_1334, kw_1335, kw_93, kw_1336⟩, ⟨by decide, by decide, by decide +kernel⟩, by decide⟩
theorem kw_560 : Cond.code yX11_text cX11_text 2 (some .int) ∈ zg := zg_of (List.mem_of_getElem? (i := 560) (by decide +kernel)) (by decide +kernel)
theorem kw_557 : Cond.methodLink RL 61 yX11_text ∈ zg := zg_of (List.mem_of_getElem? (i := 557) (by decide +kernel)) (by decide +kernel)
theorem kw_558 : Cond.instanceMethod yX11_text ∈ zg := zg_of (List.mem_of_getElem? (i := 558) (by decide +kernel)) (by decide +kernel)
theorem kw_559 : Cond.selects RX11 yX11_text yX11_text ∈ zg := zg_of (List.mem_of_getElem? (i := 559) (by decide +kernel)) (by decide +kernel)
theorem mv_L_61 : zMV RL 61 yX11_text cX11_text 2 (some .int) 0 := ⟨⟨kw_557, kw_558, kw_559, kw_84, kw_560⟩, ⟨by decide, by decide, by decide +kernel⟩, by decide⟩
theorem kw_1340 : Cond.code yX12_text cX12_text 3 (some .int) ∈ zg := zg_of (List.mem_of_getElem? (i := 1340) (by decide +kernel)) (by decide +kernel)
theorem kw_1337 : Cond.methodLink RL 65 yX12_text ∈ zg := zg_of (List.mem_of_getElem? (i := 1337) (by decide +kernel)) (by decide +kernel)
theorem kw_1338 : Cond.instanceMethod yX12_text ∈ zg := zg_of (List.mem_of_getElem? (i := 1338) (by decide +kernel)) (by decide +kernel)
theorem kw_1339 : Cond.selects RX12 yX12_text yX12_text ∈ zg := zg_of (List.mem_of_getElem? (i := 1339) (by decide +kernel)) (by decide +kernel)
theorem mv_L_65 : zMV RL 65 yX12_text cX12_text 3 (some .int) 0 := ⟨⟨kw_1337, kw_1338, kw_1339, kw_93, kw_1340⟩, ⟨by decide, by decide, by decide +kernel⟩, by decide⟩
theorem kw_755 : Cond.code yX11_fault cX11_fault 2 (some .int) ∈ zg := zg_of (List.mem_of_getElem? (i := 755) (by decide +kernel)) (by decide +kernel)
theorem kw_752 : Cond.methodLink RL 66 yX11_fault ∈ zg := zg_of (List.mem_of_getElem? (i := 752) (by decide +kernel)) (by decide +kernel)
theorem kw_753 : Cond.instanceMethod yX11_fault ∈ zg := zg_of (List.mem_of_getElem? (i := 753) (by decide +kernel)) (by decide +kernel)
theorem kw_754 : Cond.selects RX11 yX11_fault yX11_fault ∈ zg := zg_of (List.mem_of_getElem? (i := 754) (by decide +kernel)) (by decide +kernel)
theorem mv_L_66 : zMV RL 66 yX11_fault cX11_fault 2 (some .int) 1 := ⟨⟨kw_752, kw_753, kw_754, kw_84, kw_755⟩, ⟨by decide, by decide, by decide +kernel⟩, by decide⟩
theorem kw_1428 : Cond.code yX12_fault cX12_fault 2 (some .int) ∈ zg := zg_of (List.mem_of_getElem? (i := 1428) (by decide +kernel)) (by decide +kernel)
theorem kw_1425 : Cond.methodLink RL 69 yX12_fault ∈ zg := zg_of (List.mem_of_getElem? (i := 1425) (by decide +kernel)) (by decide +kernel)
theorem kw_1426 : Cond.instanceMethod yX12_fault ∈ zg := zg_of (List.mem_of_getElem? (i := 1426) (by decide +kernel)) (by decide +kernel)
theorem kw_1427 : Cond.selects RX12 yX12_fault yX12_fault ∈ zg := zg_of (List.mem_of_getElem? (i := 1427) (by decide +kernel)) (by decide +kernel)
theorem mv_L_69 : zMV RL 69 yX12_fault cX12_fault 2 (some .int) 1 := ⟨⟨kw_1425, kw_1426, kw_1427, kw_93, kw_1428⟩, ⟨by decide, by decide, by decide +kernel⟩, by decide⟩
theorem kw_759 : Cond.code yX11_evenings cX11_evenings 4 (some .int) ∈ zg := zg_of (List.mem_of_getElem? (i := 759) (by decide +kernel)) (by decide +kernel)
theorem kw_756 : Cond.methodLink RL 70 yX11_evenings ∈ zg := zg_of (List.mem_of_getElem? (i := 756) (by decide +kernel)) (by decide +kernel)
theorem kw_757 : Cond.instanceMethod yX11_evenings ∈ zg := zg_of (List.mem_of_getElem? (i := 757) (by decide +kernel)) (by decide +kernel)
theorem kw_758 : Cond.selects RX11 yX11_evenings yX11_evenings ∈ zg := zg_of (List.mem_of_getElem? (i := 758) (by decide +kernel)) (by decide +kernel)
theorem mv_L_70 : zMV RL 70 yX11_evenings cX11_evenings 4 (some .int) 1 := ⟨⟨kw_756, kw_757, kw_758, kw_84, kw_759⟩, ⟨by decide, by decide, by decide +kernel⟩, by decide⟩
theorem kw_1436 : Cond.code yX12_evenings cX12_evenings 4 (some .int) ∈ zg := zg_of (List.mem_of_getElem? (i := 1436) (by decide +kernel)) (by decide +kernel)
theorem kw_1433 : Cond.methodLink RL 73 yX12_evenings ∈ zg := zg_of (List.mem_of_getElem? (i := 1433) (by decide +kernel)) (by decide +kernel)
theorem kw_1434 : Cond.instanceMethod yX12_evenings ∈ zg := zg_of (List.mem_of_getElem? (i := 1434) (by decide +kernel)) (by decide +kernel)
theorem kw_1435 : Cond.selects RX12 yX12_evenings yX12_evenings ∈ zg := zg_of (List.mem_of_getElem? (i := 1435) (by decide +kernel)) (by decide +kernel)
theorem mv_L_73 : zMV RL 73 yX12_evenings cX12_evenings 4 (some .int) 1 := ⟨⟨kw_1433, kw_1434, kw_1435, kw_93, kw_1436⟩, ⟨by decide, by decide, by decide +kernel⟩, by decide⟩
theorem kw_839 : Cond.code yX11_of cX11_of 3 (some .int) ∈ zg := zg_of (List.mem_of_getElem? (i := 839) (by decide +kernel)) (by decide +kernel)
theorem kw_836 : Cond.methodLink RL 74 yX11_of ∈ zg := zg_of (List.mem_of_getElem? (i := 836) (by decide +kernel)) (by decide +kernel)
theorem kw_837 : Cond.instanceMethod yX11_of ∈ zg := zg_of (List.mem_of_getElem? (i := 837) (by decide +kernel)) (by decide +kernel)
theorem kw_838 : Cond.selects RX11 yX11_of yX11_of ∈ zg := zg_of (List.mem_of_getElem? (i := 838) (by decide +kernel)) (by decide +kernel)
theorem mv_L_74 : zMV RL 74 yX11_of cX11_of 3 (some .int) 2 := ⟨⟨kw_836, kw_837, kw_838, kw_84, kw_839⟩, ⟨by decide, by decide, by decide +kernel⟩, by decide⟩
theorem kw_1499 : Cond.code yX12_of cX12_of 3 (some .int) ∈ zg := zg_of (List.mem_of_getElem? (i := 1499) (by decide +kernel)) (by decide +kernel)
theorem kw_1496 : Cond.methodLink RL 77 yX12_of ∈ zg := zg_of (List.mem_of_getElem? (i := 1496) (by decide +kernel)) (by decide +kernel)
theorem kw_1497 : Cond.instanceMethod yX12_of ∈ zg := zg_of (List.mem_of_getElem? (i := 1497) (by decide +kernel)) (by decide +kernel)
theorem kw_1498 : Cond.selects RX12 yX12_of yX12_of ∈ zg := zg_of (List.mem_of_getElem? (i := 1498) (by decide +kernel)) (by decide +kernel)
theorem mv_L_77 : zMV RL 77 yX12_of cX12_of 3 (some .int) 2 := ⟨⟨kw_1496, kw_1497, kw_1498, kw_93, kw_1499⟩, ⟨by decide, by decide, by decide +kernel⟩, by decide⟩
theorem kw_843 : Cond.code yX11_who cX11_who 4 (some .int) ∈ zg := zg_of (List.mem_of_getElem? (i := 843) (by decide +kernel)) (by decide +kernel)
theorem kw_840 : Cond.methodLink RL 78 yX11_who ∈ zg := zg_of (List.mem_of_getElem? (i := 840) (by decide +kernel)) (by decide +kernel)
theorem kw_841 : Cond.instanceMethod yX11_who ∈ zg := zg_of (List.mem_of_getElem? (i := 841) (by decide +kernel)) (by decide +kernel)
theorem kw_842 : Cond.selects RX11 yX11_who yX11_who ∈ zg := zg_of (List.mem_of_getElem? (i := 842) (by decide +kernel)) (by decide +kernel)
theorem mv_L_78 : zMV RL 78 yX11_who cX11_who 4 (some .int) 2 := ⟨⟨kw_840, kw_841, kw_842, kw_84, kw_843⟩, ⟨by decide, by decide, by decide +kernel⟩, by decide⟩
theorem kw_1503 : Cond.code yX12_who cX12_who 3 (some .int) ∈ zg := zg_of (List.mem_of_getElem? (i := 1503) (by decide +kernel)) (by decide +kernel)
theorem kw_1500 : Cond.methodLink RL 81 yX12_who ∈ zg := zg_of (List.mem_of_getElem? (i := 1500) (by decide +kernel)) (by decide +kernel)
theorem kw_1501 : Cond.instanceMethod yX12_who ∈ zg := zg_of (List.mem_of_getElem? (i := 1501) (by decide +kernel)) (by decide +kernel)
theorem kw_1502 : Cond.selects RX12 yX12_who yX12_who ∈ zg := zg_of (List.mem_of_getElem? (i := 1502) (by decide +kernel)) (by decide +kernel)
theorem mv_L_81 : zMV RL 81 yX12_who cX12_who 3 (some .int) 2 := ⟨⟨kw_1500, kw_1501, kw_1502, kw_93, kw_1503⟩, ⟨by decide, by decide, by decide +kernel⟩, by decide⟩
theorem kw_847 : Cond.code yX11_laugh cX11_laugh 3 (some .int) ∈ zg := zg_of (List.mem_of_getElem? (i := 847) (by decide +kernel)) (by decide +kernel)
theorem kw_844 : Cond.methodLink RL 82 yX11_laugh ∈ zg := zg_of (List.mem_of_getElem? (i := 844) (by decide +kernel)) (by decide +kernel)
theorem kw_845 : Cond.instanceMethod yX11_laugh ∈ zg := zg_of (List.mem_of_getElem? (i := 845) (by decide +kernel)) (by decide +kernel)
theorem kw_846 : Cond.selects RX11 yX11_laugh yX11_laugh ∈ zg := zg_of (List.mem_of_getElem? (i := 846) (by decide +kernel)) (by decide +kernel)
theorem mv_L_82 : zMV RL 82 yX11_laugh cX11_laugh 3 (some .int) 2 := ⟨⟨kw_844, kw_845, kw_846, kw_84, kw_847⟩, ⟨by decide, by decide, by decide +kernel⟩, by decide⟩
theorem kw_1507 : Cond.code yX12_laugh cX12_laugh 3 (some .int) ∈ zg := zg_of (List.mem_of_getElem? (i := 1507) (by decide +kernel)) (by decide +kernel)
theorem kw_1504 : Cond.methodLink RL 85 yX12_laugh ∈ zg := zg_of (List.mem_of_getElem? (i := 1504) (by decide +kernel)) (by decide +kernel)
theorem kw_1505 : Cond.instanceMethod yX12_laugh ∈ zg := zg_of (List.mem_of_getElem? (i := 1505) (by decide +kernel)) (by decide +kernel)
theorem kw_1506 : Cond.selects RX12 yX12_laugh yX12_laugh ∈ zg := zg_of (List.mem_of_getElem? (i := 1506) (by decide +kernel)) (by decide +kernel)
theorem mv_L_85 : zMV RL 85 yX12_laugh cX12_laugh 3 (some .int) 2 := ⟨⟨kw_1504, kw_1505, kw_1506, kw_93, kw_1507⟩, ⟨by decide, by decide, by decide +kernel⟩, by decide⟩
theorem kw_861 : Cond.code yX11_told cX11_told 3 (some .int) ∈ zg := zg_of (List.mem_of_getElem? (i := 861) (by decide +kernel)) (by decide +kernel)
theorem kw_858 : Cond.methodLink RL 86 yX11_told ∈ zg := zg_of (List.mem_of_getElem? (i := 858) (by decide +kernel)) (by decide +kernel)
theorem kw_859 : Cond.instanceMethod yX11_told ∈ zg := zg_of (List.mem_of_getElem? (i := 859) (by decide +kernel)) (by decide +kernel)
theorem kw_860 : Cond.selects RX11 yX11_told yX11_told ∈ zg := zg_of (List.mem_of_getElem? (i := 860) (by decide +kernel)) (by decide +kernel)
theorem mv_L_86 : zMV RL 86 yX11_told cX11_told 3 (some .int) 2 := ⟨⟨kw_858, kw_859, kw_860, kw_84, kw_861⟩, ⟨by decide, by decide, by decide +kernel⟩, by decide⟩
theorem kw_1511 : Cond.code yX12_told cX12_told 3 (some .int) ∈ zg := zg_of (List.mem_of_getElem? (i := 1511) (by decide +kernel)) (by decide +kernel)
theorem kw_1508 : Cond.methodLink RL 89 yX12_told ∈ zg := zg_of (List.mem_of_getElem? (i := 1508) (by decide +kernel)) (by decide +kernel)
theorem kw_1509 : Cond.instanceMethod yX12_told ∈ zg := zg_of (List.mem_of_getElem? (i := 1509) (by decide +kernel)) (by decide +kernel)
theorem kw_1510 : Cond.selects RX12 yX12_told yX12_told ∈ zg := zg_of (List.mem_of_getElem? (i := 1510) (by decide +kernel)) (by decide +kernel)
theorem mv_L_89 : zMV RL 89 yX12_told cX12_told 3 (some .int) 2 := ⟨⟨kw_1508, kw_1509, kw_1510, kw_93, kw_1511⟩, ⟨by decide, by decide, by decide +kernel⟩, by decide⟩
theorem kw_865 : Cond.code yX11_telling cX11_telling 3 (some .int) ∈ zg := zg_of (List.mem_of_getElem? (i := 865) (by decide +kernel)) (by decide +kernel)
theorem kw_862 : Cond.methodLink RL 90 yX11_telling ∈ zg := zg_of (List.mem_of_getElem? (i := 862) (by decide +kernel)) (by decide +kernel)
theorem kw_863 : Cond.instanceMethod yX11_telling ∈ zg := zg_of (List.mem_of_getElem? (i := 863) (by decide +kernel)) (by decide +kernel)
theorem kw_864 : Cond.selects RX11 yX11_telling yX11_telling ∈ zg := zg_of (List.mem_of_getElem? (i := 864) (by decide +kernel)) (by decide +kernel)
theorem mv_L_90 : zMV RL 90 yX11_telling cX11_telling 3 (some .int) 2 := ⟨⟨kw_862, kw_863, kw_864, kw_84, kw_865⟩, ⟨by decide, by decide, by decide +kernel⟩, by decide⟩
theorem kw_1515 : Cond.code yX12_telling cX12_telling 3 (some .int) ∈ zg := zg_of (List.mem_of_getElem? (i := 1515) (by decide +kernel)) (by decide +kernel)
theorem kw_1512 : Cond.methodLink RL 93 yX12_telling ∈ zg := zg_of (List.mem_of_getElem? (i := 1512) (by decide +kernel)) (by decide +kernel)
theorem kw_1513 : Cond.instanceMethod yX12_telling ∈ zg := zg_of (List.mem_of_getElem? (i := 1513) (by decide +kernel)) (by decide +kernel)
theorem kw_1514 : Cond.selects RX12 yX12_telling yX12_telling ∈ zg := zg_of (List.mem_of_getElem? (i := 1514) (by decide +kernel)) (by decide +kernel)
theorem mv_L_93 : zMV RL 93 yX12_telling cX12_telling 3 (some .int) 2 := ⟨⟨kw_1512, kw_1513, kw_1514, kw_93, kw_1515⟩, ⟨by decide, by decide, by decide +kernel⟩, by decide⟩
theorem kw_869 : Cond.code yX11_book cX11_book 4 (some .int) ∈ zg := zg_of (List.mem_of_getElem? (i := 869) (by decide +kernel)) (by decide +kernel)
theorem kw_866 : Cond.methodLink RL 94 yX11_book ∈ zg := zg_of (List.mem_of_getElem? (i := 866) (by decide +kernel)) (by decide +kernel)
theorem kw_867 : Cond.instanceMethod yX11_book ∈ zg := zg_of (List.mem_of_getElem? (i := 867) (by decide +kernel)) (by decide +kernel)
theorem kw_868 : Cond.selects RX11 yX11_book yX11_book ∈ zg := zg_of (List.mem_of_getElem? (i := 868) (by decide +kernel)) (by decide +kernel)
theorem mv_L_94 : zMV RL 94 yX11_book cX11_book 4 (some .int) 2 := ⟨⟨kw_866, kw_867, kw_868, kw_84, kw_869⟩, ⟨by decide, by decide, by decide +kernel⟩, by decide⟩
theorem kw_1519 : Cond.code yX12_book cX12_book 3 (some .int) ∈ zg := zg_of (List.mem_of_getElem? (i := 1519) (by decide +kernel)) (by decide +kernel)
theorem kw_1516 : Cond.methodLink RL 97 yX12_book ∈ zg := zg_of (List.mem_of_getElem? (i := 1516) (by decide +kernel)) (by decide +kernel)
theorem kw_1517 : Cond.instanceMethod yX12_book ∈ zg := zg_of (List.mem_of_getElem? (i := 1517) (by decide +kernel)) (by decide +kernel)
theorem kw_1518 : Cond.selects RX12 yX12_book yX12_book ∈ zg := zg_of (List.mem_of_getElem? (i := 1518) (by decide +kernel)) (by decide +kernel)
theorem mv_L_97 : zMV RL 97 yX12_book cX12_book 3 (some .int) 2 := ⟨⟨kw_1516, kw_1517, kw_1518, kw_93, kw_1519⟩, ⟨by decide, by decide, by decide +kernel⟩, by decide⟩
theorem kw_873 : Cond.code yX11_fame cX11_fame 2 (some .int) ∈ zg := zg_of (List.mem_of_getElem? (i := 873) (by decide +kernel)) (by decide +kernel)
theorem kw_870 : Cond.methodLink RL 98 yX11_fame ∈ zg := zg_of (List.mem_of_getElem? (i := 870) (by decide +kernel)) (by decide +kernel)
theorem kw_871 : Cond.instanceMethod yX11_fame ∈ zg := zg_of (List.mem_of_getElem? (i := 871) (by decide +kernel)) (by decide +kernel)
theorem kw_872 : Cond.selects RX11 yX11_fame yX11_fame ∈ zg := zg_of (List.mem_of_getElem? (i := 872) (by decide +kernel)) (by decide +kernel)
theorem mv_L_98 : zMV RL 98 yX11_fame cX11_fame 2 (some .int) 1 := ⟨⟨kw_870, kw_871, kw_872, kw_84, kw_873⟩, ⟨by decide, by decide, by decide +kernel⟩, by decide⟩
theorem kw_1523 : Cond.code yX12_fame cX12_fame 2 (some .int) ∈ zg := zg_of (List.mem_of_getElem? (i := 1523) (by decide +kernel)) (by decide +kernel)
theorem kw_1520 : Cond.methodLink RL 101 yX12_fame ∈ zg := zg_of (List.mem_of_getElem? (i := 1520) (by decide +kernel)) (by decide +kernel)
theorem kw_1521 : Cond.instanceMethod yX12_fame ∈ zg := zg_of (List.mem_of_getElem? (i := 1521) (by decide +kernel)) (by decide +kernel)
theorem kw_1522 : Cond.selects RX12 yX12_fame yX12_fame ∈ zg := zg_of (List.mem_of_getElem? (i := 1522) (by decide +kernel)) (by decide +kernel)
theorem mv_L_101 : zMV RL 101 yX12_fame cX12_fame 2 (some .int) 1 := ⟨⟨kw_1520, kw_1521, kw_1522, kw_93, kw_1523⟩, ⟨by decide, by decide, by decide +kernel⟩, by decide⟩
theorem kw_877 : Cond.code yX11_merry cX11_merry 1 (some .int) ∈ zg := zg_of (List.mem_of_getElem? (i := 877) (by decide +kernel)) (by decide +kernel)
theorem kw_874 : Cond.methodLink RL 102 yX11_merry ∈ zg := zg_of (List.mem_of_getElem? (i := 874) (by decide +kernel)) (by decide +kernel)
theorem kw_875 : Cond.instanceMethod yX11_merry ∈ zg := zg_of (List.mem_of_getElem? (i := 875) (by decide +kernel)) (by decide +kernel)
theorem kw_876 : Cond.selects RX11 yX11_merry yX11_merry ∈ zg := zg_of (List.mem_of_getElem? (i := 876) (by decide +kernel)) (by decide +kernel)
theorem mv_L_102 : zMV RL 102 yX11_merry cX11_merry 1 (some .int) 0 := ⟨⟨kw_874, kw_875, kw_876, kw_84, kw_877⟩, ⟨by decide, by decide, by decide +kernel⟩, by decide⟩
theorem kw_1527 : Cond.code yX12_merry cX12_merry 1 (some .int) ∈ zg := zg_of (List.mem_of_getElem? (i := 1527) (by decide +kernel)) (by decide +kernel)
theorem kw_1524 : Cond.methodLink RL 105 yX12_merry ∈ zg := zg_of (List.mem_of_getElem? (i := 1524) (by decide +kernel)) (by decide +kernel)
theorem kw_1525 : Cond.instanceMethod yX12_merry ∈ zg := zg_of (List.mem_of_getElem? (i := 1525) (by decide +kernel)) (by decide +kernel)
theorem kw_1526 : Cond.selects RX12 yX12_merry yX12_merry ∈ zg := zg_of (List.mem_of_getElem? (i := 1526) (by decide +kernel)) (by decide +kernel)
theorem mv_L_105 : zMV RL 105 yX12_merry cX12_merry 1 (some .int) 0 := ⟨⟨kw_1524, kw_1525, kw_1526, kw_93, kw_1527⟩, ⟨by decide, by decide, by decide +kernel⟩, by decide⟩
theorem kw_893 : Cond.code yX11_fit cX11_fit 2 (some .int) ∈ zg := zg_of (List.mem_of_getElem? (i := 893) (by decide +kernel)) (by decide +kernel)
theorem kw_890 : Cond.methodLink RL 106 yX11_fit ∈ zg := zg_of (List.mem_of_getElem? (i := 890) (by decide +kernel)) (by decide +kernel)
theorem kw_891 : Cond.instanceMethod yX11_fit ∈ zg := zg_of (List.mem_of_getElem? (i := 891) (by decide +kernel)) (by decide +kernel)
theorem kw_892 : Cond.selects RX11 yX11_fit yX11_fit ∈ zg := zg_of (List.mem_of_getElem? (i := 892) (by decide +kernel)) (by decide +kernel)
theorem mv_L_106 : zMV RL 106 yX11_fit cX11_fit 2 (some .int) 1 := ⟨⟨kw_890, kw_891, kw_892, kw_84, kw_893⟩, ⟨by decide, by decide, by decide +kernel⟩, by decide⟩
theorem kw_1535 : Cond.code yX12_fit cX12_fit 2 (some .int) ∈ zg := zg_of (List.mem_of_getElem? (i := 1535) (by decide +kernel)) (by decide +kernel)
theorem kw_1532 : Cond.methodLink RL 109 yX12_fit ∈ zg := zg_of (List.mem_of_getElem? (i := 1532) (by decide +kernel)) (by decide +kernel)
theorem kw_1533 : Cond.instanceMethod yX12_fit ∈ zg := zg_of (List.mem_of_getElem? (i := 1533) (by decide +kernel)) (by decide +kernel)
theorem kw_1534 : Cond.selects RX12 yX12_fit yX12_fit ∈ zg := zg_of (List.mem_of_getElem? (i := 1534) (by decide +kernel)) (by decide +kernel)
theorem mv_L_109 : zMV RL 109 yX12_fit cX12_fit 2 (some .int) 1 := ⟨⟨kw_1532, kw_1533, kw_1534, kw_93, kw_1535⟩, ⟨by decide, by decide, by decide +kernel⟩, by decide⟩
theorem kw_957 : Cond.code yX11_seating cX11_seating 4 (some .int) ∈ zg := zg_of (List.mem_of_getElem? (i := 957) (by decide +kernel)) (by decide +kernel)
theorem kw_954 : Cond.methodLink RL 110 yX11_seating ∈ zg := zg_of (List.mem_of_getElem? (i := 954) (by decide +kernel)) (by decide +kernel)
theorem kw_955 : Cond.instanceMethod yX11_seating ∈ zg := zg_of (List.mem_of_getElem? (i := 955) (by decide +kernel)) (by decide +kernel)
theorem kw_956 : Cond.selects RX11 yX11_seating yX11_seating ∈ zg := zg_of (List.mem_of_getElem? (i := 956) (by decide +kernel)) (by decide +kernel)
theorem mv_L_110 : zMV RL 110 yX11_seating cX11_seating 4 (some .int) 1 := ⟨⟨kw_954, kw_955, kw_956, kw_84, kw_957⟩, ⟨by decide, by decide, by decide +kernel⟩, by decide⟩
theorem kw_1551 : Cond.code yX12_seating cX12_seating 4 (some .int) ∈ zg := zg_of (List.mem_of_getElem? (i := 1551) (by decide +kernel)) (by decide +kernel)
theorem kw_1548 : Cond.methodLink RL 113 yX12_seating ∈ zg := zg_of (List.mem_of_getElem? (i := 1548) (by decide +kernel)) (by decide +kernel)
theorem kw_1549 : Cond.instanceMethod yX12_seating ∈ zg := zg_of (List.mem_of_getElem? (i := 1549) (by decide +kernel)) (by decide +kernel)
theorem kw_1550 : Cond.selects RX12 yX12_seating yX12_seating ∈ zg := zg_of (List.mem_of_getElem? (i := 1550) (by decide +kernel)) (by decide +kernel)
theorem mv_L_113 : zMV RL 113 yX12_seating cX12_seating 4 (some .int) 1 := ⟨⟨kw_1548, kw_1549, kw_1550, kw_93, kw_1551⟩, ⟨by decide, by decide, by decide +kernel⟩, by decide⟩
theorem kw_1007 : Cond.code yX11_change cX11_change 9 (some .int) ∈ zg := zg_of (List.mem_of_getElem? (i := 1007) (by decide +kernel)) (by decide +kernel)
theorem kw_1004 : Cond.methodLink RL 114 yX11_change ∈ zg := zg_of (List.mem_of_getElem? (i := 1004) (by decide +kernel)) (by decide +kernel)
theorem kw_1005 : Cond.instanceMethod yX11_change ∈ zg := zg_of (List.mem_of_getElem? (i := 1005) (by decide +kernel)) (by decide +kernel)
theorem kw_1006 : Cond.selects RX11 yX11_change yX11_change ∈ zg := zg_of (List.mem_of_getElem? (i := 1006) (by decide +kernel)) (by decide +kernel)
theorem mv_L_114 : zMV RL 114 yX11_change cX11_change 9 (some .int) 1 := ⟨⟨kw_1004, kw_1005, kw_1006, kw_84, kw_1007⟩, ⟨by decide, by decide, by decide +kernel⟩, by decide⟩
theorem kw_1567 : Cond.code yX12_change cX12_change 9 (some .int) ∈ zg := zg_of (List.mem_of_getElem? (i := 1567) (by decide +kernel)) (by decide +kernel)
theorem kw_1564 : Cond.methodLink RL 117 yX12_change ∈ zg := zg_of (List.mem_of_getElem? (i := 1564) (by decide +kernel)) (by decide +kernel)
theorem kw_1565 : Cond.instanceMethod yX12_change ∈ zg := zg_of (List.mem_of_getElem? (i := 1565) (by decide +kernel)) (by decide +kernel)
theorem kw_1566 : Cond.selects RX12 yX12_change yX12_change ∈ zg := zg_of (List.mem_of_getElem? (i := 1566) (by decide +kernel)) (by decide +kernel)
theorem mv_L_117 : zMV RL 117 yX12_change cX12_change 9 (some .int) 1 := ⟨⟨kw_1564, kw_1565, kw_1566, kw_93, kw_1567⟩, ⟨by decide, by decide, by decide +kernel⟩, by decide⟩
theorem kw_1016 : Cond.code yX11_like cX11_like 5 (some .int) ∈ zg := zg_of (List.mem_of_getElem? (i := 1016) (by decide +kernel)) (by decide +kernel)
theorem kw_1013 : Cond.methodLink RL 118 yX11_like ∈ zg := zg_of (List.mem_of_getElem? (i := 1013) (by decide +kernel)) (by decide +kernel)
theorem kw_1014 : Cond.instanceMethod yX11_like ∈ zg := zg_of (List.mem_of_getElem? (i := 1014) (by decide +kernel)) (by decide +kernel)
theorem kw_1015 : Cond.selects RX11 yX11_like yX11_like ∈ zg := zg_of (List.mem_of_getElem? (i := 1015) (by decide +kernel)) (by decide +kernel)
theorem mv_L_118 : zMV RL 118 yX11_like cX11_like 5 (some .int) 2 := ⟨⟨kw_1013, kw_1014, kw_1015, kw_84, kw_1016⟩, ⟨by decide, by decide, by decide +kernel⟩, by decide⟩
theorem kw_1575 : Cond.code yX12_like cX12_like 6 (some .int) ∈ zg := zg_of (List.mem_of_getElem? (i := 1575) (by decide +kernel)) (by decide +kernel)
theorem kw_1572 : Cond.methodLink RL 121 yX12_like ∈ zg := zg_of (List.mem_of_getElem? (i := 1572) (by decide +kernel)) (by decide +kernel)
theorem kw_1573 : Cond.instanceMethod yX12_like ∈ zg := zg_of (List.mem_of_getElem? (i := 1573) (by decide +kernel)) (by decide +kernel)
theorem kw_1574 : Cond.selects RX12 yX12_like yX12_like ∈ zg := zg_of (List.mem_of_getElem? (i := 1574) (by decide +kernel)) (by decide +kernel)
theorem mv_L_121 : zMV RL 121 yX12_like cX12_like 6 (some .int) 2 := ⟨⟨kw_1572, kw_1573, kw_1574, kw_93, kw_1575⟩, ⟨by decide, by decide, by decide +kernel⟩, by decide⟩
theorem kw_1027 : Cond.code yX11_silent cX11_silent 4 (some .int) ∈ zg := zg_of (List.mem_of_getElem? (i := 1027) (by decide +kernel)) (by decide +kernel)
theorem kw_1024 : Cond.methodLink RL 122 yX11_silent ∈ zg := zg_of (List.mem_of_getElem? (i := 1024) (by decide +kernel)) (by decide +kernel)
theorem kw_1025 : Cond.instanceMethod yX11_silent ∈ zg := zg_of (List.mem_of_getElem? (i := 1025) (by decide +kernel)) (by decide +kernel)
theorem kw_1026 : Cond.selects RX11 yX11_silent yX11_silent ∈ zg := zg_of (List.mem_of_getElem? (i := 1026) (by decide +kernel)) (by decide +kernel)
theorem mv_L_122 : zMV RL 122 yX11_silent cX11_silent 4 (some .int) 1 := ⟨⟨kw_1024, kw_1025, kw_1026, kw_84, kw_1027⟩, ⟨by decide, by decide, by decide +kernel⟩, by decide⟩
theorem kw_1583 : Cond.code yX12_silent cX12_silent 4 (some .int) ∈ zg := zg_of (List.mem_of_getElem? (i := 1583) (by decide +kernel)) (by decide +kernel)
theorem kw_1580 : Cond.methodLink RL 125 yX12_silent ∈ zg := zg_of (List.mem_of_getElem? (i := 1580) (by decide +kernel)) (by decide +kernel)
theorem kw_1581 : Cond.instanceMethod yX12_silent ∈ zg := zg_of (List.mem_of_getElem? (i := 1581) (by decide +kernel)) (by decide +kernel)
theorem kw_1582 : Cond.selects RX12 yX12_silent yX12_silent ∈ zg := zg_of (List.mem_of_getElem? (i := 1582) (by decide +kernel)) (by decide +kernel)
theorem mv_L_125 : zMV RL 125 yX12_silent cX12_silent 4 (some .int) 1 := ⟨⟨kw_1580, kw_1581, kw_1582, kw_93, kw_1583⟩, ⟨by decide, by decide, by decide +kernel⟩, by decide⟩
theorem kw_1032 : Cond.code yX11_worth cX11_worth 4 (some .int) ∈ zg := zg_of (List.mem_of_getElem? (i := 1032) (by decide +kernel)) (by decide +kernel)
theorem kw_1029 : Cond.methodLink RL 126 yX11_worth ∈ zg := zg_of (List.mem_of_getElem? (i := 1029) (by decide +kernel)) (by decide +kernel)
theorem kw_1030 : Cond.instanceMethod yX11_worth ∈ zg := zg_of (List.mem_of_getElem? (i := 1030) (by decide +kernel)) (by decide +kernel)
theorem kw_1031 : Cond.selects RX11 yX11_worth yX11_worth ∈ zg := zg_of (List.mem_of_getElem? (i := 1031) (by decide +kernel)) (by decide +kernel)
theorem mv_L_126 : zMV RL 126 yX11_worth cX11_worth 4 (some .int) 2 := ⟨⟨kw_1029, kw_1030, kw_1031, kw_84, kw_1032⟩, ⟨by decide, by decide, by decide +kernel⟩, by decide⟩
theorem kw_1591 : Cond.code yX12_worth cX12_worth 5 (some .int) ∈ zg := zg_of (List.mem_of_getElem? (i := 1591) (by decide +kernel)) (by decide +kernel)
theorem kw_1588 : Cond.methodLink RL 129 yX12_worth ∈ zg := zg_of (List.mem_of_getElem? (i := 1588) (by decide +kernel)) (by decide +kernel)
theorem kw_1589 : Cond.instanceMethod yX12_worth ∈ zg := zg_of (List.mem_of_getElem? (i := 1589) (by decide +kernel)) (by decide +kernel)
theorem kw_1590 : Cond.selects RX12 yX12_worth yX12_worth ∈ zg := zg_of (List.mem_of_getElem? (i := 1590) (by decide +kernel)) (by decide +kernel)
theorem mv_L_129 : zMV RL 129 yX12_worth cX12_worth 5 (some .int) 2 := ⟨⟨kw_1588, kw_1589, kw_1590, kw_93, kw_1591⟩, ⟨by decide, by decide, by decide +kernel⟩, by decide⟩
theorem kw_1077 : Cond.code yX11_away cX11_away 6 (some .int) ∈ zg := zg_of (List.mem_of_getElem? (i := 1077) (by decide +kernel)) (by decide +kernel)
theorem kw_1074 : Cond.methodLink RL 130 yX11_away ∈ zg := zg_of (List.mem_of_getElem? (i := 1074) (by decide +kernel)) (by decide +kernel)
theorem kw_1075 : Cond.instanceMethod yX11_away ∈ zg := zg_of (List.mem_of_getElem? (i := 1075) (by decide +kernel)) (by decide +kernel)
theorem kw_1076 : Cond.selects RX11 yX11_away yX11_away ∈ zg := zg_of (List.mem_of_getElem? (i := 1076) (by decide +kernel)) (by decide +kernel)
theorem mv_L_130 : zMV RL 130 yX11_away cX11_away 6 (some .int) 1 := ⟨⟨kw_1074, kw_1075, kw_1076, kw_84, kw_1077⟩, ⟨by decide, by decide, by decide +kernel⟩, by decide⟩
theorem kw_1571 : Cond.code yX12_away cX12_away 4 (some .int) ∈ zg := zg_of (List.mem_of_getElem? (i := 1571) (by decide +kernel)) (by decide +kernel)
theorem kw_1568 : Cond.methodLink RL 133 yX12_away ∈ zg := zg_of (List.mem_of_getElem? (i := 1568) (by decide +kernel)) (by decide +kernel)
theorem kw_1569 : Cond.instanceMethod yX12_away ∈ zg := zg_of (List.mem_of_getElem? (i := 1569) (by decide +kernel)) (by decide +kernel)
theorem kw_1570 : Cond.selects RX12 yX12_away yX12_away ∈ zg := zg_of (List.mem_of_getElem? (i := 1570) (by decide +kernel)) (by decide +kernel)
theorem mv_L_133 : zMV RL 133 yX12_away cX12_away 4 (some .int) 1 := ⟨⟨kw_1568, kw_1569, kw_1570, kw_93, kw_1571⟩, ⟨by decide, by decide, by decide +kernel⟩, by decide⟩
theorem kw_1081 : Cond.code yX11_uncle cX11_uncle 7 (some .int) ∈ zg := zg_of (List.mem_of_getElem? (i := 1081) (by decide +kernel)) (by decide +kernel)
theorem kw_1078 : Cond.methodLink RL 134 yX11_uncle ∈ zg := zg_of (List.mem_of_getElem? (i := 1078) (by decide +kernel)) (by decide +kernel)
theorem kw_1079 : Cond.instanceMethod yX11_uncle ∈ zg := zg_of (List.mem_of_getElem? (i := 1079) (by decide +kernel)) (by decide +kernel)
theorem kw_1080 : Cond.selects RX11 yX11_uncle yX11_uncle ∈ zg := zg_of (List.mem_of_getElem? (i := 1080) (by decide +kernel)) (by decide +kernel)
theorem mv_L_134 : zMV RL 134 yX11_uncle cX11_uncle 7 (some .int) 2 := ⟨⟨kw_1078, kw_1079, kw_1080, kw_84, kw_1081⟩, ⟨by decide, by decide, by decide +kernel⟩, by decide⟩
theorem kw_1603 : Cond.code yX12_uncle cX12_uncle 7 (some .int) ∈ zg := zg_of (List.mem_of_getElem? (i := 1603) (by decide +kernel)) (by decide +kernel)
theorem kw_1600 : Cond.methodLink RL 137 yX12_uncle ∈ zg := zg_of (List.mem_of_getElem? (i := 1600) (by decide +kernel)) (by decide +kernel)
theorem kw_1601 : Cond.instanceMethod yX12_uncle ∈ zg := zg_of (List.mem_of_getElem? (i := 1601) (by decide +kernel)) (by decide +kernel)
theorem kw_1602 : Cond.selects RX12 yX12_uncle yX12_uncle ∈ zg := zg_of (List.mem_of_getElem? (i := 1602) (by decide +kernel)) (by decide +kernel)
theorem mv_L_137 : zMV RL 137 yX12_uncle cX12_uncle 7 (some .int) 2 := ⟨⟨kw_1600, kw_1601, kw_1602, kw_93, kw_1603⟩, ⟨by decide, by decide, by decide +kernel⟩, by decide⟩
theorem kw_1089 : Cond.code yX11_undo cX11_undo 1 (some .boolean) ∈ zg := zg_of (List.mem_of_getElem? (i := 1089) (by decide +kernel)) (by decide +kernel)
theorem kw_1086 : Cond.methodLink RL 138 yX11_undo ∈ zg := zg_of (List.mem_of_getElem? (i := 1086) (by decide +kernel)) (by decide +kernel)
theorem kw_1087 : Cond.instanceMethod yX11_undo ∈ zg := zg_of (List.mem_of_getElem? (i := 1087) (by decide +kernel)) (by decide +kernel)
theorem kw_1088 : Cond.selects RX11 yX11_undo yX11_undo ∈ zg := zg_of (List.mem_of_getElem? (i := 1088) (by decide +kernel)) (by decide +kernel)
theorem mv_L_138 : zMV RL 138 yX11_undo cX11_undo 1 (some .boolean) 0 := ⟨⟨kw_1086, kw_1087, kw_1088, kw_84, kw_1089⟩, ⟨by decide, by decide, by decide +kernel⟩, by decide⟩
theorem kw_1432 : Cond.code yX12_undo cX12_undo 3 (some .boolean) ∈ zg := zg_of (List.mem_of_getElem? (i := 1432) (by decide +kernel)) (by decide +kernel)
theorem kw_1429 : Cond.methodLink RL 142 yX12_undo ∈ zg := zg_of (List.mem_of_getElem? (i := 1429) (by decide +kernel)) (by decide +kernel)
theorem kw_1430 : Cond.instanceMethod yX12_undo ∈ zg := zg_of (List.mem_of_getElem? (i := 1430) (by decide +kernel)) (by decide +kernel)
theorem kw_1431 : Cond.selects RX12 yX12_undo yX12_undo ∈ zg := zg_of (List.mem_of_getElem? (i := 1431) (by decide +kernel)) (by decide +kernel)
theorem mv_L_142 : zMV RL 142 yX12_undo cX12_undo 3 (some .boolean) 0 := ⟨⟨kw_1429, kw_1430, kw_1431, kw_93, kw_1432⟩, ⟨by decide, by decide, by decide +kernel⟩, by decide⟩
theorem kw_1097 : Cond.code yX11_image cX11_image 2 (some .boolean) ∈ zg := zg_of (List.mem_of_getElem? (i := 1097) (by decide +kernel)) (by decide +kernel)
theorem kw_1094 : Cond.methodLink RL 143 yX11_image ∈ zg := zg_of (List.mem_of_getElem? (i := 1094) (by decide +kernel)) (by decide +kernel)
theorem kw_1095 : Cond.instanceMethod yX11_image ∈ zg := zg_of (List.mem_of_getElem? (i := 1095) (by decide +kernel)) (by decide +kernel)
theorem kw_1096 : Cond.selects RX11 yX11_image yX11_image ∈ zg := zg_of (List.mem_of_getElem? (i := 1096) (by decide +kernel)) (by decide +kernel)
theorem mv_L_143 : zMV RL 143 yX11_image cX11_image 2 (some .boolean) 1 := ⟨⟨kw_1094, kw_1095, kw_1096, kw_84, kw_1097⟩, ⟨by decide, by decide, by decide +kernel⟩, by decide⟩
theorem kw_1615 : Cond.code yX12_image cX12_image 3 (some .boolean) ∈ zg := zg_of (List.mem_of_getElem? (i := 1615) (by decide +kernel)) (by decide +kernel)
theorem kw_1612 : Cond.methodLink RL 147 yX12_image ∈ zg := zg_of (List.mem_of_getElem? (i := 1612) (by decide +kernel)) (by decide +kernel)
theorem kw_1613 : Cond.instanceMethod yX12_image ∈ zg := zg_of (List.mem_of_getElem? (i := 1613) (by decide +kernel)) (by decide +kernel)
theorem kw_1614 : Cond.selects RX12 yX12_image yX12_image ∈ zg := zg_of (List.mem_of_getElem? (i := 1614) (by decide +kernel)) (by decide +kernel)
theorem mv_L_147 : zMV RL 147 yX12_image cX12_image 3 (some .boolean) 1 := ⟨⟨kw_1612, kw_1613, kw_1614, kw_93, kw_1615⟩, ⟨by decide, by decide, by decide +kernel⟩, by decide⟩
theorem kw_1122 : Cond.code yX11_look cX11_look 2 (some .int) ∈ zg := zg_of (List.mem_of_getElem? (i := 1122) (by decide +kernel)) (by decide +kernel)
theorem kw_1119 : Cond.methodLink RL 148 yX11_look ∈ zg := zg_of (List.mem_of_getElem? (i := 1119) (by decide +kernel)) (by decide +kernel)
theorem kw_1120 : Cond.instanceMethod yX11_look ∈ zg := zg_of (List.mem_of_getElem? (i := 1120) (by decide +kernel)) (by decide +kernel)
theorem kw_1121 : Cond.selects RX11 yX11_look yX11_look ∈ zg := zg_of (List.mem_of_getElem? (i := 1121) (by decide +kernel)) (by decide +kernel)
theorem mv_L_148 : zMV RL 148 yX11_look cX11_look 2 (some .int) 1 := ⟨⟨kw_1119, kw_1120, kw_1121, kw_84, kw_1122⟩, ⟨by decide, by decide, by decide +kernel⟩, by decide⟩
theorem kw_1619 : Cond.code yX12_look cX12_look 2 (some .int) ∈ zg := zg_of (List.mem_of_getElem? (i := 1619) (by decide +kernel)) (by decide +kernel)
theorem kw_1616 : Cond.methodLink RL 151 yX12_look ∈ zg := zg_of (List.mem_of_getElem? (i := 1616) (by decide +kernel)) (by decide +kernel)
theorem kw_1617 : Cond.instanceMethod yX12_look ∈ zg := zg_of (List.mem_of_getElem? (i := 1617) (by decide +kernel)) (by decide +kernel)
theorem kw_1618 : Cond.selects RX12 yX12_look yX12_look ∈ zg := zg_of (List.mem_of_getElem? (i := 1618) (by decide +kernel)) (by decide +kernel)
theorem mv_L_151 : zMV RL 151 yX12_look cX12_look 2 (some .int) 1 := ⟨⟨kw_1616, kw_1617, kw_1618, kw_93, kw_1619⟩, ⟨by decide, by decide, by decide +kernel⟩, by decide⟩
