/-! The law's pure statements -/
theorem t_P_symbol {sd : Sd} {cu sp : Sy} {w v : Br} {wr : Wr} {rd : Rd} {pb : Pb} {mo : Mo} (h : Rl_P sd cu sp w v wr rd pb mo) (x1 : Int32) (x2 : Int32) : T_P_symbol Rl_P sd cu sp w v wr rd pb mo x1 x2 := by
  obtain ⟨kd, hkd, hw, hr, h⟩ := h
  rcases Q_symbol h x1 x2 with ⟨r, z', mo', e1, e2, e3, e4⟩ | ⟨e1, q, mo', e2, e3, e4⟩ | ⟨e1, q, mo', e2, e3, e4⟩
  · exact Or.inl ⟨r, z', mo', e1, e2, e3, ⟨kd, hkd, hw, hr, e4⟩⟩
  · exact Or.inr (Or.inl ⟨e1, q, mo', e2, e3, ⟨kd, hkd, hw, hr, e4⟩⟩)
  · exact Or.inr (Or.inr (⟨e1, q, mo', e2, e3, ⟨kd, hkd, hw, hr, e4⟩⟩))
theorem t_P_put {sd : Sd} {cu sp : Sy} {w v : Br} {wr : Wr} {rd : Rd} {pb : Pb} {mo : Mo} (h : Rl_P sd cu sp w v wr rd pb mo) (x1 : Int32) (x2 : Int32) (x3 : Int32) (x4 : Int32) : T_P_put Rl_P sd cu sp w v wr rd pb mo x1 x2 x3 x4 := by
  obtain ⟨kd, hkd, hw, hr, h⟩ := h
  rcases Q_put h x1 x2 x3 x4 with ⟨r, z', mo', e1, e2, e3, e4⟩ | ⟨e1, q, mo', e2, e3, e4⟩
  · exact Or.inl ⟨r, z', mo', e1, e2, e3, ⟨kd, hkd, hw, hr, e4⟩⟩
  · exact Or.inr (⟨e1, q, mo', e2, e3, ⟨kd, hkd, hw, hr, e4⟩⟩)
theorem t_P_row {sd : Sd} {cu sp : Sy} {w v : Br} {wr : Wr} {rd : Rd} {pb : Pb} {mo : Mo} (h : Rl_P sd cu sp w v wr rd pb mo) (x1 : Int32) (x2 : Int32) (x3 : Int32) : T_P_row Rl_P sd cu sp w v wr rd pb mo x1 x2 x3 := by
  obtain ⟨kd, hkd, hw, hr, h⟩ := h
  rcases Q_row h x1 x2 x3 with ⟨r, z', mo', e1, e2, e3, e4⟩ | ⟨e1, q, mo', e2, e3, e4⟩
  · exact Or.inl ⟨r, z', mo', e1, e2, e3, ⟨kd, hkd, hw, hr, e4⟩⟩
  · exact Or.inr (⟨e1, q, mo', e2, e3, ⟨kd, hkd, hw, hr, e4⟩⟩)
theorem t_P_at {sd : Sd} {cu sp : Sy} {w v : Br} {wr : Wr} {rd : Rd} {pb : Pb} {mo : Mo} (h : Rl_P sd cu sp w v wr rd pb mo) (x1 : Int32) (x2 : Int32) (x3 : Int32) : T_P_at Rl_P sd cu sp w v wr rd pb mo x1 x2 x3 := by
  obtain ⟨kd, hkd, hw, hr, h⟩ := h
  rcases Q_at h x1 x2 x3 with ⟨r, mo', e1, e2, e3, e4⟩ | ⟨e1, q, mo', e2, e3, e4⟩
  · exact Or.inl ⟨r, mo', e1, e2, e3, ⟨kd, hkd, hw, hr, e4⟩⟩
  · exact Or.inr (⟨e1, q, mo', e2, e3, ⟨kd, hkd, hw, hr, e4⟩⟩)
theorem t_P_refined {sd : Sd} {cu sp : Sy} {w v : Br} {wr : Wr} {rd : Rd} {pb : Pb} {mo : Mo} (h : Rl_P sd cu sp w v wr rd pb mo) (x1 : Int32) (x2 : Int32) (x3 : Int32) (x4 : Int32) : T_P_refined Rl_P sd cu sp w v wr rd pb mo x1 x2 x3 x4 := by
  obtain ⟨kd, hkd, hw, hr, h⟩ := h
  rcases Q_refined h x1 x2 x3 x4 with ⟨r, z', mo', e1, e2, e3, e4⟩ | ⟨e1, q, mo', e2, e3, e4⟩ | ⟨e1, q, mo', e2, e3, e4⟩ | ⟨e1, q, mo', e2, e3, e4⟩
  · exact Or.inl ⟨r, z', mo', e1, e2, e3, ⟨kd, hkd, hw, hr, e4⟩⟩
  · exact Or.inr (Or.inl ⟨e1, q, mo', e2, e3, ⟨kd, hkd, hw, hr, e4⟩⟩)
  · exact Or.inr (Or.inr (Or.inl ⟨e1, q, mo', e2, e3, ⟨kd, hkd, hw, hr, e4⟩⟩))
  · exact Or.inr (Or.inr (Or.inr (⟨e1, q, mo', e2, e3, ⟨kd, hkd, hw, hr, e4⟩⟩)))
theorem t_P_export {sd : Sd} {cu sp : Sy} {w v : Br} {wr : Wr} {rd : Rd} {pb : Pb} {mo : Mo} (h : Rl_P sd cu sp w v wr rd pb mo) (x1 : Int32) (x2 : Int32) : T_P_export Rl_P sd cu sp w v wr rd pb mo x1 x2 := by
  obtain ⟨kd, hkd, hw, hr, h⟩ := h
  rcases Q_export h x1 x2 with ⟨r, z', mo', e1, e2, e3, e4⟩ | ⟨e1, q, mo', e2, e3, e4⟩
  · exact Or.inl ⟨r, z', mo', e1, e2, e3, ⟨kd, hkd, hw, hr, e4⟩⟩
  · exact Or.inr (⟨e1, q, mo', e2, e3, ⟨kd, hkd, hw, hr, e4⟩⟩)
theorem t_P_byteAt {sd : Sd} {cu sp : Sy} {w v : Br} {wr : Wr} {rd : Rd} {pb : Pb} {mo : Mo} (h : Rl_P sd cu sp w v wr rd pb mo) (x1 : Int32) : T_P_byteAt Rl_P sd cu sp w v wr rd pb mo x1 := by
  obtain ⟨kd, hkd, hw, hr, h⟩ := h
  rcases Q_byteAt h x1 with ⟨r, mo', e1, e2, e3, e4⟩ | ⟨e1, q, mo', e2, e3, e4⟩
  · exact Or.inl ⟨r, mo', e1, e2, e3, ⟨kd, hkd, hw, hr, e4⟩⟩
  · exact Or.inr (⟨e1, q, mo', e2, e3, ⟨kd, hkd, hw, hr, e4⟩⟩)
theorem t_P_feed {sd : Sd} {cu sp : Sy} {w v : Br} {wr : Wr} {rd : Rd} {pb : Pb} {mo : Mo} (h : Rl_P sd cu sp w v wr rd pb mo) (x1 : Int32) : T_P_feed Rl_P sd cu sp w v wr rd pb mo x1 := by
  obtain ⟨kd, hkd, hw, hr, h⟩ := h
  rcases Q_feed h x1 with ⟨r, z', mo', e1, e2, e3, e4⟩ | ⟨e1, q, mo', e2, e3, e4⟩ | ⟨e1, q, mo', e2, e3, e4⟩
  · exact Or.inl ⟨r, z', mo', e1, e2, e3, ⟨kd, hkd, hw, hr, e4⟩⟩
  · exact Or.inr (Or.inl ⟨e1, q, mo', e2, e3, ⟨kd, hkd, hw, hr, e4⟩⟩)
  · exact Or.inr (Or.inr (⟨e1, q, mo', e2, e3, ⟨kd, hkd, hw, hr, e4⟩⟩))
theorem t_P_pass {sd : Sd} {cu sp : Sy} {w v : Br} {wr : Wr} {rd : Rd} {pb : Pb} {mo : Mo} (h : Rl_P sd cu sp w v wr rd pb mo) : T_P_pass Rl_P sd cu sp w v wr rd pb mo := by
  obtain ⟨kd, hkd, hw, hr, h⟩ := h
  rcases Q_pass h with ⟨r, z', mo', e1, e2, e3, e4⟩ | ⟨e1, q, mo', e2, e3, e4⟩
  · exact Or.inl ⟨r, z', mo', e1, e2, e3, ⟨kd, hkd, hw, hr, e4⟩⟩
  · exact Or.inr (⟨e1, q, mo', e2, e3, ⟨kd, hkd, hw, hr, e4⟩⟩)
theorem t_P_told {sd : Sd} {cu sp : Sy} {w v : Br} {wr : Wr} {rd : Rd} {pb : Pb} {mo : Mo} (h : Rl_P sd cu sp w v wr rd pb mo) (x1 : Int32) (x2 : Int32) : T_P_told Rl_P sd cu sp w v wr rd pb mo x1 x2 := by
  obtain ⟨kd, hkd, hw, hr, h⟩ := h
  rcases Q_told h x1 x2 with ⟨r, mo', e1, e2, e3, e4⟩ | ⟨e1, q, mo', e2, e3, e4⟩ | ⟨e1, q, mo', e2, e3, e4⟩
  · exact Or.inl ⟨r, mo', e1, e2, e3, ⟨kd, hkd, hw, hr, e4⟩⟩
  · exact Or.inr (Or.inl ⟨e1, q, mo', e2, e3, ⟨kd, hkd, hw, hr, e4⟩⟩)
  · exact Or.inr (Or.inr (⟨e1, q, mo', e2, e3, ⟨kd, hkd, hw, hr, e4⟩⟩))
theorem t_P_likeness {sd : Sd} {cu sp : Sy} {w v : Br} {wr : Wr} {rd : Rd} {pb : Pb} {mo : Mo} (h : Rl_P sd cu sp w v wr rd pb mo) (x1 : Int32) (x2 : Int32) : T_P_likeness Rl_P sd cu sp w v wr rd pb mo x1 x2 := by
  obtain ⟨kd, hkd, hw, hr, h⟩ := h
  rcases Q_likeness h x1 x2 with ⟨r, mo', e1, e2, e3, e4⟩ | ⟨e1, q, mo', e2, e3, e4⟩
  · exact Or.inl ⟨r, mo', e1, e2, e3, ⟨kd, hkd, hw, hr, e4⟩⟩
  · exact Or.inr (⟨e1, q, mo', e2, e3, ⟨kd, hkd, hw, hr, e4⟩⟩)
theorem t_P_classes {sd : Sd} {cu sp : Sy} {w v : Br} {wr : Wr} {rd : Rd} {pb : Pb} {mo : Mo} (h : Rl_P sd cu sp w v wr rd pb mo) (x1 : Int32) : T_P_classes Rl_P sd cu sp w v wr rd pb mo x1 := by
  obtain ⟨kd, hkd, hw, hr, h⟩ := h
  rcases Q_classes h x1 with ⟨r, z', mo', e1, e2, e3, e4⟩ | ⟨e1, q, mo', e2, e3, e4⟩
  · exact Or.inl ⟨r, z', mo', e1, e2, e3, ⟨kd, hkd, hw, hr, e4⟩⟩
  · exact Or.inr (⟨e1, q, mo', e2, e3, ⟨kd, hkd, hw, hr, e4⟩⟩)
theorem t_P_cls {sd : Sd} {cu sp : Sy} {w v : Br} {wr : Wr} {rd : Rd} {pb : Pb} {mo : Mo} (h : Rl_P sd cu sp w v wr rd pb mo) (x1 : Int32) : T_P_cls Rl_P sd cu sp w v wr rd pb mo x1 := by
  obtain ⟨kd, hkd, hw, hr, h⟩ := h
  rcases Q_cls h x1 with ⟨r, mo', e1, e2, e3, e4⟩ | ⟨e1, q, mo', e2, e3, e4⟩
  · exact Or.inl ⟨r, mo', e1, e2, e3, ⟨kd, hkd, hw, hr, e4⟩⟩
  · exact Or.inr (⟨e1, q, mo', e2, e3, ⟨kd, hkd, hw, hr, e4⟩⟩)
theorem t_P_count {sd : Sd} {cu sp : Sy} {w v : Br} {wr : Wr} {rd : Rd} {pb : Pb} {mo : Mo} (h : Rl_P sd cu sp w v wr rd pb mo) (x1 : Int32) : T_P_count Rl_P sd cu sp w v wr rd pb mo x1 := by
  obtain ⟨kd, hkd, hw, hr, h⟩ := h
  obtain ⟨r, mo', e1, e2, e4⟩ := Q_count h x1
  exact ⟨r, mo', e1, e2, ⟨kd, hkd, hw, hr, e4⟩⟩
theorem t_P_clear {sd : Sd} {cu sp : Sy} {w v : Br} {wr : Wr} {rd : Rd} {pb : Pb} {mo : Mo} (h : Rl_P sd cu sp w v wr rd pb mo) : T_P_clear Rl_P sd cu sp w v wr rd pb mo := by
  obtain ⟨kd, hkd, hw, hr, h⟩ := h
  obtain ⟨cu', w', v', mo', e1, e2, e3, e4, e5⟩ := Q_clear h
  exact ⟨cu', w', v', mo', e1, e2, e3, e4, ⟨kd, hkd, hw, hr, e5⟩⟩
theorem t_P_write {sd : Sd} {cu sp : Sy} {w v : Br} {wr : Wr} {rd : Rd} {pb : Pb} {mo : Mo} (h : Rl_P sd cu sp w v wr rd pb mo) : T_P_write Rl_P sd cu sp w v wr rd pb mo := by
  obtain ⟨kd, hkd, hw, hr, h⟩ := h
  obtain ⟨r, wr', b', w', mo', e1, e2, e3, e4⟩ := Q_write_P (wr := wr) (b := pb) h hkd (by rw [hw]; rcases hkd with e | e <;> (rw [e]; rfl))
  exact ⟨r, wr', b', w', mo', e1, e2, kd, hkd, e3.trans hw, hr, e4⟩
theorem t_C_symbol {sd : Sd} {cu sp : Sy} {w v : Br} {wr : Wr} {rd : Rd} {cb : Cb} {mo : Mo} (h : Rl_C sd cu sp w v wr rd cb mo) (x1 : Int32) (x2 : Int32) : T_C_symbol Rl_C sd cu sp w v wr rd cb mo x1 x2 := by
  obtain ⟨hw, hr, h⟩ := h
  rcases Q_symbol h x1 x2 with ⟨r, z', mo', e1, e2, e3, e4⟩ | ⟨e1, q, mo', e2, e3, e4⟩ | ⟨e1, q, mo', e2, e3, e4⟩
  · exact Or.inl ⟨r, z', mo', e1, e2, e3, ⟨hw, hr, e4⟩⟩
  · exact Or.inr (Or.inl ⟨e1, q, mo', e2, e3, ⟨hw, hr, e4⟩⟩)
  · exact Or.inr (Or.inr (⟨e1, q, mo', e2, e3, ⟨hw, hr, e4⟩⟩))
theorem t_C_put {sd : Sd} {cu sp : Sy} {w v : Br} {wr : Wr} {rd : Rd} {cb : Cb} {mo : Mo} (h : Rl_C sd cu sp w v wr rd cb mo) (x1 : Int32) (x2 : Int32) (x3 : Int32) (x4 : Int32) : T_C_put Rl_C sd cu sp w v wr rd cb mo x1 x2 x3 x4 := by
  obtain ⟨hw, hr, h⟩ := h
  rcases Q_put h x1 x2 x3 x4 with ⟨r, z', mo', e1, e2, e3, e4⟩ | ⟨e1, q, mo', e2, e3, e4⟩
  · exact Or.inl ⟨r, z', mo', e1, e2, e3, ⟨hw, hr, e4⟩⟩
  · exact Or.inr (⟨e1, q, mo', e2, e3, ⟨hw, hr, e4⟩⟩)
theorem t_C_row {sd : Sd} {cu sp : Sy} {w v : Br} {wr : Wr} {rd : Rd} {cb : Cb} {mo : Mo} (h : Rl_C sd cu sp w v wr rd cb mo) (x1 : Int32) (x2 : Int32) (x3 : Int32) : T_C_row Rl_C sd cu sp w v wr rd cb mo x1 x2 x3 := by
  obtain ⟨hw, hr, h⟩ := h
  rcases Q_row h x1 x2 x3 with ⟨r, z', mo', e1, e2, e3, e4⟩ | ⟨e1, q, mo', e2, e3, e4⟩
  · exact Or.inl ⟨r, z', mo', e1, e2, e3, ⟨hw, hr, e4⟩⟩
  · exact Or.inr (⟨e1, q, mo', e2, e3, ⟨hw, hr, e4⟩⟩)
theorem t_C_at {sd : Sd} {cu sp : Sy} {w v : Br} {wr : Wr} {rd : Rd} {cb : Cb} {mo : Mo} (h : Rl_C sd cu sp w v wr rd cb mo) (x1 : Int32) (x2 : Int32) (x3 : Int32) : T_C_at Rl_C sd cu sp w v wr rd cb mo x1 x2 x3 := by
  obtain ⟨hw, hr, h⟩ := h
  rcases Q_at h x1 x2 x3 with ⟨r, mo', e1, e2, e3, e4⟩ | ⟨e1, q, mo', e2, e3, e4⟩
  · exact Or.inl ⟨r, mo', e1, e2, e3, ⟨hw, hr, e4⟩⟩
  · exact Or.inr (⟨e1, q, mo', e2, e3, ⟨hw, hr, e4⟩⟩)
theorem t_C_refined {sd : Sd} {cu sp : Sy} {w v : Br} {wr : Wr} {rd : Rd} {cb : Cb} {mo : Mo} (h : Rl_C sd cu sp w v wr rd cb mo) (x1 : Int32) (x2 : Int32) (x3 : Int32) (x4 : Int32) : T_C_refined Rl_C sd cu sp w v wr rd cb mo x1 x2 x3 x4 := by
  obtain ⟨hw, hr, h⟩ := h
  rcases Q_refined h x1 x2 x3 x4 with ⟨r, z', mo', e1, e2, e3, e4⟩ | ⟨e1, q, mo', e2, e3, e4⟩ | ⟨e1, q, mo', e2, e3, e4⟩ | ⟨e1, q, mo', e2, e3, e4⟩
  · exact Or.inl ⟨r, z', mo', e1, e2, e3, ⟨hw, hr, e4⟩⟩
  · exact Or.inr (Or.inl ⟨e1, q, mo', e2, e3, ⟨hw, hr, e4⟩⟩)
  · exact Or.inr (Or.inr (Or.inl ⟨e1, q, mo', e2, e3, ⟨hw, hr, e4⟩⟩))
  · exact Or.inr (Or.inr (Or.inr (⟨e1, q, mo', e2, e3, ⟨hw, hr, e4⟩⟩)))
theorem t_C_export {sd : Sd} {cu sp : Sy} {w v : Br} {wr : Wr} {rd : Rd} {cb : Cb} {mo : Mo} (h : Rl_C sd cu sp w v wr rd cb mo) (x1 : Int32) (x2 : Int32) : T_C_export Rl_C sd cu sp w v wr rd cb mo x1 x2 := by
  obtain ⟨hw, hr, h⟩ := h
  rcases Q_export h x1 x2 with ⟨r, z', mo', e1, e2, e3, e4⟩ | ⟨e1, q, mo', e2, e3, e4⟩
  · exact Or.inl ⟨r, z', mo', e1, e2, e3, ⟨hw, hr, e4⟩⟩
  · exact Or.inr (⟨e1, q, mo', e2, e3, ⟨hw, hr, e4⟩⟩)
theorem t_C_byteAt {sd : Sd} {cu sp : Sy} {w v : Br} {wr : Wr} {rd : Rd} {cb : Cb} {mo : Mo} (h : Rl_C sd cu sp w v wr rd cb mo) (x1 : Int32) : T_C_byteAt Rl_C sd cu sp w v wr rd cb mo x1 := by
  obtain ⟨hw, hr, h⟩ := h
  rcases Q_byteAt h x1 with ⟨r, mo', e1, e2, e3, e4⟩ | ⟨e1, q, mo', e2, e3, e4⟩
  · exact Or.inl ⟨r, mo', e1, e2, e3, ⟨hw, hr, e4⟩⟩
  · exact Or.inr (⟨e1, q, mo', e2, e3, ⟨hw, hr, e4⟩⟩)
theorem t_C_feed {sd : Sd} {cu sp : Sy} {w v : Br} {wr : Wr} {rd : Rd} {cb : Cb} {mo : Mo} (h : Rl_C sd cu sp w v wr rd cb mo) (x1 : Int32) : T_C_feed Rl_C sd cu sp w v wr rd cb mo x1 := by
  obtain ⟨hw, hr, h⟩ := h
  rcases Q_feed h x1 with ⟨r, z', mo', e1, e2, e3, e4⟩ | ⟨e1, q, mo', e2, e3, e4⟩ | ⟨e1, q, mo', e2, e3, e4⟩
  · exact Or.inl ⟨r, z', mo', e1, e2, e3, ⟨hw, hr, e4⟩⟩
  · exact Or.inr (Or.inl ⟨e1, q, mo', e2, e3, ⟨hw, hr, e4⟩⟩)
  · exact Or.inr (Or.inr (⟨e1, q, mo', e2, e3, ⟨hw, hr, e4⟩⟩))
theorem t_C_pass {sd : Sd} {cu sp : Sy} {w v : Br} {wr : Wr} {rd : Rd} {cb : Cb} {mo : Mo} (h : Rl_C sd cu sp w v wr rd cb mo) : T_C_pass Rl_C sd cu sp w v wr rd cb mo := by
  obtain ⟨hw, hr, h⟩ := h
  rcases Q_pass h with ⟨r, z', mo', e1, e2, e3, e4⟩ | ⟨e1, q, mo', e2, e3, e4⟩
  · exact Or.inl ⟨r, z', mo', e1, e2, e3, ⟨hw, hr, e4⟩⟩
  · exact Or.inr (⟨e1, q, mo', e2, e3, ⟨hw, hr, e4⟩⟩)
theorem t_C_told {sd : Sd} {cu sp : Sy} {w v : Br} {wr : Wr} {rd : Rd} {cb : Cb} {mo : Mo} (h : Rl_C sd cu sp w v wr rd cb mo) (x1 : Int32) (x2 : Int32) : T_C_told Rl_C sd cu sp w v wr rd cb mo x1 x2 := by
  obtain ⟨hw, hr, h⟩ := h
  rcases Q_told h x1 x2 with ⟨r, mo', e1, e2, e3, e4⟩ | ⟨e1, q, mo', e2, e3, e4⟩ | ⟨e1, q, mo', e2, e3, e4⟩
  · exact Or.inl ⟨r, mo', e1, e2, e3, ⟨hw, hr, e4⟩⟩
  · exact Or.inr (Or.inl ⟨e1, q, mo', e2, e3, ⟨hw, hr, e4⟩⟩)
  · exact Or.inr (Or.inr (⟨e1, q, mo', e2, e3, ⟨hw, hr, e4⟩⟩))
theorem t_C_likeness {sd : Sd} {cu sp : Sy} {w v : Br} {wr : Wr} {rd : Rd} {cb : Cb} {mo : Mo} (h : Rl_C sd cu sp w v wr rd cb mo) (x1 : Int32) (x2 : Int32) : T_C_likeness Rl_C sd cu sp w v wr rd cb mo x1 x2 := by
  obtain ⟨hw, hr, h⟩ := h
  rcases Q_likeness h x1 x2 with ⟨r, mo', e1, e2, e3, e4⟩ | ⟨e1, q, mo', e2, e3, e4⟩
  · exact Or.inl ⟨r, mo', e1, e2, e3, ⟨hw, hr, e4⟩⟩
  · exact Or.inr (⟨e1, q, mo', e2, e3, ⟨hw, hr, e4⟩⟩)
theorem t_C_classes {sd : Sd} {cu sp : Sy} {w v : Br} {wr : Wr} {rd : Rd} {cb : Cb} {mo : Mo} (h : Rl_C sd cu sp w v wr rd cb mo) (x1 : Int32) : T_C_classes Rl_C sd cu sp w v wr rd cb mo x1 := by
  obtain ⟨hw, hr, h⟩ := h
  rcases Q_classes h x1 with ⟨r, z', mo', e1, e2, e3, e4⟩ | ⟨e1, q, mo', e2, e3, e4⟩
  · exact Or.inl ⟨r, z', mo', e1, e2, e3, ⟨hw, hr, e4⟩⟩
  · exact Or.inr (⟨e1, q, mo', e2, e3, ⟨hw, hr, e4⟩⟩)
theorem t_C_cls {sd : Sd} {cu sp : Sy} {w v : Br} {wr : Wr} {rd : Rd} {cb : Cb} {mo : Mo} (h : Rl_C sd cu sp w v wr rd cb mo) (x1 : Int32) : T_C_cls Rl_C sd cu sp w v wr rd cb mo x1 := by
  obtain ⟨hw, hr, h⟩ := h
  rcases Q_cls h x1 with ⟨r, mo', e1, e2, e3, e4⟩ | ⟨e1, q, mo', e2, e3, e4⟩
  · exact Or.inl ⟨r, mo', e1, e2, e3, ⟨hw, hr, e4⟩⟩
  · exact Or.inr (⟨e1, q, mo', e2, e3, ⟨hw, hr, e4⟩⟩)
theorem t_C_count {sd : Sd} {cu sp : Sy} {w v : Br} {wr : Wr} {rd : Rd} {cb : Cb} {mo : Mo} (h : Rl_C sd cu sp w v wr rd cb mo) (x1 : Int32) : T_C_count Rl_C sd cu sp w v wr rd cb mo x1 := by
  obtain ⟨hw, hr, h⟩ := h
  obtain ⟨r, mo', e1, e2, e4⟩ := Q_count h x1
  exact ⟨r, mo', e1, e2, ⟨hw, hr, e4⟩⟩
theorem t_C_clear {sd : Sd} {cu sp : Sy} {w v : Br} {wr : Wr} {rd : Rd} {cb : Cb} {mo : Mo} (h : Rl_C sd cu sp w v wr rd cb mo) : T_C_clear Rl_C sd cu sp w v wr rd cb mo := by
  obtain ⟨hw, hr, h⟩ := h
  obtain ⟨cu', w', v', mo', e1, e2, e3, e4, e5⟩ := Q_clear h
  exact ⟨cu', w', v', mo', e1, e2, e3, e4, ⟨hw, hr, e5⟩⟩
theorem t_C_write {sd : Sd} {cu sp : Sy} {w v : Br} {wr : Wr} {rd : Rd} {cb : Cb} {mo : Mo} (h : Rl_C sd cu sp w v wr rd cb mo) : T_C_write Rl_C sd cu sp w v wr rd cb mo := by
  obtain ⟨hw, hr, h⟩ := h
  obtain ⟨r, wr', b', w', mo', e1, e2, e3, e4⟩ := Q_write_C (wr := wr) (b := cb) h rfl (by rw [hw]; rfl)
  exact ⟨r, wr', b', w', mo', e1, e2, e3.trans hw, hr, e4⟩
