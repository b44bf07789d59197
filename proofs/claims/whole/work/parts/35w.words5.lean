/-! more words -/
theorem q271 : Cond.fieldLink RX11 317 (TX3 6).1 (TX3 6).2.1 (TX3 6).2.2.1 ∈ gtb := tb 271 (by decide +kernel) rfl
theorem q1024 : Cond.methodLink RX11 321 yX9_write ∈ gtb := tb 1024 (by decide +kernel) rfl
theorem q1028 : Cond.constantLong RX9 19 31 ∈ gtb := tb 1028 (by decide +kernel) rfl
theorem q1029 : Cond.methodLink RX9 21 yX9_put_ ∈ gtb := tb 1029 (by decide +kernel) rfl
theorem q1037 : Cond.methodLink RX9 33 yX9_put ∈ gtb := tb 1037 (by decide +kernel) rfl
theorem q1041 : Cond.methodLink RX9 36 yJ0_length_8abf5 ∈ gtb := tb 1041 (by decide +kernel) rfl
theorem q1042 : Cond.methodLink RX9 41 yJ0_charAt_5068e ∈ gtb := tb 1042 (by decide +kernel) rfl
theorem ceX9_put : CE yX9_put cX9_put 3 none RX9 1 := ⟨⟨tb 1039 (by decide +kernel) rfl, tb 19 (by decide +kernel) rfl, tb 118 (by decide +kernel) rfl, tb 1040 (by decide +kernel) rfl⟩, by decide +kernel⟩
theorem ceX9_write : CE yX9_write cX9_write 7 none RX9 3 := ⟨⟨tb 1025 (by decide +kernel) rfl, tb 1026 (by decide +kernel) rfl, tb 118 (by decide +kernel) rfl, tb 1027 (by decide +kernel) rfl⟩, by decide +kernel⟩
theorem ceX11_tag : CE yX11_tag cX11_tag 2 (some .int) RX11 1 := ⟨⟨tb 1016 (by decide +kernel) rfl, tb 1017 (by decide +kernel) rfl, tb 105 (by decide +kernel) rfl, tb 1018 (by decide +kernel) rfl⟩, by decide +kernel⟩
