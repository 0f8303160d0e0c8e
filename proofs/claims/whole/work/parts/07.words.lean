theorem zi1 {w : Cond} (j : Nat) (h : tables_1_1[j]? = some w) (g : goodWord w = true) : w ∈ ztbl := by
  have h0 : w ∈ tables_1_1 := List.mem_of_getElem? h
  have h1 : w ∈ tables_1 := List.mem_append_left _ (h0)
  exact ztbl_of (List.mem_append_right _ h1) g
theorem zi2 {w : Cond} (j : Nat) (h : tables_1_2[j]? = some w) (g : goodWord w = true) : w ∈ ztbl := by
  have h0 : w ∈ tables_1_2 := List.mem_of_getElem? h
  have h1 : w ∈ tables_1 := List.mem_append_right _ (List.mem_append_left _ (h0))
  exact ztbl_of (List.mem_append_right _ h1) g
theorem zi3 {w : Cond} (j : Nat) (h : tables_1_3[j]? = some w) (g : goodWord w = true) : w ∈ ztbl := by
  have h0 : w ∈ tables_1_3 := List.mem_of_getElem? h
  have h1 : w ∈ tables_1 := List.mem_append_right _ (List.mem_append_right _ (List.mem_append_left _ (h0)))
  exact ztbl_of (List.mem_append_right _ h1) g
theorem zi4 {w : Cond} (j : Nat) (h : tables_1_4[j]? = some w) (g : goodWord w = true) : w ∈ ztbl := by
  have h0 : w ∈ tables_1_4 := List.mem_of_getElem? h
  have h1 : w ∈ tables_1 := List.mem_append_right _ (List.mem_append_right _ (List.mem_append_right _ (List.mem_append_left _ (h0))))
  exact ztbl_of (List.mem_append_right _ h1) g
theorem zi5 {w : Cond} (j : Nat) (h : tables_1_5[j]? = some w) (g : goodWord w = true) : w ∈ ztbl := by
  have h0 : w ∈ tables_1_5 := List.mem_of_getElem? h
  have h1 : w ∈ tables_1 := List.mem_append_right _ (List.mem_append_right _ (List.mem_append_right _ (List.mem_append_right _ (List.mem_append_left _ (h0)))))
  exact ztbl_of (List.mem_append_right _ h1) g
theorem zi6 {w : Cond} (j : Nat) (h : tables_1_6[j]? = some w) (g : goodWord w = true) : w ∈ ztbl := by
  have h0 : w ∈ tables_1_6 := List.mem_of_getElem? h
  have h1 : w ∈ tables_1 := List.mem_append_right _ (List.mem_append_right _ (List.mem_append_right _ (List.mem_append_right _ (List.mem_append_right _ (List.mem_append_left _ (h0))))))
  exact ztbl_of (List.mem_append_right _ h1) g
theorem zi7 {w : Cond} (j : Nat) (h : tables_1_7[j]? = some w) (g : goodWord w = true) : w ∈ ztbl := by
  have h0 : w ∈ tables_1_7 := List.mem_of_getElem? h
  have h1 : w ∈ tables_1 := List.mem_append_right _ (List.mem_append_right _ (List.mem_append_right _ (List.mem_append_right _ (List.mem_append_right _ (List.mem_append_right _ (List.mem_append_left _ (h0)))))))
  exact ztbl_of (List.mem_append_right _ h1) g
theorem zi8 {w : Cond} (j : Nat) (h : tables_1_8[j]? = some w) (g : goodWord w = true) : w ∈ ztbl := by
  have h0 : w ∈ tables_1_8 := List.mem_of_getElem? h
  have h1 : w ∈ tables_1 := List.mem_append_right _ (List.mem_append_right _ (List.mem_append_right _ (List.mem_append_right _ (List.mem_append_right _ (List.mem_append_right _ (List.mem_append_right _ (List.mem_append_left _ (h0))))))))
  exact ztbl_of (List.mem_append_right _ h1) g
theorem zi9 {w : Cond} (j : Nat) (h : tables_1_9[j]? = some w) (g : goodWord w = true) : w ∈ ztbl := by
  have h0 : w ∈ tables_1_9 := List.mem_of_getElem? h
  have h1 : w ∈ tables_1 := List.mem_append_right _ (List.mem_append_right _ (List.mem_append_right _ (List.mem_append_right _ (List.mem_append_right _ (List.mem_append_right _ (List.mem_append_right _ (List.mem_append_right _ (h0))))))))
  exact ztbl_of (List.mem_append_right _ h1) g
theorem zj1 {y : MethodName} {n : Nat} (j : Nat) (h : lw_privs_1[j]? = some (y, n)) : Cond.selects y.cls y y ∈ ztbl := by
  have h0 : (y, n) ∈ lw_privs_1 := List.mem_of_getElem? h
  have h1 : (y, n) ∈ lw_privs := List.mem_append_left _ (h0)
  exact ztbl_of (List.mem_append_left _ (List.mem_map.mpr ⟨_, h1, rfl⟩)) rfl
theorem zj2 {y : MethodName} {n : Nat} (j : Nat) (h : lw_privs_2[j]? = some (y, n)) : Cond.selects y.cls y y ∈ ztbl := by
  have h0 : (y, n) ∈ lw_privs_2 := List.mem_of_getElem? h
  have h1 : (y, n) ∈ lw_privs := List.mem_append_right _ (List.mem_append_left _ (h0))
  exact ztbl_of (List.mem_append_left _ (List.mem_map.mpr ⟨_, h1, rfl⟩)) rfl
theorem zj3 {y : MethodName} {n : Nat} (j : Nat) (h : lw_privs_3[j]? = some (y, n)) : Cond.selects y.cls y y ∈ ztbl := by
  have h0 : (y, n) ∈ lw_privs_3 := List.mem_of_getElem? h
  have h1 : (y, n) ∈ lw_privs := List.mem_append_right _ (List.mem_append_right _ (List.mem_append_left _ (h0)))
  exact ztbl_of (List.mem_append_left _ (List.mem_map.mpr ⟨_, h1, rfl⟩)) rfl
theorem zj4 {y : MethodName} {n : Nat} (j : Nat) (h : lw_privs_4[j]? = some (y, n)) : Cond.selects y.cls y y ∈ ztbl := by
  have h0 : (y, n) ∈ lw_privs_4 := List.mem_of_getElem? h
  have h1 : (y, n) ∈ lw_privs := List.mem_append_right _ (List.mem_append_right _ (List.mem_append_right _ (List.mem_append_left _ (h0))))
  exact ztbl_of (List.mem_append_left _ (List.mem_map.mpr ⟨_, h1, rfl⟩)) rfl
theorem zj5 {y : MethodName} {n : Nat} (j : Nat) (h : lw_privs_5[j]? = some (y, n)) : Cond.selects y.cls y y ∈ ztbl := by
  have h0 : (y, n) ∈ lw_privs_5 := List.mem_of_getElem? h
  have h1 : (y, n) ∈ lw_privs := List.mem_append_right _ (List.mem_append_right _ (List.mem_append_right _ (List.mem_append_right _ (List.mem_append_left _ (h0)))))
  exact ztbl_of (List.mem_append_left _ (List.mem_map.mpr ⟨_, h1, rfl⟩)) rfl
theorem zj6 {y : MethodName} {n : Nat} (j : Nat) (h : lw_privs_6[j]? = some (y, n)) : Cond.selects y.cls y y ∈ ztbl := by
  have h0 : (y, n) ∈ lw_privs_6 := List.mem_of_getElem? h
  have h1 : (y, n) ∈ lw_privs := List.mem_append_right _ (List.mem_append_right _ (List.mem_append_right _ (List.mem_append_right _ (List.mem_append_right _ (List.mem_append_left _ (h0))))))
  exact ztbl_of (List.mem_append_left _ (List.mem_map.mpr ⟨_, h1, rfl⟩)) rfl
theorem zj7 {y : MethodName} {n : Nat} (j : Nat) (h : lw_privs_7[j]? = some (y, n)) : Cond.selects y.cls y y ∈ ztbl := by
  have h0 : (y, n) ∈ lw_privs_7 := List.mem_of_getElem? h
  have h1 : (y, n) ∈ lw_privs := List.mem_append_right _ (List.mem_append_right _ (List.mem_append_right _ (List.mem_append_right _ (List.mem_append_right _ (List.mem_append_right _ (List.mem_append_left _ (h0)))))))
  exact ztbl_of (List.mem_append_left _ (List.mem_map.mpr ⟨_, h1, rfl⟩)) rfl
theorem zj8 {y : MethodName} {n : Nat} (j : Nat) (h : lw_privs_8[j]? = some (y, n)) : Cond.selects y.cls y y ∈ ztbl := by
  have h0 : (y, n) ∈ lw_privs_8 := List.mem_of_getElem? h
  have h1 : (y, n) ∈ lw_privs := List.mem_append_right _ (List.mem_append_right _ (List.mem_append_right _ (List.mem_append_right _ (List.mem_append_right _ (List.mem_append_right _ (List.mem_append_right _ (List.mem_append_left _ (h0))))))))
  exact ztbl_of (List.mem_append_left _ (List.mem_map.mpr ⟨_, h1, rfl⟩)) rfl
theorem zj9 {y : MethodName} {n : Nat} (j : Nat) (h : lw_privs_9[j]? = some (y, n)) : Cond.selects y.cls y y ∈ ztbl := by
  have h0 : (y, n) ∈ lw_privs_9 := List.mem_of_getElem? h
  have h1 : (y, n) ∈ lw_privs := List.mem_append_right _ (List.mem_append_right _ (List.mem_append_right _ (List.mem_append_right _ (List.mem_append_right _ (List.mem_append_right _ (List.mem_append_right _ (List.mem_append_right _ (h0))))))))
  exact ztbl_of (List.mem_append_left _ (List.mem_map.mpr ⟨_, h1, rfl⟩)) rfl
theorem zcw_X0 : ∀ w ∈ u_ws RX0 TX0 4, w ∈ ztbl := by
  intro w hw
  obtain ⟨k, hk, rfl⟩ := List.mem_map.mp hw
  have hk := List.mem_range.mp hk
  match k, hk with
  | 0, _ => exact (zi2 84 (by decide +kernel) rfl)
  | 1, _ => exact (zi2 86 (by decide +kernel) rfl)
  | 2, _ => exact (zi2 88 (by decide +kernel) rfl)
  | 3, _ => exact (zi2 90 (by decide +kernel) rfl)
  | k + 4, hk => exact absurd hk (by omega)
theorem zcw_X1 : ∀ w ∈ u_ws RX1 TX1 7, w ∈ ztbl := by
  intro w hw
  obtain ⟨k, hk, rfl⟩ := List.mem_map.mp hw
  have hk := List.mem_range.mp hk
  match k, hk with
  | 0, _ => exact (zi1 187 (by decide +kernel) rfl)
  | 1, _ => exact (zi1 189 (by decide +kernel) rfl)
  | 2, _ => exact (zi1 191 (by decide +kernel) rfl)
  | 3, _ => exact (zi1 193 (by decide +kernel) rfl)
  | 4, _ => exact (zi1 195 (by decide +kernel) rfl)
  | 5, _ => exact (zi1 197 (by decide +kernel) rfl)
  | 6, _ => exact (zi1 199 (by decide +kernel) rfl)
  | k + 7, hk => exact absurd hk (by omega)
theorem zcw_X2 : ∀ w ∈ u_ws RX2 TX2 5, w ∈ ztbl := by
  intro w hw
  obtain ⟨k, hk, rfl⟩ := List.mem_map.mp hw
  have hk := List.mem_range.mp hk
  match k, hk with
  | 0, _ => exact (zi1 151 (by decide +kernel) rfl)
  | 1, _ => exact (zi1 153 (by decide +kernel) rfl)
  | 2, _ => exact (zi1 155 (by decide +kernel) rfl)
  | 3, _ => exact (zi1 157 (by decide +kernel) rfl)
  | 4, _ => exact (zi1 159 (by decide +kernel) rfl)
  | k + 5, hk => exact absurd hk (by omega)
theorem zcw_X3 : ∀ w ∈ u_ws RX3 TX3 5, w ∈ ztbl := by
  intro w hw
  obtain ⟨k, hk, rfl⟩ := List.mem_map.mp hw
  have hk := List.mem_range.mp hk
  match k, hk with
  | 0, _ => exact (zi2 61 (by decide +kernel) rfl)
  | 1, _ => exact (zi2 63 (by decide +kernel) rfl)
  | 2, _ => exact (zi2 65 (by decide +kernel) rfl)
  | 3, _ => exact (zi2 67 (by decide +kernel) rfl)
  | 4, _ => exact (zi2 69 (by decide +kernel) rfl)
  | k + 5, hk => exact absurd hk (by omega)
theorem zcw_X4 : ∀ w ∈ u_ws RX4 TX4 14, w ∈ ztbl := by
  intro w hw
  obtain ⟨k, hk, rfl⟩ := List.mem_map.mp hw
  have hk := List.mem_range.mp hk
  match k, hk with
  | 0, _ => exact (zi2 16 (by decide +kernel) rfl)
  | 1, _ => exact (zi2 18 (by decide +kernel) rfl)
  | 2, _ => exact (zi2 20 (by decide +kernel) rfl)
  | 3, _ => exact (zi2 22 (by decide +kernel) rfl)
  | 4, _ => exact (zi2 24 (by decide +kernel) rfl)
  | 5, _ => exact (zi2 26 (by decide +kernel) rfl)
  | 6, _ => exact (zi2 28 (by decide +kernel) rfl)
  | 7, _ => exact (zi2 30 (by decide +kernel) rfl)
  | 8, _ => exact (zi2 32 (by decide +kernel) rfl)
  | 9, _ => exact (zi2 34 (by decide +kernel) rfl)
  | 10, _ => exact (zi2 36 (by decide +kernel) rfl)
  | 11, _ => exact (zi2 38 (by decide +kernel) rfl)
  | 12, _ => exact (zi2 40 (by decide +kernel) rfl)
  | 13, _ => exact (zi2 42 (by decide +kernel) rfl)
  | k + 14, hk => exact absurd hk (by omega)
theorem zcw_X5 : ∀ w ∈ u_ws RX5 TX5 2, w ∈ ztbl := by
  intro w hw
  obtain ⟨k, hk, rfl⟩ := List.mem_map.mp hw
  have hk := List.mem_range.mp hk
  match k, hk with
  | 0, _ => exact (zi2 101 (by decide +kernel) rfl)
  | 1, _ => exact (zi2 103 (by decide +kernel) rfl)
  | k + 2, hk => exact absurd hk (by omega)
theorem zcw_X6 : ∀ w ∈ u_ws RX6 TX6 5, w ∈ ztbl := by
  intro w hw
  obtain ⟨k, hk, rfl⟩ := List.mem_map.mp hw
  have hk := List.mem_range.mp hk
  match k, hk with
  | 0, _ => exact (zi2 148 (by decide +kernel) rfl)
  | 1, _ => exact (zi2 150 (by decide +kernel) rfl)
  | 2, _ => exact (zi2 152 (by decide +kernel) rfl)
  | 3, _ => exact (zi2 154 (by decide +kernel) rfl)
  | 4, _ => exact (zi2 156 (by decide +kernel) rfl)
  | k + 5, hk => exact absurd hk (by omega)
theorem zcw_X7 : ∀ w ∈ u_ws RX7 TX7 14, w ∈ ztbl := by
  intro w hw
  obtain ⟨k, hk, rfl⟩ := List.mem_map.mp hw
  have hk := List.mem_range.mp hk
  match k, hk with
  | 0, _ => exact (zi1 101 (by decide +kernel) rfl)
  | 1, _ => exact (zi1 103 (by decide +kernel) rfl)
  | 2, _ => exact (zi1 105 (by decide +kernel) rfl)
  | 3, _ => exact (zi1 107 (by decide +kernel) rfl)
  | 4, _ => exact (zi1 109 (by decide +kernel) rfl)
  | 5, _ => exact (zi1 111 (by decide +kernel) rfl)
  | 6, _ => exact (zi1 113 (by decide +kernel) rfl)
  | 7, _ => exact (zi1 115 (by decide +kernel) rfl)
  | 8, _ => exact (zi1 117 (by decide +kernel) rfl)
  | 9, _ => exact (zi1 119 (by decide +kernel) rfl)
  | 10, _ => exact (zi1 121 (by decide +kernel) rfl)
  | 11, _ => exact (zi1 123 (by decide +kernel) rfl)
  | 12, _ => exact (zi1 125 (by decide +kernel) rfl)
  | 13, _ => exact (zi1 127 (by decide +kernel) rfl)
  | k + 14, hk => exact absurd hk (by omega)
theorem zcw_X8 : ∀ w ∈ u_ws RX8 TX8 6, w ∈ ztbl := by
  intro w hw
  obtain ⟨k, hk, rfl⟩ := List.mem_map.mp hw
  have hk := List.mem_range.mp hk
  match k, hk with
  | 0, _ => exact (zi2 123 (by decide +kernel) rfl)
  | 1, _ => exact (zi2 125 (by decide +kernel) rfl)
  | 2, _ => exact (zi2 127 (by decide +kernel) rfl)
  | 3, _ => exact (zi2 129 (by decide +kernel) rfl)
  | 4, _ => exact (zi2 131 (by decide +kernel) rfl)
  | 5, _ => exact (zi2 133 (by decide +kernel) rfl)
  | k + 6, hk => exact absurd hk (by omega)
theorem zcw_X9 : ∀ w ∈ u_ws RX9 TX9 8, w ∈ ztbl := by
  intro w hw
  obtain ⟨k, hk, rfl⟩ := List.mem_map.mp hw
  have hk := List.mem_range.mp hk
  match k, hk with
  | 0, _ => exact (zi2 175 (by decide +kernel) rfl)
  | 1, _ => exact (zi2 177 (by decide +kernel) rfl)
  | 2, _ => exact (zi2 179 (by decide +kernel) rfl)
  | 3, _ => exact (zi2 181 (by decide +kernel) rfl)
  | 4, _ => exact (zi2 183 (by decide +kernel) rfl)
  | 5, _ => exact (zi2 185 (by decide +kernel) rfl)
  | 6, _ => exact (zi2 187 (by decide +kernel) rfl)
  | 7, _ => exact (zi2 189 (by decide +kernel) rfl)
  | k + 8, hk => exact absurd hk (by omega)
theorem zcw_X10 : ∀ w ∈ u_ws RX10 TX10 1, w ∈ ztbl := by
  intro w hw
  obtain ⟨k, hk, rfl⟩ := List.mem_map.mp hw
  have hk := List.mem_range.mp hk
  match k, hk with
  | 0, _ => exact (zi2 199 (by decide +kernel) rfl)
  | k + 1, hk => exact absurd hk (by omega)
theorem zcw_X11 : ∀ w ∈ u_ws RX11 TX11 16, w ∈ ztbl := by
  intro w hw
  obtain ⟨k, hk, rfl⟩ := List.mem_map.mp hw
  have hk := List.mem_range.mp hk
  match k, hk with
  | 0, _ => exact (zi3 1 (by decide +kernel) rfl)
  | 1, _ => exact (zi3 3 (by decide +kernel) rfl)
  | 2, _ => exact (zi3 5 (by decide +kernel) rfl)
  | 3, _ => exact (zi3 7 (by decide +kernel) rfl)
  | 4, _ => exact (zi3 9 (by decide +kernel) rfl)
  | 5, _ => exact (zi3 11 (by decide +kernel) rfl)
  | 6, _ => exact (zi3 13 (by decide +kernel) rfl)
  | 7, _ => exact (zi3 15 (by decide +kernel) rfl)
  | 8, _ => exact (zi3 17 (by decide +kernel) rfl)
  | 9, _ => exact (zi3 19 (by decide +kernel) rfl)
  | 10, _ => exact (zi3 21 (by decide +kernel) rfl)
  | 11, _ => exact (zi3 23 (by decide +kernel) rfl)
  | 12, _ => exact (zi3 25 (by decide +kernel) rfl)
  | 13, _ => exact (zi3 27 (by decide +kernel) rfl)
  | 14, _ => exact (zi3 29 (by decide +kernel) rfl)
  | 15, _ => exact (zi3 31 (by decide +kernel) rfl)
  | k + 16, hk => exact absurd hk (by omega)
theorem zcw_X12 : ∀ w ∈ u_ws RX12 TX12 79, w ∈ ztbl := by
  intro w hw
  obtain ⟨k, hk, rfl⟩ := List.mem_map.mp hw
  have hk := List.mem_range.mp hk
  match k, hk with
  | 0, _ => exact (zi6 75 (by decide +kernel) rfl)
  | 1, _ => exact (zi6 77 (by decide +kernel) rfl)
  | 2, _ => exact (zi6 79 (by decide +kernel) rfl)
  | 3, _ => exact (zi6 81 (by decide +kernel) rfl)
  | 4, _ => exact (zi6 83 (by decide +kernel) rfl)
  | 5, _ => exact (zi6 85 (by decide +kernel) rfl)
  | 6, _ => exact (zi6 87 (by decide +kernel) rfl)
  | 7, _ => exact (zi6 89 (by decide +kernel) rfl)
  | 8, _ => exact (zi6 91 (by decide +kernel) rfl)
  | 9, _ => exact (zi6 93 (by decide +kernel) rfl)
  | 10, _ => exact (zi6 95 (by decide +kernel) rfl)
  | 11, _ => exact (zi6 97 (by decide +kernel) rfl)
  | 12, _ => exact (zi6 99 (by decide +kernel) rfl)
  | 13, _ => exact (zi6 101 (by decide +kernel) rfl)
  | 14, _ => exact (zi6 103 (by decide +kernel) rfl)
  | 15, _ => exact (zi6 105 (by decide +kernel) rfl)
  | 16, _ => exact (zi6 107 (by decide +kernel) rfl)
  | 17, _ => exact (zi6 109 (by decide +kernel) rfl)
  | 18, _ => exact (zi6 111 (by decide +kernel) rfl)
  | 19, _ => exact (zi6 113 (by decide +kernel) rfl)
  | 20, _ => exact (zi6 115 (by decide +kernel) rfl)
  | 21, _ => exact (zi6 117 (by decide +kernel) rfl)
  | 22, _ => exact (zi6 119 (by decide +kernel) rfl)
  | 23, _ => exact (zi6 121 (by decide +kernel) rfl)
  | 24, _ => exact (zi6 123 (by decide +kernel) rfl)
  | 25, _ => exact (zi6 125 (by decide +kernel) rfl)
  | 26, _ => exact (zi6 127 (by decide +kernel) rfl)
  | 27, _ => exact (zi6 129 (by decide +kernel) rfl)
  | 28, _ => exact (zi6 131 (by decide +kernel) rfl)
  | 29, _ => exact (zi6 133 (by decide +kernel) rfl)
  | 30, _ => exact (zi6 135 (by decide +kernel) rfl)
  | 31, _ => exact (zi6 137 (by decide +kernel) rfl)
  | 32, _ => exact (zi6 139 (by decide +kernel) rfl)
  | 33, _ => exact (zi6 141 (by decide +kernel) rfl)
  | 34, _ => exact (zi6 143 (by decide +kernel) rfl)
  | 35, _ => exact (zi6 145 (by decide +kernel) rfl)
  | 36, _ => exact (zi6 147 (by decide +kernel) rfl)
  | 37, _ => exact (zi6 149 (by decide +kernel) rfl)
  | 38, _ => exact (zi6 151 (by decide +kernel) rfl)
  | 39, _ => exact (zi6 153 (by decide +kernel) rfl)
  | 40, _ => exact (zi6 155 (by decide +kernel) rfl)
  | 41, _ => exact (zi6 157 (by decide +kernel) rfl)
  | 42, _ => exact (zi6 159 (by decide +kernel) rfl)
  | 43, _ => exact (zi6 161 (by decide +kernel) rfl)
  | 44, _ => exact (zi6 163 (by decide +kernel) rfl)
  | 45, _ => exact (zi6 165 (by decide +kernel) rfl)
  | 46, _ => exact (zi6 167 (by decide +kernel) rfl)
  | 47, _ => exact (zi6 169 (by decide +kernel) rfl)
  | 48, _ => exact (zi6 171 (by decide +kernel) rfl)
  | 49, _ => exact (zi6 173 (by decide +kernel) rfl)
  | 50, _ => exact (zi6 175 (by decide +kernel) rfl)
  | 51, _ => exact (zi6 177 (by decide +kernel) rfl)
  | 52, _ => exact (zi6 179 (by decide +kernel) rfl)
  | 53, _ => exact (zi6 181 (by decide +kernel) rfl)
  | 54, _ => exact (zi6 183 (by decide +kernel) rfl)
  | 55, _ => exact (zi6 185 (by decide +kernel) rfl)
  | 56, _ => exact (zi6 187 (by decide +kernel) rfl)
  | 57, _ => exact (zi6 189 (by decide +kernel) rfl)
  | 58, _ => exact (zi6 191 (by decide +kernel) rfl)
  | 59, _ => exact (zi6 193 (by decide +kernel) rfl)
  | 60, _ => exact (zi6 195 (by decide +kernel) rfl)
  | 61, _ => exact (zi6 197 (by decide +kernel) rfl)
  | 62, _ => exact (zi6 199 (by decide +kernel) rfl)
  | 63, _ => exact (zi6 201 (by decide +kernel) rfl)
  | 64, _ => exact (zi6 203 (by decide +kernel) rfl)
  | 65, _ => exact (zi6 205 (by decide +kernel) rfl)
  | 66, _ => exact (zi6 207 (by decide +kernel) rfl)
  | 67, _ => exact (zi6 209 (by decide +kernel) rfl)
  | 68, _ => exact (zi6 211 (by decide +kernel) rfl)
  | 69, _ => exact (zi6 213 (by decide +kernel) rfl)
  | 70, _ => exact (zi6 215 (by decide +kernel) rfl)
  | 71, _ => exact (zi6 217 (by decide +kernel) rfl)
  | 72, _ => exact (zi6 219 (by decide +kernel) rfl)
  | 73, _ => exact (zi6 221 (by decide +kernel) rfl)
  | 74, _ => exact (zi6 223 (by decide +kernel) rfl)
  | 75, _ => exact (zi6 225 (by decide +kernel) rfl)
  | 76, _ => exact (zi6 227 (by decide +kernel) rfl)
  | 77, _ => exact (zi6 229 (by decide +kernel) rfl)
  | 78, _ => exact (zi6 231 (by decide +kernel) rfl)
  | k + 79, hk => exact absurd hk (by omega)
theorem zf_X11_9 : zFl RX11 9 11 0 := ⟨RX11, TX11, 16, rfl, by decide, zcw_X11, (zi2 225 (by decide +kernel) rfl)⟩
theorem zf_X11_18 : zFl RX11 18 11 2 := ⟨RX11, TX11, 16, rfl, by decide, zcw_X11, (zi2 227 (by decide +kernel) rfl)⟩
theorem zf_X11_25 : zFl RX11 25 11 3 := ⟨RX11, TX11, 16, rfl, by decide, zcw_X11, (zi2 228 (by decide +kernel) rfl)⟩
theorem zf_X11_29 : zFl RX11 29 11 4 := ⟨RX11, TX11, 16, rfl, by decide, zcw_X11, (zi2 229 (by decide +kernel) rfl)⟩
theorem zf_X11_35 : zFl RX11 35 11 5 := ⟨RX11, TX11, 16, rfl, by decide, zcw_X11, (zi2 230 (by decide +kernel) rfl)⟩
theorem zf_X11_39 : zFl RX11 39 11 6 := ⟨RX11, TX11, 16, rfl, by decide, zcw_X11, (zi2 231 (by decide +kernel) rfl)⟩
theorem zf_X11_45 : zFl RX11 45 11 7 := ⟨RX11, TX11, 16, rfl, by decide, zcw_X11, (zi2 232 (by decide +kernel) rfl)⟩
theorem zf_X11_52 : zFl RX11 52 11 8 := ⟨RX11, TX11, 16, rfl, by decide, zcw_X11, (zi2 233 (by decide +kernel) rfl)⟩
theorem zf_X11_59 : zFl RX11 59 11 9 := ⟨RX11, TX11, 16, rfl, by decide, zcw_X11, (zi2 234 (by decide +kernel) rfl)⟩
theorem zf_X11_66 : zFl RX11 66 11 10 := ⟨RX11, TX11, 16, rfl, by decide, zcw_X11, (zi2 235 (by decide +kernel) rfl)⟩
theorem zf_X11_73 : zFl RX11 73 11 11 := ⟨RX11, TX11, 16, rfl, by decide, zcw_X11, (zi2 236 (by decide +kernel) rfl)⟩
theorem zf_X11_80 : zFl RX11 80 11 12 := ⟨RX11, TX11, 16, rfl, by decide, zcw_X11, (zi2 237 (by decide +kernel) rfl)⟩
theorem zf_X11_84 : zFl RX11 84 11 13 := ⟨RX11, TX11, 16, rfl, by decide, zcw_X11, (zi2 238 (by decide +kernel) rfl)⟩
theorem zf_X11_88 : zFl RX11 88 11 14 := ⟨RX11, TX11, 16, rfl, by decide, zcw_X11, (zi2 239 (by decide +kernel) rfl)⟩
theorem zf_X11_99 : zFl RX11 99 11 1 := ⟨RX11, TX11, 16, rfl, by decide, zcw_X11, (zi2 226 (by decide +kernel) rfl)⟩
theorem zp_X11_99 : zFp RX11 99 11 1 .int := ⟨RX11, TX11, 16, tyX11, rfl, by decide, zcw_X11, (zi2 226 (by decide +kernel) rfl), tyX11_ok, nmX11, rfl, by decide +kernel⟩
theorem zf_X11_115 : zFl RX11 115 11 15 := ⟨RX11, TX11, 16, rfl, by decide, zcw_X11, (zi3 0 (by decide +kernel) rfl)⟩
theorem zp_X11_115 : zFp RX11 115 11 15 .int := ⟨RX11, TX11, 16, tyX11, rfl, by decide, zcw_X11, (zi3 0 (by decide +kernel) rfl), tyX11_ok, nmX11, rfl, by decide +kernel⟩
theorem zf_X11_118 : zFl RX11 118 3 0 := ⟨RX3, TX3, 5, rfl, by decide, zcw_X3, (zi2 52 (by decide +kernel) rfl)⟩
theorem zp_X11_118 : zFp RX11 118 3 0 .int := ⟨RX3, TX3, 5, tyX3, rfl, by decide, zcw_X3, (zi2 52 (by decide +kernel) rfl), tyX3_ok, nmX3, rfl, by decide +kernel⟩
theorem zf_X11_121 : zFl RX11 121 7 0 := ⟨RX7, TX7, 14, rfl, by decide, zcw_X7, (zi1 86 (by decide +kernel) rfl)⟩
theorem zp_X11_121 : zFp RX11 121 7 0 .int := ⟨RX7, TX7, 14, tyX7, rfl, by decide, zcw_X7, (zi1 86 (by decide +kernel) rfl), tyX7_ok, nmX7, rfl, by decide +kernel⟩
theorem zf_X11_124 : zFl RX11 124 7 1 := ⟨RX7, TX7, 14, rfl, by decide, zcw_X7, (zi1 88 (by decide +kernel) rfl)⟩
theorem zp_X11_124 : zFp RX11 124 7 1 .int := ⟨RX7, TX7, 14, tyX7, rfl, by decide, zcw_X7, (zi1 88 (by decide +kernel) rfl), tyX7_ok, nmX7, rfl, by decide +kernel⟩
theorem zf_X11_131 : zFl RX11 131 4 13 := ⟨RX4, TX4, 14, rfl, by decide, zcw_X4, (zi2 14 (by decide +kernel) rfl)⟩
theorem zf_X11_135 : zFl RX11 135 3 3 := ⟨RX3, TX3, 5, rfl, by decide, zcw_X3, (zi2 58 (by decide +kernel) rfl)⟩
theorem zf_X11_138 : zFl RX11 138 3 4 := ⟨RX3, TX3, 5, rfl, by decide, zcw_X3, (zi2 60 (by decide +kernel) rfl)⟩
theorem zf_X11_141 : zFl RX11 141 1 0 := ⟨RX1, TX1, 7, rfl, by decide, zcw_X1, (zi1 170 (by decide +kernel) rfl)⟩
theorem zf_X11_146 : zFl RX11 146 1 1 := ⟨RX1, TX1, 7, rfl, by decide, zcw_X1, (zi1 174 (by decide +kernel) rfl)⟩
theorem zf_X11_149 : zFl RX11 149 1 2 := ⟨RX1, TX1, 7, rfl, by decide, zcw_X1, (zi1 177 (by decide +kernel) rfl)⟩
theorem zf_X11_152 : zFl RX11 152 1 3 := ⟨RX1, TX1, 7, rfl, by decide, zcw_X1, (zi1 179 (by decide +kernel) rfl)⟩
theorem zf_X11_155 : zFl RX11 155 1 4 := ⟨RX1, TX1, 7, rfl, by decide, zcw_X1, (zi1 182 (by decide +kernel) rfl)⟩
theorem zf_X11_158 : zFl RX11 158 1 5 := ⟨RX1, TX1, 7, rfl, by decide, zcw_X1, (zi1 185 (by decide +kernel) rfl)⟩
theorem zf_X11_205 : zFl RX11 205 4 5 := ⟨RX4, TX4, 14, rfl, by decide, zcw_X4, (zi1 229 (by decide +kernel) rfl)⟩
theorem zf_X11_223 : zFl RX11 223 3 1 := ⟨RX3, TX3, 5, rfl, by decide, zcw_X3, (zi2 54 (by decide +kernel) rfl)⟩
theorem zp_X11_223 : zFp RX11 223 3 1 .int := ⟨RX3, TX3, 5, tyX3, rfl, by decide, zcw_X3, (zi2 54 (by decide +kernel) rfl), tyX3_ok, nmX3, rfl, by decide +kernel⟩
theorem zf_X11_254 : zFl RX11 254 4 0 := ⟨RX4, TX4, 14, rfl, by decide, zcw_X4, (zi1 213 (by decide +kernel) rfl)⟩
theorem zp_X11_254 : zFp RX11 254 4 0 .int := ⟨RX4, TX4, 14, tyX4, rfl, by decide, zcw_X4, (zi1 213 (by decide +kernel) rfl), tyX4_ok, nmX4, rfl, by decide +kernel⟩
theorem zf_X11_288 : zFl RX11 288 4 3 := ⟨RX4, TX4, 14, rfl, by decide, zcw_X4, (zi1 223 (by decide +kernel) rfl)⟩
theorem zp_X11_288 : zFp RX11 288 4 3 .int := ⟨RX4, TX4, 14, tyX4, rfl, by decide, zcw_X4, (zi1 223 (by decide +kernel) rfl), tyX4_ok, nmX4, rfl, by decide +kernel⟩
theorem zf_X11_314 : zFl RX11 314 8 1 := ⟨RX8, TX8, 6, rfl, by decide, zcw_X8, (zi2 116 (by decide +kernel) rfl)⟩
theorem zp_X11_314 : zFp RX11 314 8 1 .int := ⟨RX8, TX8, 6, tyX8, rfl, by decide, zcw_X8, (zi2 116 (by decide +kernel) rfl), tyX8_ok, nmX8, rfl, by decide +kernel⟩
theorem zf_X11_322 : zFl RX11 322 6 0 := ⟨RX6, TX6, 5, rfl, by decide, zcw_X6, (zi2 143 (by decide +kernel) rfl)⟩
theorem zp_X11_322 : zFp RX11 322 6 0 .int := ⟨RX6, TX6, 5, tyX6, rfl, by decide, zcw_X6, (zi2 143 (by decide +kernel) rfl), tyX6_ok, nmX6, rfl, by decide +kernel⟩
theorem zf_X11_343 : zFl RX11 343 4 1 := ⟨RX4, TX4, 14, rfl, by decide, zcw_X4, (zi1 216 (by decide +kernel) rfl)⟩
theorem zp_X11_343 : zFp RX11 343 4 1 .int := ⟨RX4, TX4, 14, tyX4, rfl, by decide, zcw_X4, (zi1 216 (by decide +kernel) rfl), tyX4_ok, nmX4, rfl, by decide +kernel⟩
theorem zf_X11_346 : zFl RX11 346 4 2 := ⟨RX4, TX4, 14, rfl, by decide, zcw_X4, (zi1 219 (by decide +kernel) rfl)⟩
theorem zp_X11_346 : zFp RX11 346 4 2 .int := ⟨RX4, TX4, 14, tyX4, rfl, by decide, zcw_X4, (zi1 219 (by decide +kernel) rfl), tyX4_ok, nmX4, rfl, by decide +kernel⟩
theorem zf_X11_349 : zFl RX11 349 3 2 := ⟨RX3, TX3, 5, rfl, by decide, zcw_X3, (zi2 56 (by decide +kernel) rfl)⟩
theorem zp_X11_349 : zFp RX11 349 3 2 .int := ⟨RX3, TX3, 5, tyX3, rfl, by decide, zcw_X3, (zi2 56 (by decide +kernel) rfl), tyX3_ok, nmX3, rfl, by decide +kernel⟩
theorem zf_X11_355 : zFl RX11 355 0 0 := ⟨RX0, TX0, 4, rfl, by decide, zcw_X0, (zi2 79 (by decide +kernel) rfl)⟩
theorem zp_X11_355 : zFp RX11 355 0 0 .int := ⟨RX0, TX0, 4, tyX0, rfl, by decide, zcw_X0, (zi2 79 (by decide +kernel) rfl), tyX0_ok, nmX0, rfl, by decide +kernel⟩
theorem zf_X11_358 : zFl RX11 358 0 1 := ⟨RX0, TX0, 4, rfl, by decide, zcw_X0, (zi2 81 (by decide +kernel) rfl)⟩
theorem zp_X11_358 : zFp RX11 358 0 1 .int := ⟨RX0, TX0, 4, tyX0, rfl, by decide, zcw_X0, (zi2 81 (by decide +kernel) rfl), tyX0_ok, nmX0, rfl, by decide +kernel⟩
theorem zf_X11_361 : zFl RX11 361 8 0 := ⟨RX8, TX8, 6, rfl, by decide, zcw_X8, (zi2 114 (by decide +kernel) rfl)⟩
theorem zp_X11_361 : zFp RX11 361 8 0 .int := ⟨RX8, TX8, 6, tyX8, rfl, by decide, zcw_X8, (zi2 114 (by decide +kernel) rfl), tyX8_ok, nmX8, rfl, by decide +kernel⟩
theorem zf_X11_362 : zFl RX11 362 4 12 := ⟨RX4, TX4, 14, rfl, by decide, zcw_X4, (zi2 9 (by decide +kernel) rfl)⟩
theorem zf_X11_366 : zFl RX11 366 2 0 := ⟨RX2, TX2, 5, rfl, by decide, zcw_X2, (zi1 146 (by decide +kernel) rfl)⟩
theorem zp_X11_366 : zFp RX11 366 2 0 .int := ⟨RX2, TX2, 5, tyX2, rfl, by decide, zcw_X2, (zi1 146 (by decide +kernel) rfl), tyX2_ok, nmX2, rfl, by decide +kernel⟩
theorem zf_X0_13 : zFl RX0 13 0 3 := ⟨RX0, TX0, 4, rfl, by decide, zcw_X0, (zi2 83 (by decide +kernel) rfl)⟩
theorem zf_X0_17 : zFl RX0 17 0 2 := ⟨RX0, TX0, 4, rfl, by decide, zcw_X0, (zi2 82 (by decide +kernel) rfl)⟩
theorem zp_X0_17 : zFp RX0 17 0 2 .int := ⟨RX0, TX0, 4, tyX0, rfl, by decide, zcw_X0, (zi2 82 (by decide +kernel) rfl), tyX0_ok, nmX0, rfl, by decide +kernel⟩
theorem zf_X0_21 : zFl RX0 21 0 0 := ⟨RX0, TX0, 4, rfl, by decide, zcw_X0, (zi2 78 (by decide +kernel) rfl)⟩
theorem zp_X0_21 : zFp RX0 21 0 0 .int := ⟨RX0, TX0, 4, tyX0, rfl, by decide, zcw_X0, (zi2 78 (by decide +kernel) rfl), tyX0_ok, nmX0, rfl, by decide +kernel⟩
theorem zf_X0_24 : zFl RX0 24 0 1 := ⟨RX0, TX0, 4, rfl, by decide, zcw_X0, (zi2 80 (by decide +kernel) rfl)⟩
theorem zp_X0_24 : zFp RX0 24 0 1 .int := ⟨RX0, TX0, 4, tyX0, rfl, by decide, zcw_X0, (zi2 80 (by decide +kernel) rfl), tyX0_ok, nmX0, rfl, by decide +kernel⟩
theorem zf_X1_9 : zFl RX1 9 1 0 := ⟨RX1, TX1, 7, rfl, by decide, zcw_X1, (zi1 169 (by decide +kernel) rfl)⟩
theorem zf_X1_15 : zFl RX1 15 1 1 := ⟨RX1, TX1, 7, rfl, by decide, zcw_X1, (zi1 172 (by decide +kernel) rfl)⟩
theorem zf_X1_18 : zFl RX1 18 1 2 := ⟨RX1, TX1, 7, rfl, by decide, zcw_X1, (zi1 176 (by decide +kernel) rfl)⟩
theorem zf_X1_21 : zFl RX1 21 1 3 := ⟨RX1, TX1, 7, rfl, by decide, zcw_X1, (zi1 178 (by decide +kernel) rfl)⟩
theorem zf_X1_24 : zFl RX1 24 1 4 := ⟨RX1, TX1, 7, rfl, by decide, zcw_X1, (zi1 180 (by decide +kernel) rfl)⟩
theorem zf_X1_27 : zFl RX1 27 1 5 := ⟨RX1, TX1, 7, rfl, by decide, zcw_X1, (zi1 183 (by decide +kernel) rfl)⟩
theorem zf_X1_30 : zFl RX1 30 1 6 := ⟨RX1, TX1, 7, rfl, by decide, zcw_X1, (zi1 186 (by decide +kernel) rfl)⟩
theorem zf_X2_9 : zFl RX2 9 2 2 := ⟨RX2, TX2, 5, rfl, by decide, zcw_X2, (zi1 148 (by decide +kernel) rfl)⟩
theorem zf_X2_13 : zFl RX2 13 2 3 := ⟨RX2, TX2, 5, rfl, by decide, zcw_X2, (zi1 149 (by decide +kernel) rfl)⟩
theorem zf_X2_16 : zFl RX2 16 2 4 := ⟨RX2, TX2, 5, rfl, by decide, zcw_X2, (zi1 150 (by decide +kernel) rfl)⟩
theorem zf_X2_19 : zFl RX2 19 2 0 := ⟨RX2, TX2, 5, rfl, by decide, zcw_X2, (zi1 144 (by decide +kernel) rfl)⟩
theorem zp_X2_19 : zFp RX2 19 2 0 .int := ⟨RX2, TX2, 5, tyX2, rfl, by decide, zcw_X2, (zi1 144 (by decide +kernel) rfl), tyX2_ok, nmX2, rfl, by decide +kernel⟩
theorem zf_X2_23 : zFl RX2 23 2 1 := ⟨RX2, TX2, 5, rfl, by decide, zcw_X2, (zi1 147 (by decide +kernel) rfl)⟩
theorem zp_X2_23 : zFp RX2 23 2 1 .int := ⟨RX2, TX2, 5, tyX2, rfl, by decide, zcw_X2, (zi1 147 (by decide +kernel) rfl), tyX2_ok, nmX2, rfl, by decide +kernel⟩
theorem zf_X3_9 : zFl RX3 9 3 3 := ⟨RX3, TX3, 5, rfl, by decide, zcw_X3, (zi2 57 (by decide +kernel) rfl)⟩
theorem zf_X3_15 : zFl RX3 15 3 4 := ⟨RX3, TX3, 5, rfl, by decide, zcw_X3, (zi2 59 (by decide +kernel) rfl)⟩
theorem zf_X3_18 : zFl RX3 18 4 4 := ⟨RX4, TX4, 14, rfl, by decide, zcw_X4, (zi1 224 (by decide +kernel) rfl)⟩
theorem zp_X3_18 : zFp RX3 18 4 4 .int := ⟨RX4, TX4, 14, tyX4, rfl, by decide, zcw_X4, (zi1 224 (by decide +kernel) rfl), tyX4_ok, nmX4, rfl, by decide +kernel⟩
theorem zf_X3_24 : zFl RX3 24 3 0 := ⟨RX3, TX3, 5, rfl, by decide, zcw_X3, (zi2 51 (by decide +kernel) rfl)⟩
theorem zp_X3_24 : zFp RX3 24 3 0 .int := ⟨RX3, TX3, 5, tyX3, rfl, by decide, zcw_X3, (zi2 51 (by decide +kernel) rfl), tyX3_ok, nmX3, rfl, by decide +kernel⟩
theorem zf_X3_27 : zFl RX3 27 3 1 := ⟨RX3, TX3, 5, rfl, by decide, zcw_X3, (zi2 53 (by decide +kernel) rfl)⟩
theorem zp_X3_27 : zFp RX3 27 3 1 .int := ⟨RX3, TX3, 5, tyX3, rfl, by decide, zcw_X3, (zi2 53 (by decide +kernel) rfl), tyX3_ok, nmX3, rfl, by decide +kernel⟩
theorem zf_X3_30 : zFl RX3 30 4 11 := ⟨RX4, TX4, 14, rfl, by decide, zcw_X4, (zi2 3 (by decide +kernel) rfl)⟩
theorem zp_X3_30 : zFp RX3 30 4 11 .int := ⟨RX4, TX4, 14, tyX4, rfl, by decide, zcw_X4, (zi2 3 (by decide +kernel) rfl), tyX4_ok, nmX4, rfl, by decide +kernel⟩
theorem zf_X3_33 : zFl RX3 33 3 2 := ⟨RX3, TX3, 5, rfl, by decide, zcw_X3, (zi2 55 (by decide +kernel) rfl)⟩
theorem zp_X3_33 : zFp RX3 33 3 2 .int := ⟨RX3, TX3, 5, tyX3, rfl, by decide, zcw_X3, (zi2 55 (by decide +kernel) rfl), tyX3_ok, nmX3, rfl, by decide +kernel⟩
theorem zf_X3_46 : zFl RX3 46 1 0 := ⟨RX1, TX1, 7, rfl, by decide, zcw_X1, (zi1 171 (by decide +kernel) rfl)⟩
theorem zf_X3_61 : zFl RX3 61 4 9 := ⟨RX4, TX4, 14, rfl, by decide, zcw_X4, (zi1 238 (by decide +kernel) rfl)⟩
theorem zp_X3_61 : zFp RX3 61 4 9 .int := ⟨RX4, TX4, 14, tyX4, rfl, by decide, zcw_X4, (zi1 238 (by decide +kernel) rfl), tyX4_ok, nmX4, rfl, by decide +kernel⟩
theorem zf_X3_67 : zFl RX3 67 4 13 := ⟨RX4, TX4, 14, rfl, by decide, zcw_X4, (zi2 15 (by decide +kernel) rfl)⟩
theorem zf_X3_78 : zFl RX3 78 4 12 := ⟨RX4, TX4, 14, rfl, by decide, zcw_X4, (zi2 8 (by decide +kernel) rfl)⟩
theorem zf_X3_91 : zFl RX3 91 4 6 := ⟨RX4, TX4, 14, rfl, by decide, zcw_X4, (zi1 232 (by decide +kernel) rfl)⟩
theorem zp_X3_91 : zFp RX3 91 4 6 .int := ⟨RX4, TX4, 14, tyX4, rfl, by decide, zcw_X4, (zi1 232 (by decide +kernel) rfl), tyX4_ok, nmX4, rfl, by decide +kernel⟩
theorem zf_X3_94 : zFl RX3 94 1 1 := ⟨RX1, TX1, 7, rfl, by decide, zcw_X1, (zi1 175 (by decide +kernel) rfl)⟩
theorem zf_X3_97 : zFl RX3 97 4 10 := ⟨RX4, TX4, 14, rfl, by decide, zcw_X4, (zi2 2 (by decide +kernel) rfl)⟩
theorem zp_X3_97 : zFp RX3 97 4 10 .int := ⟨RX4, TX4, 14, tyX4, rfl, by decide, zcw_X4, (zi2 2 (by decide +kernel) rfl), tyX4_ok, nmX4, rfl, by decide +kernel⟩
theorem zf_X4_9 : zFl RX4 9 4 5 := ⟨RX4, TX4, 14, rfl, by decide, zcw_X4, (zi1 227 (by decide +kernel) rfl)⟩
theorem zf_X4_15 : zFl RX4 15 4 7 := ⟨RX4, TX4, 14, rfl, by decide, zcw_X4, (zi1 233 (by decide +kernel) rfl)⟩
theorem zf_X4_18 : zFl RX4 18 4 8 := ⟨RX4, TX4, 14, rfl, by decide, zcw_X4, (zi1 235 (by decide +kernel) rfl)⟩
theorem zf_X4_24 : zFl RX4 24 4 12 := ⟨RX4, TX4, 14, rfl, by decide, zcw_X4, (zi2 6 (by decide +kernel) rfl)⟩
theorem zf_X4_31 : zFl RX4 31 4 13 := ⟨RX4, TX4, 14, rfl, by decide, zcw_X4, (zi2 10 (by decide +kernel) rfl)⟩
theorem zf_X4_38 : zFl RX4 38 4 0 := ⟨RX4, TX4, 14, rfl, by decide, zcw_X4, (zi1 210 (by decide +kernel) rfl)⟩
theorem zp_X4_38 : zFp RX4 38 4 0 .int := ⟨RX4, TX4, 14, tyX4, rfl, by decide, zcw_X4, (zi1 210 (by decide +kernel) rfl), tyX4_ok, nmX4, rfl, by decide +kernel⟩
theorem zf_X4_42 : zFl RX4 42 4 1 := ⟨RX4, TX4, 14, rfl, by decide, zcw_X4, (zi1 214 (by decide +kernel) rfl)⟩
theorem zp_X4_42 : zFp RX4 42 4 1 .int := ⟨RX4, TX4, 14, tyX4, rfl, by decide, zcw_X4, (zi1 214 (by decide +kernel) rfl), tyX4_ok, nmX4, rfl, by decide +kernel⟩
theorem zf_X4_45 : zFl RX4 45 4 2 := ⟨RX4, TX4, 14, rfl, by decide, zcw_X4, (zi1 217 (by decide +kernel) rfl)⟩
theorem zp_X4_45 : zFp RX4 45 4 2 .int := ⟨RX4, TX4, 14, tyX4, rfl, by decide, zcw_X4, (zi1 217 (by decide +kernel) rfl), tyX4_ok, nmX4, rfl, by decide +kernel⟩
theorem zf_X4_48 : zFl RX4 48 4 3 := ⟨RX4, TX4, 14, rfl, by decide, zcw_X4, (zi1 220 (by decide +kernel) rfl)⟩
theorem zp_X4_48 : zFp RX4 48 4 3 .int := ⟨RX4, TX4, 14, tyX4, rfl, by decide, zcw_X4, (zi1 220 (by decide +kernel) rfl), tyX4_ok, nmX4, rfl, by decide +kernel⟩
theorem zf_X4_51 : zFl RX4 51 4 4 := ⟨RX4, TX4, 14, rfl, by decide, zcw_X4, (zi1 225 (by decide +kernel) rfl)⟩
theorem zp_X4_51 : zFp RX4 51 4 4 .int := ⟨RX4, TX4, 14, tyX4, rfl, by decide, zcw_X4, (zi1 225 (by decide +kernel) rfl), tyX4_ok, nmX4, rfl, by decide +kernel⟩
theorem zf_X4_54 : zFl RX4 54 4 6 := ⟨RX4, TX4, 14, rfl, by decide, zcw_X4, (zi1 230 (by decide +kernel) rfl)⟩
theorem zp_X4_54 : zFp RX4 54 4 6 .int := ⟨RX4, TX4, 14, tyX4, rfl, by decide, zcw_X4, (zi1 230 (by decide +kernel) rfl), tyX4_ok, nmX4, rfl, by decide +kernel⟩
theorem zf_X4_57 : zFl RX4 57 4 9 := ⟨RX4, TX4, 14, rfl, by decide, zcw_X4, (zi1 237 (by decide +kernel) rfl)⟩
theorem zp_X4_57 : zFp RX4 57 4 9 .int := ⟨RX4, TX4, 14, tyX4, rfl, by decide, zcw_X4, (zi1 237 (by decide +kernel) rfl), tyX4_ok, nmX4, rfl, by decide +kernel⟩
theorem zf_X4_60 : zFl RX4 60 4 10 := ⟨RX4, TX4, 14, rfl, by decide, zcw_X4, (zi2 0 (by decide +kernel) rfl)⟩
theorem zp_X4_60 : zFp RX4 60 4 10 .int := ⟨RX4, TX4, 14, tyX4, rfl, by decide, zcw_X4, (zi2 0 (by decide +kernel) rfl), tyX4_ok, nmX4, rfl, by decide +kernel⟩
theorem zf_X4_63 : zFl RX4 63 4 11 := ⟨RX4, TX4, 14, rfl, by decide, zcw_X4, (zi2 4 (by decide +kernel) rfl)⟩
theorem zp_X4_63 : zFp RX4 63 4 11 .int := ⟨RX4, TX4, 14, tyX4, rfl, by decide, zcw_X4, (zi2 4 (by decide +kernel) rfl), tyX4_ok, nmX4, rfl, by decide +kernel⟩
theorem zf_X4_67 : zFl RX4 67 1 1 := ⟨RX1, TX1, 7, rfl, by decide, zcw_X1, (zi1 173 (by decide +kernel) rfl)⟩
theorem zf_X5_15 : zFl RX5 15 5 1 := ⟨RX5, TX5, 2, rfl, by decide, zcw_X5, (zi2 100 (by decide +kernel) rfl)⟩
theorem zf_X5_19 : zFl RX5 19 5 0 := ⟨RX5, TX5, 2, rfl, by decide, zcw_X5, (zi2 99 (by decide +kernel) rfl)⟩
theorem zp_X5_19 : zFp RX5 19 5 0 .int := ⟨RX5, TX5, 2, tyX5, rfl, by decide, zcw_X5, (zi2 99 (by decide +kernel) rfl), tyX5_ok, nmX5, rfl, by decide +kernel⟩
theorem zf_X6_9 : zFl RX6 9 6 2 := ⟨RX6, TX6, 5, rfl, by decide, zcw_X6, (zi2 145 (by decide +kernel) rfl)⟩
theorem zf_X6_15 : zFl RX6 15 6 3 := ⟨RX6, TX6, 5, rfl, by decide, zcw_X6, (zi2 146 (by decide +kernel) rfl)⟩
theorem zf_X6_18 : zFl RX6 18 6 4 := ⟨RX6, TX6, 5, rfl, by decide, zcw_X6, (zi2 147 (by decide +kernel) rfl)⟩
theorem zf_X6_27 : zFl RX6 27 6 1 := ⟨RX6, TX6, 5, rfl, by decide, zcw_X6, (zi2 144 (by decide +kernel) rfl)⟩
theorem zp_X6_27 : zFp RX6 27 6 1 .int := ⟨RX6, TX6, 5, tyX6, rfl, by decide, zcw_X6, (zi2 144 (by decide +kernel) rfl), tyX6_ok, nmX6, rfl, by decide +kernel⟩
theorem zf_X6_31 : zFl RX6 31 6 0 := ⟨RX6, TX6, 5, rfl, by decide, zcw_X6, (zi2 142 (by decide +kernel) rfl)⟩
theorem zp_X6_31 : zFp RX6 31 6 0 .int := ⟨RX6, TX6, 5, tyX6, rfl, by decide, zcw_X6, (zi2 142 (by decide +kernel) rfl), tyX6_ok, nmX6, rfl, by decide +kernel⟩
theorem zf_X6_34 : zFl RX6 34 1 4 := ⟨RX1, TX1, 7, rfl, by decide, zcw_X1, (zi1 181 (by decide +kernel) rfl)⟩
theorem zf_X6_43 : zFl RX6 43 1 5 := ⟨RX1, TX1, 7, rfl, by decide, zcw_X1, (zi1 184 (by decide +kernel) rfl)⟩
theorem zf_X6_46 : zFl RX6 46 8 0 := ⟨RX8, TX8, 6, rfl, by decide, zcw_X8, (zi2 113 (by decide +kernel) rfl)⟩
theorem zp_X6_46 : zFp RX6 46 8 0 .int := ⟨RX8, TX8, 6, tyX8, rfl, by decide, zcw_X8, (zi2 113 (by decide +kernel) rfl), tyX8_ok, nmX8, rfl, by decide +kernel⟩
theorem zf_X6_51 : zFl RX6 51 8 2 := ⟨RX8, TX8, 6, rfl, by decide, zcw_X8, (zi2 118 (by decide +kernel) rfl)⟩
theorem zf_X6_54 : zFl RX6 54 8 3 := ⟨RX8, TX8, 6, rfl, by decide, zcw_X8, (zi2 120 (by decide +kernel) rfl)⟩
theorem zf_X7_13 : zFl RX7 13 7 1 := ⟨RX7, TX7, 14, rfl, by decide, zcw_X7, (zi1 87 (by decide +kernel) rfl)⟩
theorem zp_X7_13 : zFp RX7 13 7 1 .int := ⟨RX7, TX7, 14, tyX7, rfl, by decide, zcw_X7, (zi1 87 (by decide +kernel) rfl), tyX7_ok, nmX7, rfl, by decide +kernel⟩
theorem zf_X7_17 : zFl RX7 17 7 2 := ⟨RX7, TX7, 14, rfl, by decide, zcw_X7, (zi1 89 (by decide +kernel) rfl)⟩
theorem zf_X7_21 : zFl RX7 21 7 12 := ⟨RX7, TX7, 14, rfl, by decide, zcw_X7, (zi1 99 (by decide +kernel) rfl)⟩
theorem zf_X7_25 : zFl RX7 25 7 13 := ⟨RX7, TX7, 14, rfl, by decide, zcw_X7, (zi1 100 (by decide +kernel) rfl)⟩
theorem zf_X7_40 : zFl RX7 40 7 0 := ⟨RX7, TX7, 14, rfl, by decide, zcw_X7, (zi1 85 (by decide +kernel) rfl)⟩
theorem zp_X7_40 : zFp RX7 40 7 0 .int := ⟨RX7, TX7, 14, tyX7, rfl, by decide, zcw_X7, (zi1 85 (by decide +kernel) rfl), tyX7_ok, nmX7, rfl, by decide +kernel⟩
theorem zf_X7_49 : zFl RX7 49 7 3 := ⟨RX7, TX7, 14, rfl, by decide, zcw_X7, (zi1 90 (by decide +kernel) rfl)⟩
theorem zp_X7_49 : zFp RX7 49 7 3 .int := ⟨RX7, TX7, 14, tyX7, rfl, by decide, zcw_X7, (zi1 90 (by decide +kernel) rfl), tyX7_ok, nmX7, rfl, by decide +kernel⟩
theorem zf_X7_51 : zFl RX7 51 7 5 := ⟨RX7, TX7, 14, rfl, by decide, zcw_X7, (zi1 92 (by decide +kernel) rfl)⟩
theorem zp_X7_51 : zFp RX7 51 7 5 .int := ⟨RX7, TX7, 14, tyX7, rfl, by decide, zcw_X7, (zi1 92 (by decide +kernel) rfl), tyX7_ok, nmX7, rfl, by decide +kernel⟩
theorem zf_X7_54 : zFl RX7 54 7 10 := ⟨RX7, TX7, 14, rfl, by decide, zcw_X7, (zi1 97 (by decide +kernel) rfl)⟩
theorem zp_X7_54 : zFp RX7 54 7 10 .int := ⟨RX7, TX7, 14, tyX7, rfl, by decide, zcw_X7, (zi1 97 (by decide +kernel) rfl), tyX7_ok, nmX7, rfl, by decide +kernel⟩
theorem zf_X7_65 : zFl RX7 65 7 9 := ⟨RX7, TX7, 14, rfl, by decide, zcw_X7, (zi1 96 (by decide +kernel) rfl)⟩
theorem zp_X7_65 : zFp RX7 65 7 9 .int := ⟨RX7, TX7, 14, tyX7, rfl, by decide, zcw_X7, (zi1 96 (by decide +kernel) rfl), tyX7_ok, nmX7, rfl, by decide +kernel⟩
theorem zf_X7_68 : zFl RX7 68 7 6 := ⟨RX7, TX7, 14, rfl, by decide, zcw_X7, (zi1 93 (by decide +kernel) rfl)⟩
theorem zp_X7_68 : zFp RX7 68 7 6 .int := ⟨RX7, TX7, 14, tyX7, rfl, by decide, zcw_X7, (zi1 93 (by decide +kernel) rfl), tyX7_ok, nmX7, rfl, by decide +kernel⟩
theorem zf_X7_79 : zFl RX7 79 4 13 := ⟨RX4, TX4, 14, rfl, by decide, zcw_X4, (zi2 11 (by decide +kernel) rfl)⟩
theorem zf_X7_88 : zFl RX7 88 7 7 := ⟨RX7, TX7, 14, rfl, by decide, zcw_X7, (zi1 94 (by decide +kernel) rfl)⟩
theorem zp_X7_88 : zFp RX7 88 7 7 .int := ⟨RX7, TX7, 14, tyX7, rfl, by decide, zcw_X7, (zi1 94 (by decide +kernel) rfl), tyX7_ok, nmX7, rfl, by decide +kernel⟩
theorem zf_X7_113 : zFl RX7 113 4 12 := ⟨RX4, TX4, 14, rfl, by decide, zcw_X4, (zi2 7 (by decide +kernel) rfl)⟩
theorem zf_X7_134 : zFl RX7 134 7 11 := ⟨RX7, TX7, 14, rfl, by decide, zcw_X7, (zi1 98 (by decide +kernel) rfl)⟩
theorem zp_X7_134 : zFp RX7 134 7 11 .int := ⟨RX7, TX7, 14, tyX7, rfl, by decide, zcw_X7, (zi1 98 (by decide +kernel) rfl), tyX7_ok, nmX7, rfl, by decide +kernel⟩
theorem zf_X7_137 : zFl RX7 137 4 0 := ⟨RX4, TX4, 14, rfl, by decide, zcw_X4, (zi1 211 (by decide +kernel) rfl)⟩
theorem zp_X7_137 : zFp RX7 137 4 0 .int := ⟨RX4, TX4, 14, tyX4, rfl, by decide, zcw_X4, (zi1 211 (by decide +kernel) rfl), tyX4_ok, nmX4, rfl, by decide +kernel⟩
theorem zf_X7_140 : zFl RX7 140 4 1 := ⟨RX4, TX4, 14, rfl, by decide, zcw_X4, (zi1 215 (by decide +kernel) rfl)⟩
theorem zp_X7_140 : zFp RX7 140 4 1 .int := ⟨RX4, TX4, 14, tyX4, rfl, by decide, zcw_X4, (zi1 215 (by decide +kernel) rfl), tyX4_ok, nmX4, rfl, by decide +kernel⟩
theorem zf_X7_150 : zFl RX7 150 4 5 := ⟨RX4, TX4, 14, rfl, by decide, zcw_X4, (zi1 228 (by decide +kernel) rfl)⟩
theorem zf_X7_157 : zFl RX7 157 4 6 := ⟨RX4, TX4, 14, rfl, by decide, zcw_X4, (zi1 231 (by decide +kernel) rfl)⟩
theorem zp_X7_157 : zFp RX7 157 4 6 .int := ⟨RX4, TX4, 14, tyX4, rfl, by decide, zcw_X4, (zi1 231 (by decide +kernel) rfl), tyX4_ok, nmX4, rfl, by decide +kernel⟩
theorem zf_X7_160 : zFl RX7 160 4 2 := ⟨RX4, TX4, 14, rfl, by decide, zcw_X4, (zi1 218 (by decide +kernel) rfl)⟩
theorem zp_X7_160 : zFp RX7 160 4 2 .int := ⟨RX4, TX4, 14, tyX4, rfl, by decide, zcw_X4, (zi1 218 (by decide +kernel) rfl), tyX4_ok, nmX4, rfl, by decide +kernel⟩
theorem zf_X7_163 : zFl RX7 163 4 3 := ⟨RX4, TX4, 14, rfl, by decide, zcw_X4, (zi1 222 (by decide +kernel) rfl)⟩
theorem zp_X7_163 : zFp RX7 163 4 3 .int := ⟨RX4, TX4, 14, tyX4, rfl, by decide, zcw_X4, (zi1 222 (by decide +kernel) rfl), tyX4_ok, nmX4, rfl, by decide +kernel⟩
theorem zf_X7_166 : zFl RX7 166 4 4 := ⟨RX4, TX4, 14, rfl, by decide, zcw_X4, (zi1 226 (by decide +kernel) rfl)⟩
theorem zp_X7_166 : zFp RX7 166 4 4 .int := ⟨RX4, TX4, 14, tyX4, rfl, by decide, zcw_X4, (zi1 226 (by decide +kernel) rfl), tyX4_ok, nmX4, rfl, by decide +kernel⟩
theorem zf_X7_182 : zFl RX7 182 7 4 := ⟨RX7, TX7, 14, rfl, by decide, zcw_X7, (zi1 91 (by decide +kernel) rfl)⟩
theorem zp_X7_182 : zFp RX7 182 7 4 .int := ⟨RX7, TX7, 14, tyX7, rfl, by decide, zcw_X7, (zi1 91 (by decide +kernel) rfl), tyX7_ok, nmX7, rfl, by decide +kernel⟩
theorem zf_X7_185 : zFl RX7 185 4 8 := ⟨RX4, TX4, 14, rfl, by decide, zcw_X4, (zi1 236 (by decide +kernel) rfl)⟩
theorem zf_X7_188 : zFl RX7 188 4 7 := ⟨RX4, TX4, 14, rfl, by decide, zcw_X4, (zi1 234 (by decide +kernel) rfl)⟩
theorem zf_X7_194 : zFl RX7 194 4 9 := ⟨RX4, TX4, 14, rfl, by decide, zcw_X4, (zi1 239 (by decide +kernel) rfl)⟩
theorem zp_X7_194 : zFp RX7 194 4 9 .int := ⟨RX4, TX4, 14, tyX4, rfl, by decide, zcw_X4, (zi1 239 (by decide +kernel) rfl), tyX4_ok, nmX4, rfl, by decide +kernel⟩
theorem zf_X7_197 : zFl RX7 197 4 10 := ⟨RX4, TX4, 14, rfl, by decide, zcw_X4, (zi2 1 (by decide +kernel) rfl)⟩
theorem zp_X7_197 : zFp RX7 197 4 10 .int := ⟨RX4, TX4, 14, tyX4, rfl, by decide, zcw_X4, (zi2 1 (by decide +kernel) rfl), tyX4_ok, nmX4, rfl, by decide +kernel⟩
theorem zf_X7_200 : zFl RX7 200 4 11 := ⟨RX4, TX4, 14, rfl, by decide, zcw_X4, (zi2 5 (by decide +kernel) rfl)⟩
theorem zp_X7_200 : zFp RX7 200 4 11 .int := ⟨RX4, TX4, 14, tyX4, rfl, by decide, zcw_X4, (zi2 5 (by decide +kernel) rfl), tyX4_ok, nmX4, rfl, by decide +kernel⟩
theorem zf_X7_209 : zFl RX7 209 7 8 := ⟨RX7, TX7, 14, rfl, by decide, zcw_X7, (zi1 95 (by decide +kernel) rfl)⟩
theorem zp_X7_209 : zFp RX7 209 7 8 .long := ⟨RX7, TX7, 14, tyX7, rfl, by decide, zcw_X7, (zi1 95 (by decide +kernel) rfl), tyX7_ok, nmX7, rfl, by decide +kernel⟩
theorem zf_X7_234 : zFl RX7 234 2 0 := ⟨RX2, TX2, 5, rfl, by decide, zcw_X2, (zi1 145 (by decide +kernel) rfl)⟩
theorem zp_X7_234 : zFp RX7 234 2 0 .int := ⟨RX2, TX2, 5, tyX2, rfl, by decide, zcw_X2, (zi1 145 (by decide +kernel) rfl), tyX2_ok, nmX2, rfl, by decide +kernel⟩
theorem zf_X8_9 : zFl RX8 9 8 2 := ⟨RX8, TX8, 6, rfl, by decide, zcw_X8, (zi2 117 (by decide +kernel) rfl)⟩
theorem zf_X8_15 : zFl RX8 15 8 3 := ⟨RX8, TX8, 6, rfl, by decide, zcw_X8, (zi2 119 (by decide +kernel) rfl)⟩
theorem zf_X8_18 : zFl RX8 18 8 4 := ⟨RX8, TX8, 6, rfl, by decide, zcw_X8, (zi2 121 (by decide +kernel) rfl)⟩
theorem zf_X8_21 : zFl RX8 21 8 5 := ⟨RX8, TX8, 6, rfl, by decide, zcw_X8, (zi2 122 (by decide +kernel) rfl)⟩
theorem zf_X8_24 : zFl RX8 24 8 0 := ⟨RX8, TX8, 6, rfl, by decide, zcw_X8, (zi2 112 (by decide +kernel) rfl)⟩
theorem zp_X8_24 : zFp RX8 24 8 0 .int := ⟨RX8, TX8, 6, tyX8, rfl, by decide, zcw_X8, (zi2 112 (by decide +kernel) rfl), tyX8_ok, nmX8, rfl, by decide +kernel⟩
theorem zf_X8_28 : zFl RX8 28 8 1 := ⟨RX8, TX8, 6, rfl, by decide, zcw_X8, (zi2 115 (by decide +kernel) rfl)⟩
theorem zp_X8_28 : zFp RX8 28 8 1 .int := ⟨RX8, TX8, 6, tyX8, rfl, by decide, zcw_X8, (zi2 115 (by decide +kernel) rfl), tyX8_ok, nmX8, rfl, by decide +kernel⟩
theorem zf_X9_9 : zFl RX9 9 9 4 := ⟨RX9, TX9, 8, rfl, by decide, zcw_X9, (zi2 171 (by decide +kernel) rfl)⟩
theorem zf_X9_15 : zFl RX9 15 9 5 := ⟨RX9, TX9, 8, rfl, by decide, zcw_X9, (zi2 172 (by decide +kernel) rfl)⟩
theorem zf_X9_20 : zFl RX9 20 9 6 := ⟨RX9, TX9, 8, rfl, by decide, zcw_X9, (zi2 173 (by decide +kernel) rfl)⟩
theorem zf_X9_24 : zFl RX9 24 9 7 := ⟨RX9, TX9, 8, rfl, by decide, zcw_X9, (zi2 174 (by decide +kernel) rfl)⟩
theorem zf_X9_28 : zFl RX9 28 9 0 := ⟨RX9, TX9, 8, rfl, by decide, zcw_X9, (zi2 167 (by decide +kernel) rfl)⟩
theorem zp_X9_28 : zFp RX9 28 9 0 .int := ⟨RX9, TX9, 8, tyX9, rfl, by decide, zcw_X9, (zi2 167 (by decide +kernel) rfl), tyX9_ok, nmX9, rfl, by decide +kernel⟩
theorem zf_X9_32 : zFl RX9 32 9 1 := ⟨RX9, TX9, 8, rfl, by decide, zcw_X9, (zi2 168 (by decide +kernel) rfl)⟩
theorem zp_X9_32 : zFp RX9 32 9 1 .int := ⟨RX9, TX9, 8, tyX9, rfl, by decide, zcw_X9, (zi2 168 (by decide +kernel) rfl), tyX9_ok, nmX9, rfl, by decide +kernel⟩
theorem zf_X9_35 : zFl RX9 35 9 2 := ⟨RX9, TX9, 8, rfl, by decide, zcw_X9, (zi2 169 (by decide +kernel) rfl)⟩
theorem zp_X9_35 : zFp RX9 35 9 2 .int := ⟨RX9, TX9, 8, tyX9, rfl, by decide, zcw_X9, (zi2 169 (by decide +kernel) rfl), tyX9_ok, nmX9, rfl, by decide +kernel⟩
theorem zf_X9_38 : zFl RX9 38 9 3 := ⟨RX9, TX9, 8, rfl, by decide, zcw_X9, (zi2 170 (by decide +kernel) rfl)⟩
theorem zp_X9_38 : zFp RX9 38 9 3 .int := ⟨RX9, TX9, 8, tyX9, rfl, by decide, zcw_X9, (zi2 170 (by decide +kernel) rfl), tyX9_ok, nmX9, rfl, by decide +kernel⟩
theorem zf_X9_56 : zFl RX9 56 4 13 := ⟨RX4, TX4, 14, rfl, by decide, zcw_X4, (zi2 12 (by decide +kernel) rfl)⟩
theorem zf_X9_77 : zFl RX9 77 4 0 := ⟨RX4, TX4, 14, rfl, by decide, zcw_X4, (zi1 212 (by decide +kernel) rfl)⟩
theorem zp_X9_77 : zFp RX9 77 4 0 .int := ⟨RX4, TX4, 14, tyX4, rfl, by decide, zcw_X4, (zi1 212 (by decide +kernel) rfl), tyX4_ok, nmX4, rfl, by decide +kernel⟩
theorem zf_X10_9 : zFl RX10 9 10 0 := ⟨RX10, TX10, 1, rfl, by decide, zcw_X10, (zi2 198 (by decide +kernel) rfl)⟩
theorem zf_X10_19 : zFl RX10 19 4 3 := ⟨RX4, TX4, 14, rfl, by decide, zcw_X4, (zi1 221 (by decide +kernel) rfl)⟩
theorem zp_X10_19 : zFp RX10 19 4 3 .int := ⟨RX4, TX4, 14, tyX4, rfl, by decide, zcw_X4, (zi1 221 (by decide +kernel) rfl), tyX4_ok, nmX4, rfl, by decide +kernel⟩
theorem zf_X10_33 : zFl RX10 33 4 13 := ⟨RX4, TX4, 14, rfl, by decide, zcw_X4, (zi2 13 (by decide +kernel) rfl)⟩
theorem zf_X12_7 : zFl RX12 7 12 0 := ⟨RX12, TX12, 79, rfl, by decide, zcw_X12, (zi5 236 (by decide +kernel) rfl)⟩
theorem zf_X12_13 : zFl RX12 13 12 3 := ⟨RX12, TX12, 79, rfl, by decide, zcw_X12, (zi5 239 (by decide +kernel) rfl)⟩
theorem zp_X12_13 : zFp RX12 13 12 3 .int := ⟨RX12, TX12, 79, tyX12, rfl, by decide, zcw_X12, (zi5 239 (by decide +kernel) rfl), tyX12_ok, nmX12, rfl, by decide +kernel⟩
theorem zf_X12_17 : zFl RX12 17 12 10 := ⟨RX12, TX12, 79, rfl, by decide, zcw_X12, (zi6 6 (by decide +kernel) rfl)⟩
theorem zf_X12_21 : zFl RX12 21 12 11 := ⟨RX12, TX12, 79, rfl, by decide, zcw_X12, (zi6 7 (by decide +kernel) rfl)⟩
theorem zf_X12_24 : zFl RX12 24 12 12 := ⟨RX12, TX12, 79, rfl, by decide, zcw_X12, (zi6 8 (by decide +kernel) rfl)⟩
theorem zf_X12_27 : zFl RX12 27 12 13 := ⟨RX12, TX12, 79, rfl, by decide, zcw_X12, (zi6 9 (by decide +kernel) rfl)⟩
theorem zf_X12_30 : zFl RX12 30 12 14 := ⟨RX12, TX12, 79, rfl, by decide, zcw_X12, (zi6 10 (by decide +kernel) rfl)⟩
theorem zf_X12_33 : zFl RX12 33 12 15 := ⟨RX12, TX12, 79, rfl, by decide, zcw_X12, (zi6 11 (by decide +kernel) rfl)⟩
theorem zf_X12_36 : zFl RX12 36 12 16 := ⟨RX12, TX12, 79, rfl, by decide, zcw_X12, (zi6 12 (by decide +kernel) rfl)⟩
theorem zf_X12_39 : zFl RX12 39 12 24 := ⟨RX12, TX12, 79, rfl, by decide, zcw_X12, (zi6 20 (by decide +kernel) rfl)⟩
theorem zf_X12_42 : zFl RX12 42 12 25 := ⟨RX12, TX12, 79, rfl, by decide, zcw_X12, (zi6 21 (by decide +kernel) rfl)⟩
theorem zf_X12_45 : zFl RX12 45 12 26 := ⟨RX12, TX12, 79, rfl, by decide, zcw_X12, (zi6 22 (by decide +kernel) rfl)⟩
theorem zf_X12_48 : zFl RX12 48 12 27 := ⟨RX12, TX12, 79, rfl, by decide, zcw_X12, (zi6 23 (by decide +kernel) rfl)⟩
theorem zf_X12_51 : zFl RX12 51 12 28 := ⟨RX12, TX12, 79, rfl, by decide, zcw_X12, (zi6 24 (by decide +kernel) rfl)⟩
theorem zf_X12_54 : zFl RX12 54 12 29 := ⟨RX12, TX12, 79, rfl, by decide, zcw_X12, (zi6 25 (by decide +kernel) rfl)⟩
theorem zf_X12_57 : zFl RX12 57 12 30 := ⟨RX12, TX12, 79, rfl, by decide, zcw_X12, (zi6 26 (by decide +kernel) rfl)⟩
theorem zf_X12_60 : zFl RX12 60 12 31 := ⟨RX12, TX12, 79, rfl, by decide, zcw_X12, (zi6 27 (by decide +kernel) rfl)⟩
theorem zf_X12_64 : zFl RX12 64 12 32 := ⟨RX12, TX12, 79, rfl, by decide, zcw_X12, (zi6 28 (by decide +kernel) rfl)⟩
theorem zf_X12_67 : zFl RX12 67 12 33 := ⟨RX12, TX12, 79, rfl, by decide, zcw_X12, (zi6 29 (by decide +kernel) rfl)⟩
theorem zf_X12_70 : zFl RX12 70 12 42 := ⟨RX12, TX12, 79, rfl, by decide, zcw_X12, (zi6 38 (by decide +kernel) rfl)⟩
theorem zp_X12_70 : zFp RX12 70 12 42 .int := ⟨RX12, TX12, 79, tyX12, rfl, by decide, zcw_X12, (zi6 38 (by decide +kernel) rfl), tyX12_ok, nmX12, rfl, by decide +kernel⟩
theorem zf_X12_73 : zFl RX12 73 12 47 := ⟨RX12, TX12, 79, rfl, by decide, zcw_X12, (zi6 43 (by decide +kernel) rfl)⟩
theorem zp_X12_73 : zFp RX12 73 12 47 .int := ⟨RX12, TX12, 79, tyX12, rfl, by decide, zcw_X12, (zi6 43 (by decide +kernel) rfl), tyX12_ok, nmX12, rfl, by decide +kernel⟩
theorem zf_X12_76 : zFl RX12 76 12 53 := ⟨RX12, TX12, 79, rfl, by decide, zcw_X12, (zi6 49 (by decide +kernel) rfl)⟩
theorem zf_X12_79 : zFl RX12 79 12 54 := ⟨RX12, TX12, 79, rfl, by decide, zcw_X12, (zi6 50 (by decide +kernel) rfl)⟩
theorem zf_X12_82 : zFl RX12 82 12 55 := ⟨RX12, TX12, 79, rfl, by decide, zcw_X12, (zi6 51 (by decide +kernel) rfl)⟩
theorem zf_X12_85 : zFl RX12 85 12 58 := ⟨RX12, TX12, 79, rfl, by decide, zcw_X12, (zi6 54 (by decide +kernel) rfl)⟩
theorem zf_X12_88 : zFl RX12 88 12 59 := ⟨RX12, TX12, 79, rfl, by decide, zcw_X12, (zi6 55 (by decide +kernel) rfl)⟩
theorem zf_X12_91 : zFl RX12 91 12 61 := ⟨RX12, TX12, 79, rfl, by decide, zcw_X12, (zi6 57 (by decide +kernel) rfl)⟩
theorem zf_X12_94 : zFl RX12 94 12 62 := ⟨RX12, TX12, 79, rfl, by decide, zcw_X12, (zi6 58 (by decide +kernel) rfl)⟩
theorem zf_X12_97 : zFl RX12 97 12 63 := ⟨RX12, TX12, 79, rfl, by decide, zcw_X12, (zi6 59 (by decide +kernel) rfl)⟩
theorem zf_X12_100 : zFl RX12 100 12 64 := ⟨RX12, TX12, 79, rfl, by decide, zcw_X12, (zi6 60 (by decide +kernel) rfl)⟩
theorem zf_X12_103 : zFl RX12 103 12 67 := ⟨RX12, TX12, 79, rfl, by decide, zcw_X12, (zi6 63 (by decide +kernel) rfl)⟩
theorem zf_X12_106 : zFl RX12 106 12 68 := ⟨RX12, TX12, 79, rfl, by decide, zcw_X12, (zi6 64 (by decide +kernel) rfl)⟩
theorem zf_X12_109 : zFl RX12 109 12 69 := ⟨RX12, TX12, 79, rfl, by decide, zcw_X12, (zi6 65 (by decide +kernel) rfl)⟩
theorem zf_X12_112 : zFl RX12 112 12 70 := ⟨RX12, TX12, 79, rfl, by decide, zcw_X12, (zi6 66 (by decide +kernel) rfl)⟩
theorem zf_X12_115 : zFl RX12 115 12 71 := ⟨RX12, TX12, 79, rfl, by decide, zcw_X12, (zi6 67 (by decide +kernel) rfl)⟩
theorem zf_X12_118 : zFl RX12 118 12 74 := ⟨RX12, TX12, 79, rfl, by decide, zcw_X12, (zi6 70 (by decide +kernel) rfl)⟩
theorem zf_X12_121 : zFl RX12 121 12 75 := ⟨RX12, TX12, 79, rfl, by decide, zcw_X12, (zi6 71 (by decide +kernel) rfl)⟩
theorem zf_X12_124 : zFl RX12 124 12 76 := ⟨RX12, TX12, 79, rfl, by decide, zcw_X12, (zi6 72 (by decide +kernel) rfl)⟩
theorem zf_X12_127 : zFl RX12 127 12 77 := ⟨RX12, TX12, 79, rfl, by decide, zcw_X12, (zi6 73 (by decide +kernel) rfl)⟩
theorem zf_X12_130 : zFl RX12 130 12 78 := ⟨RX12, TX12, 79, rfl, by decide, zcw_X12, (zi6 74 (by decide +kernel) rfl)⟩
theorem zf_X12_133 : zFl RX12 133 12 1 := ⟨RX12, TX12, 79, rfl, by decide, zcw_X12, (zi5 237 (by decide +kernel) rfl)⟩
theorem zp_X12_133 : zFp RX12 133 12 1 .int := ⟨RX12, TX12, 79, tyX12, rfl, by decide, zcw_X12, (zi5 237 (by decide +kernel) rfl), tyX12_ok, nmX12, rfl, by decide +kernel⟩
theorem zf_X12_140 : zFl RX12 140 12 4 := ⟨RX12, TX12, 79, rfl, by decide, zcw_X12, (zi6 0 (by decide +kernel) rfl)⟩
theorem zp_X12_140 : zFp RX12 140 12 4 .int := ⟨RX12, TX12, 79, tyX12, rfl, by decide, zcw_X12, (zi6 0 (by decide +kernel) rfl), tyX12_ok, nmX12, rfl, by decide +kernel⟩
theorem zf_X12_143 : zFl RX12 143 12 5 := ⟨RX12, TX12, 79, rfl, by decide, zcw_X12, (zi6 1 (by decide +kernel) rfl)⟩
theorem zp_X12_143 : zFp RX12 143 12 5 .int := ⟨RX12, TX12, 79, tyX12, rfl, by decide, zcw_X12, (zi6 1 (by decide +kernel) rfl), tyX12_ok, nmX12, rfl, by decide +kernel⟩
theorem zf_X12_150 : zFl RX12 150 12 7 := ⟨RX12, TX12, 79, rfl, by decide, zcw_X12, (zi6 3 (by decide +kernel) rfl)⟩
theorem zp_X12_150 : zFp RX12 150 12 7 .int := ⟨RX12, TX12, 79, tyX12, rfl, by decide, zcw_X12, (zi6 3 (by decide +kernel) rfl), tyX12_ok, nmX12, rfl, by decide +kernel⟩
theorem zf_X12_153 : zFl RX12 153 12 9 := ⟨RX12, TX12, 79, rfl, by decide, zcw_X12, (zi6 5 (by decide +kernel) rfl)⟩
theorem zp_X12_153 : zFp RX12 153 12 9 .long := ⟨RX12, TX12, 79, tyX12, rfl, by decide, zcw_X12, (zi6 5 (by decide +kernel) rfl), tyX12_ok, nmX12, rfl, by decide +kernel⟩
theorem zf_X12_157 : zFl RX12 157 12 8 := ⟨RX12, TX12, 79, rfl, by decide, zcw_X12, (zi6 4 (by decide +kernel) rfl)⟩
theorem zp_X12_157 : zFp RX12 157 12 8 .int := ⟨RX12, TX12, 79, tyX12, rfl, by decide, zcw_X12, (zi6 4 (by decide +kernel) rfl), tyX12_ok, nmX12, rfl, by decide +kernel⟩
theorem zf_X12_160 : zFl RX12 160 12 6 := ⟨RX12, TX12, 79, rfl, by decide, zcw_X12, (zi6 2 (by decide +kernel) rfl)⟩
theorem zp_X12_160 : zFp RX12 160 12 6 .int := ⟨RX12, TX12, 79, tyX12, rfl, by decide, zcw_X12, (zi6 2 (by decide +kernel) rfl), tyX12_ok, nmX12, rfl, by decide +kernel⟩
theorem zf_X12_173 : zFl RX12 173 12 2 := ⟨RX12, TX12, 79, rfl, by decide, zcw_X12, (zi5 238 (by decide +kernel) rfl)⟩
theorem zp_X12_173 : zFp RX12 173 12 2 .int := ⟨RX12, TX12, 79, tyX12, rfl, by decide, zcw_X12, (zi5 238 (by decide +kernel) rfl), tyX12_ok, nmX12, rfl, by decide +kernel⟩
theorem zf_X12_254 : zFl RX12 254 12 17 := ⟨RX12, TX12, 79, rfl, by decide, zcw_X12, (zi6 13 (by decide +kernel) rfl)⟩
theorem zp_X12_254 : zFp RX12 254 12 17 .int := ⟨RX12, TX12, 79, tyX12, rfl, by decide, zcw_X12, (zi6 13 (by decide +kernel) rfl), tyX12_ok, nmX12, rfl, by decide +kernel⟩
theorem zf_X12_257 : zFl RX12 257 12 19 := ⟨RX12, TX12, 79, rfl, by decide, zcw_X12, (zi6 15 (by decide +kernel) rfl)⟩
theorem zp_X12_257 : zFp RX12 257 12 19 .int := ⟨RX12, TX12, 79, tyX12, rfl, by decide, zcw_X12, (zi6 15 (by decide +kernel) rfl), tyX12_ok, nmX12, rfl, by decide +kernel⟩
theorem zf_X12_267 : zFl RX12 267 12 23 := ⟨RX12, TX12, 79, rfl, by decide, zcw_X12, (zi6 19 (by decide +kernel) rfl)⟩
theorem zp_X12_267 : zFp RX12 267 12 23 .int := ⟨RX12, TX12, 79, tyX12, rfl, by decide, zcw_X12, (zi6 19 (by decide +kernel) rfl), tyX12_ok, nmX12, rfl, by decide +kernel⟩
theorem zf_X12_270 : zFl RX12 270 12 20 := ⟨RX12, TX12, 79, rfl, by decide, zcw_X12, (zi6 16 (by decide +kernel) rfl)⟩
theorem zp_X12_270 : zFp RX12 270 12 20 .int := ⟨RX12, TX12, 79, tyX12, rfl, by decide, zcw_X12, (zi6 16 (by decide +kernel) rfl), tyX12_ok, nmX12, rfl, by decide +kernel⟩
theorem zf_X12_273 : zFl RX12 273 12 22 := ⟨RX12, TX12, 79, rfl, by decide, zcw_X12, (zi6 18 (by decide +kernel) rfl)⟩
theorem zp_X12_273 : zFp RX12 273 12 22 .int := ⟨RX12, TX12, 79, tyX12, rfl, by decide, zcw_X12, (zi6 18 (by decide +kernel) rfl), tyX12_ok, nmX12, rfl, by decide +kernel⟩
theorem zf_X12_311 : zFl RX12 311 12 52 := ⟨RX12, TX12, 79, rfl, by decide, zcw_X12, (zi6 48 (by decide +kernel) rfl)⟩
theorem zp_X12_311 : zFp RX12 311 12 52 .boolean := ⟨RX12, TX12, 79, tyX12, rfl, by decide, zcw_X12, (zi6 48 (by decide +kernel) rfl), tyX12_ok, nmX12, rfl, by decide +kernel⟩
theorem zf_X12_315 : zFl RX12 315 12 18 := ⟨RX12, TX12, 79, rfl, by decide, zcw_X12, (zi6 14 (by decide +kernel) rfl)⟩
theorem zp_X12_315 : zFp RX12 315 12 18 .int := ⟨RX12, TX12, 79, tyX12, rfl, by decide, zcw_X12, (zi6 14 (by decide +kernel) rfl), tyX12_ok, nmX12, rfl, by decide +kernel⟩
theorem zf_X12_322 : zFl RX12 322 12 35 := ⟨RX12, TX12, 79, rfl, by decide, zcw_X12, (zi6 31 (by decide +kernel) rfl)⟩
theorem zp_X12_322 : zFp RX12 322 12 35 .int := ⟨RX12, TX12, 79, tyX12, rfl, by decide, zcw_X12, (zi6 31 (by decide +kernel) rfl), tyX12_ok, nmX12, rfl, by decide +kernel⟩
theorem zf_X12_332 : zFl RX12 332 12 36 := ⟨RX12, TX12, 79, rfl, by decide, zcw_X12, (zi6 32 (by decide +kernel) rfl)⟩
theorem zp_X12_332 : zFp RX12 332 12 36 .int := ⟨RX12, TX12, 79, tyX12, rfl, by decide, zcw_X12, (zi6 32 (by decide +kernel) rfl), tyX12_ok, nmX12, rfl, by decide +kernel⟩
theorem zf_X12_335 : zFl RX12 335 12 37 := ⟨RX12, TX12, 79, rfl, by decide, zcw_X12, (zi6 33 (by decide +kernel) rfl)⟩
theorem zp_X12_335 : zFp RX12 335 12 37 .int := ⟨RX12, TX12, 79, tyX12, rfl, by decide, zcw_X12, (zi6 33 (by decide +kernel) rfl), tyX12_ok, nmX12, rfl, by decide +kernel⟩
theorem zf_X12_338 : zFl RX12 338 12 34 := ⟨RX12, TX12, 79, rfl, by decide, zcw_X12, (zi6 30 (by decide +kernel) rfl)⟩
theorem zp_X12_338 : zFp RX12 338 12 34 .int := ⟨RX12, TX12, 79, tyX12, rfl, by decide, zcw_X12, (zi6 30 (by decide +kernel) rfl), tyX12_ok, nmX12, rfl, by decide +kernel⟩
theorem zf_X12_347 : zFl RX12 347 12 38 := ⟨RX12, TX12, 79, rfl, by decide, zcw_X12, (zi6 34 (by decide +kernel) rfl)⟩
theorem zp_X12_347 : zFp RX12 347 12 38 .int := ⟨RX12, TX12, 79, tyX12, rfl, by decide, zcw_X12, (zi6 34 (by decide +kernel) rfl), tyX12_ok, nmX12, rfl, by decide +kernel⟩
theorem zf_X12_350 : zFl RX12 350 12 48 := ⟨RX12, TX12, 79, rfl, by decide, zcw_X12, (zi6 44 (by decide +kernel) rfl)⟩
theorem zp_X12_350 : zFp RX12 350 12 48 .boolean := ⟨RX12, TX12, 79, tyX12, rfl, by decide, zcw_X12, (zi6 44 (by decide +kernel) rfl), tyX12_ok, nmX12, rfl, by decide +kernel⟩
theorem zf_X12_368 : zFl RX12 368 12 49 := ⟨RX12, TX12, 79, rfl, by decide, zcw_X12, (zi6 45 (by decide +kernel) rfl)⟩
theorem zp_X12_368 : zFp RX12 368 12 49 .boolean := ⟨RX12, TX12, 79, tyX12, rfl, by decide, zcw_X12, (zi6 45 (by decide +kernel) rfl), tyX12_ok, nmX12, rfl, by decide +kernel⟩
theorem zf_X12_374 : zFl RX12 374 12 50 := ⟨RX12, TX12, 79, rfl, by decide, zcw_X12, (zi6 46 (by decide +kernel) rfl)⟩
theorem zp_X12_374 : zFp RX12 374 12 50 .boolean := ⟨RX12, TX12, 79, tyX12, rfl, by decide, zcw_X12, (zi6 46 (by decide +kernel) rfl), tyX12_ok, nmX12, rfl, by decide +kernel⟩
theorem zf_X12_377 : zFl RX12 377 12 39 := ⟨RX12, TX12, 79, rfl, by decide, zcw_X12, (zi6 35 (by decide +kernel) rfl)⟩
theorem zp_X12_377 : zFp RX12 377 12 39 .int := ⟨RX12, TX12, 79, tyX12, rfl, by decide, zcw_X12, (zi6 35 (by decide +kernel) rfl), tyX12_ok, nmX12, rfl, by decide +kernel⟩
theorem zf_X12_380 : zFl RX12 380 12 40 := ⟨RX12, TX12, 79, rfl, by decide, zcw_X12, (zi6 36 (by decide +kernel) rfl)⟩
theorem zp_X12_380 : zFp RX12 380 12 40 .int := ⟨RX12, TX12, 79, tyX12, rfl, by decide, zcw_X12, (zi6 36 (by decide +kernel) rfl), tyX12_ok, nmX12, rfl, by decide +kernel⟩
theorem zf_X12_383 : zFl RX12 383 12 51 := ⟨RX12, TX12, 79, rfl, by decide, zcw_X12, (zi6 47 (by decide +kernel) rfl)⟩
theorem zp_X12_383 : zFp RX12 383 12 51 .boolean := ⟨RX12, TX12, 79, tyX12, rfl, by decide, zcw_X12, (zi6 47 (by decide +kernel) rfl), tyX12_ok, nmX12, rfl, by decide +kernel⟩
theorem zf_X12_386 : zFl RX12 386 12 41 := ⟨RX12, TX12, 79, rfl, by decide, zcw_X12, (zi6 37 (by decide +kernel) rfl)⟩
theorem zp_X12_386 : zFp RX12 386 12 41 .int := ⟨RX12, TX12, 79, tyX12, rfl, by decide, zcw_X12, (zi6 37 (by decide +kernel) rfl), tyX12_ok, nmX12, rfl, by decide +kernel⟩
theorem zf_X12_395 : zFl RX12 395 12 43 := ⟨RX12, TX12, 79, rfl, by decide, zcw_X12, (zi6 39 (by decide +kernel) rfl)⟩
theorem zp_X12_395 : zFp RX12 395 12 43 .int := ⟨RX12, TX12, 79, tyX12, rfl, by decide, zcw_X12, (zi6 39 (by decide +kernel) rfl), tyX12_ok, nmX12, rfl, by decide +kernel⟩
theorem zf_X12_398 : zFl RX12 398 12 44 := ⟨RX12, TX12, 79, rfl, by decide, zcw_X12, (zi6 40 (by decide +kernel) rfl)⟩
theorem zp_X12_398 : zFp RX12 398 12 44 .int := ⟨RX12, TX12, 79, tyX12, rfl, by decide, zcw_X12, (zi6 40 (by decide +kernel) rfl), tyX12_ok, nmX12, rfl, by decide +kernel⟩
theorem zf_X12_401 : zFl RX12 401 12 45 := ⟨RX12, TX12, 79, rfl, by decide, zcw_X12, (zi6 41 (by decide +kernel) rfl)⟩
theorem zp_X12_401 : zFp RX12 401 12 45 .int := ⟨RX12, TX12, 79, tyX12, rfl, by decide, zcw_X12, (zi6 41 (by decide +kernel) rfl), tyX12_ok, nmX12, rfl, by decide +kernel⟩
theorem zf_X12_404 : zFl RX12 404 12 46 := ⟨RX12, TX12, 79, rfl, by decide, zcw_X12, (zi6 42 (by decide +kernel) rfl)⟩
theorem zp_X12_404 : zFp RX12 404 12 46 .int := ⟨RX12, TX12, 79, tyX12, rfl, by decide, zcw_X12, (zi6 42 (by decide +kernel) rfl), tyX12_ok, nmX12, rfl, by decide +kernel⟩
theorem zf_X12_407 : zFl RX12 407 12 21 := ⟨RX12, TX12, 79, rfl, by decide, zcw_X12, (zi6 17 (by decide +kernel) rfl)⟩
theorem zp_X12_407 : zFp RX12 407 12 21 .int := ⟨RX12, TX12, 79, tyX12, rfl, by decide, zcw_X12, (zi6 17 (by decide +kernel) rfl), tyX12_ok, nmX12, rfl, by decide +kernel⟩
theorem zf_X12_410 : zFl RX12 410 12 56 := ⟨RX12, TX12, 79, rfl, by decide, zcw_X12, (zi6 52 (by decide +kernel) rfl)⟩
theorem zp_X12_410 : zFp RX12 410 12 56 .int := ⟨RX12, TX12, 79, tyX12, rfl, by decide, zcw_X12, (zi6 52 (by decide +kernel) rfl), tyX12_ok, nmX12, rfl, by decide +kernel⟩
theorem zf_X12_413 : zFl RX12 413 12 57 := ⟨RX12, TX12, 79, rfl, by decide, zcw_X12, (zi6 53 (by decide +kernel) rfl)⟩
theorem zp_X12_413 : zFp RX12 413 12 57 .int := ⟨RX12, TX12, 79, tyX12, rfl, by decide, zcw_X12, (zi6 53 (by decide +kernel) rfl), tyX12_ok, nmX12, rfl, by decide +kernel⟩
theorem zf_X12_416 : zFl RX12 416 12 72 := ⟨RX12, TX12, 79, rfl, by decide, zcw_X12, (zi6 68 (by decide +kernel) rfl)⟩
theorem zp_X12_416 : zFp RX12 416 12 72 .int := ⟨RX12, TX12, 79, tyX12, rfl, by decide, zcw_X12, (zi6 68 (by decide +kernel) rfl), tyX12_ok, nmX12, rfl, by decide +kernel⟩
theorem zf_X12_419 : zFl RX12 419 12 60 := ⟨RX12, TX12, 79, rfl, by decide, zcw_X12, (zi6 56 (by decide +kernel) rfl)⟩
theorem zp_X12_419 : zFp RX12 419 12 60 .int := ⟨RX12, TX12, 79, tyX12, rfl, by decide, zcw_X12, (zi6 56 (by decide +kernel) rfl), tyX12_ok, nmX12, rfl, by decide +kernel⟩
theorem zf_X12_548 : zFl RX12 548 12 65 := ⟨RX12, TX12, 79, rfl, by decide, zcw_X12, (zi6 61 (by decide +kernel) rfl)⟩
theorem zp_X12_548 : zFp RX12 548 12 65 .int := ⟨RX12, TX12, 79, tyX12, rfl, by decide, zcw_X12, (zi6 61 (by decide +kernel) rfl), tyX12_ok, nmX12, rfl, by decide +kernel⟩
theorem zf_X12_557 : zFl RX12 557 12 66 := ⟨RX12, TX12, 79, rfl, by decide, zcw_X12, (zi6 62 (by decide +kernel) rfl)⟩
theorem zp_X12_557 : zFp RX12 557 12 66 .int := ⟨RX12, TX12, 79, tyX12, rfl, by decide, zcw_X12, (zi6 62 (by decide +kernel) rfl), tyX12_ok, nmX12, rfl, by decide +kernel⟩
theorem zf_X12_573 : zFl RX12 573 12 73 := ⟨RX12, TX12, 79, rfl, by decide, zcw_X12, (zi6 69 (by decide +kernel) rfl)⟩
theorem zp_X12_573 : zFp RX12 573 12 73 .int := ⟨RX12, TX12, 79, tyX12, rfl, by decide, zcw_X12, (zi6 69 (by decide +kernel) rfl), tyX12_ok, nmX12, rfl, by decide +kernel⟩
theorem zs_J0_9 : Cond.fieldLink RJ0 9 "java/lang/String" "value" "[B" ∈ ztbl := (zi9 63 (by decide +kernel) rfl)
theorem zs_J0_15 : Cond.fieldLink RJ0 15 "java/lang/String" "coder" "B" ∈ ztbl := (zi9 64 (by decide +kernel) rfl)
theorem zs_J0_38 : Cond.fieldLink RJ0 38 "java/lang/String" "COMPACT_STRINGS" "Z" ∈ ztbl := (zi1 45 (by decide +kernel) rfl)
theorem zs_J0_1053 : Cond.fieldLink RJ0 1053 "jdk/internal/util/Preconditions" "SIOOBE_FORMATTER" "Ljava/util/function/BiFunction;" ∈ ztbl := (zi1 61 (by decide +kernel) rfl)
theorem zm_X11_15 : Cond.methodLink RX11 15 yX7_init ∈ ztbl := (zi1 32 (by decide +kernel) rfl)
theorem zm_X11_24 : Cond.methodLink RX11 24 yX4_init ∈ ztbl := (zi1 134 (by decide +kernel) rfl)
theorem zm_X11_34 : Cond.methodLink RX11 34 yX3_init ∈ ztbl := (zi2 47 (by decide +kernel) rfl)
theorem zm_X11_44 : Cond.methodLink RX11 44 yX0_init ∈ ztbl := (zi2 74 (by decide +kernel) rfl)
theorem zm_X11_51 : Cond.methodLink RX11 51 yX5_init ∈ ztbl := (zi2 95 (by decide +kernel) rfl)
theorem zm_X11_58 : Cond.methodLink RX11 58 yX8_init ∈ ztbl := (zi2 108 (by decide +kernel) rfl)
theorem zm_X11_65 : Cond.methodLink RX11 65 yX6_init ∈ ztbl := (zi2 138 (by decide +kernel) rfl)
theorem zm_X11_72 : Cond.methodLink RX11 72 yX9_init ∈ ztbl := (zi2 161 (by decide +kernel) rfl)
theorem zm_X11_79 : Cond.methodLink RX11 79 yX10_init ∈ ztbl := (zi2 194 (by decide +kernel) rfl)
theorem zm_X11_91 : Cond.methodLink RX11 91 yX3_begin ∈ ztbl := (zi2 202 (by decide +kernel) rfl)
theorem zm_X11_95 : Cond.methodLink RX11 95 yX0_restart ∈ ztbl := (zi2 210 (by decide +kernel) rfl)
theorem zm_X11_103 : Cond.methodLink RX11 103 yX11_putBytes ∈ ztbl := (zi3 38 (by decide +kernel) rfl)
theorem zm_X11_107 : Cond.methodLink RX11 107 yX7_readAll ∈ ztbl := (zi3 50 (by decide +kernel) rfl)
theorem zm_X11_111 : Cond.methodLink RX11 111 yX5_clear ∈ ztbl := (zi4 12 (by decide +kernel) rfl)
theorem zm_X11_114 : Cond.methodLink RX11 114 yX8_clear ∈ ztbl := (zi4 16 (by decide +kernel) rfl)
theorem zm_X11_127 : Cond.methodLink RX11 127 yX11_isBill ∈ ztbl := (zi4 28 (by decide +kernel) rfl)
theorem zm_X11_161 : Cond.methodLink RX11 161 yX11_standingNow ∈ ztbl := (zi4 32 (by decide +kernel) rfl)
theorem zm_X11_165 : Cond.methodLink RX11 165 yX3_livingBits ∈ ztbl := (zi4 36 (by decide +kernel) rfl)
theorem zm_X11_168 : Cond.methodLink RX11 168 yX1_repealedBy ∈ ztbl := (zi4 48 (by decide +kernel) rfl)
theorem zm_X11_172 : Cond.methodLink RX11 172 yX11_isStake ∈ ztbl := (zi4 53 (by decide +kernel) rfl)
theorem zm_X11_175 : Cond.methodLink RX11 175 yX1_onStake ∈ ztbl := (zi4 57 (by decide +kernel) rfl)
theorem zm_X11_179 : Cond.methodLink RX11 179 yX11_isTopic ∈ ztbl := (zi4 65 (by decide +kernel) rfl)
theorem zm_X11_182 : Cond.methodLink RX11 182 yX1_lawOf ∈ ztbl := (zi4 69 (by decide +kernel) rfl)
theorem zm_X11_185 : Cond.methodLink RX11 185 yX1_standing ∈ ztbl := (zi4 40 (by decide +kernel) rfl)
theorem zm_X11_188 : Cond.methodLink RX11 188 yX11_isSaying ∈ ztbl := (zi4 89 (by decide +kernel) rfl)
theorem zm_X11_191 : Cond.methodLink RX11 191 yX11_layBill ∈ ztbl := (zi4 92 (by decide +kernel) rfl)
theorem zm_X11_195 : Cond.methodLink RX11 195 yX11_isPlant ∈ ztbl := (zi4 96 (by decide +kernel) rfl)
theorem zm_X11_198 : Cond.methodLink RX11 198 yX1_put ∈ ztbl := (zi4 100 (by decide +kernel) rfl)
theorem zm_X11_202 : Cond.methodLink RX11 202 yX1_sortForReading ∈ ztbl := (zi4 101 (by decide +kernel) rfl)
theorem zm_X11_208 : Cond.methodLink RX11 208 yX3_addBill ∈ ztbl := (zi4 102 (by decide +kernel) rfl)
theorem zm_X11_211 : Cond.methodLink RX11 211 yX0_keep ∈ ztbl := (zi4 106 (by decide +kernel) rfl)
theorem zm_X11_214 : Cond.methodLink RX11 214 yX3_cut ∈ ztbl := (zi4 122 (by decide +kernel) rfl)
theorem zm_X11_218 : Cond.methodLink RX11 218 yJ6_bitCount_0f7a4 ∈ ztbl := (zi4 127 (by decide +kernel) rfl)
theorem zm_X11_226 : Cond.methodLink RX11 226 yX3_passYear ∈ ztbl := (zi4 137 (by decide +kernel) rfl)
theorem zm_X11_229 : Cond.methodLink RX11 229 yX0_stepBack ∈ ztbl := (zi4 169 (by decide +kernel) rfl)
theorem zm_X11_233 : Cond.methodLink RX11 233 yX0_stepOn ∈ ztbl := (zi4 181 (by decide +kernel) rfl)
theorem zm_X11_236 : Cond.methodLink RX11 236 yX11_isAhead ∈ ztbl := (zi4 189 (by decide +kernel) rfl)
theorem zm_X11_239 : Cond.methodLink RX11 239 yX11_lookAhead ∈ ztbl := (zi4 193 (by decide +kernel) rfl)
theorem zm_X11_242 : Cond.methodLink RX11 242 yX3_takeFrom ∈ ztbl := (zi4 197 (by decide +kernel) rfl)
theorem zm_X11_245 : Cond.methodLink RX11 245 yX1_clashing ∈ ztbl := (zi4 217 (by decide +kernel) rfl)
theorem zm_X11_248 : Cond.methodLink RX11 248 yX11_fewestWeeds ∈ ztbl := (zi4 229 (by decide +kernel) rfl)
theorem zm_X11_251 : Cond.methodLink RX11 251 yX11_isClear ∈ ztbl := (zi4 233 (by decide +kernel) rfl)
theorem zm_X11_257 : Cond.methodLink RX11 257 yX1_lawWithNew ∈ ztbl := (zi5 1 (by decide +kernel) rfl)
theorem zm_X11_261 : Cond.methodLink RX11 261 yX11_gaps ∈ ztbl := (zi5 10 (by decide +kernel) rfl)
theorem zm_X11_272 : Cond.methodLink RX11 272 yX9_best ∈ ztbl := (zi5 25 (by decide +kernel) rfl)
theorem zm_X11_276 : Cond.methodLink RX11 276 yX9_stakeOf ∈ ztbl := (zi5 50 (by decide +kernel) rfl)
theorem zm_X11_279 : Cond.methodLink RX11 279 yX11_layDown ∈ ztbl := (zi5 54 (by decide +kernel) rfl)
theorem zm_X11_282 : Cond.methodLink RX11 282 yX11_isParty ∈ ztbl := (zi5 62 (by decide +kernel) rfl)
theorem zm_X11_285 : Cond.methodLink RX11 285 yX11_joyNow ∈ ztbl := (zi5 66 (by decide +kernel) rfl)
theorem zm_X11_291 : Cond.methodLink RX11 291 yX1_readInto ∈ ztbl := (zi5 70 (by decide +kernel) rfl)
theorem zm_X11_295 : Cond.methodLink RX11 295 yX4_joyOf ∈ ztbl := (zi5 74 (by decide +kernel) rfl)
theorem zm_X11_299 : Cond.methodLink RX11 299 yX10_best ∈ ztbl := (zi5 87 (by decide +kernel) rfl)
theorem zm_X11_302 : Cond.methodLink RX11 302 yX10_pickOf ∈ ztbl := (zi5 106 (by decide +kernel) rfl)
theorem zm_X11_305 : Cond.methodLink RX11 305 yX11_isOrdered ∈ ztbl := (zi5 115 (by decide +kernel) rfl)
theorem zm_X11_308 : Cond.methodLink RX11 308 yX8_tell ∈ ztbl := (zi5 119 (by decide +kernel) rfl)
theorem zm_X11_311 : Cond.methodLink RX11 311 yX8_takeBack ∈ ztbl := (zi5 127 (by decide +kernel) rfl)
theorem zm_X11_318 : Cond.methodLink RX11 318 yX6_gather ∈ ztbl := (zi5 140 (by decide +kernel) rfl)
theorem zm_X11_325 : Cond.methodLink RX11 325 yX6_surePlace ∈ ztbl := (zi5 168 (by decide +kernel) rfl)
theorem zm_X11_328 : Cond.methodLink RX11 328 yX6_bestToAsk ∈ ztbl := (zi5 180 (by decide +kernel) rfl)
theorem zm_X11_331 : Cond.methodLink RX11 331 yX6_mostLeft ∈ ztbl := (zi5 189 (by decide +kernel) rfl)
theorem zm_X11_334 : Cond.methodLink RX11 334 yX5_keep ∈ ztbl := (zi5 194 (by decide +kernel) rfl)
theorem zm_X11_337 : Cond.methodLink RX11 337 yX5_has ∈ ztbl := (zi5 208 (by decide +kernel) rfl)
theorem zm_X11_340 : Cond.methodLink RX11 340 yX5_bring ∈ ztbl := (zi5 212 (by decide +kernel) rfl)
theorem zm_X11_352 : Cond.methodLink RX11 352 yX3_allLife ∈ ztbl := (zi5 226 (by decide +kernel) rfl)
theorem zm_X0_27 : Cond.methodLink RX0 27 yX0_presentRow ∈ ztbl := (zi2 214 (by decide +kernel) rfl)
theorem zm_X0_31 : Cond.methodLink RX0 31 yX3_store ∈ ztbl := (zi2 218 (by decide +kernel) rfl)
theorem zm_X0_35 : Cond.methodLink RX0 35 yX3_load ∈ ztbl := (zi4 173 (by decide +kernel) rfl)
theorem zm_X1_39 : Cond.methodLink RX1 39 yX1_sortForReading ∈ ztbl := (zi5 220 (by decide +kernel) rfl)
theorem zm_X1_42 : Cond.methodLink RX1 42 yX1_repealedBy ∈ ztbl := (zi4 44 (by decide +kernel) rfl)
theorem zm_X1_51 : Cond.methodLink RX1 51 yX1_lawWithNew ∈ ztbl := (zi4 73 (by decide +kernel) rfl)
theorem zm_X1_55 : Cond.methodLink RX1 55 yX1_isClash ∈ ztbl := (zi4 221 (by decide +kernel) rfl)
theorem zm_X2_26 : Cond.methodLink RX2 26 yX2_joined ∈ ztbl := (zi4 157 (by decide +kernel) rfl)
theorem zm_X3_36 : Cond.methodLink RX3 36 yX4_firstLifeOf ∈ ztbl := (zi2 206 (by decide +kernel) rfl)
theorem zm_X3_57 : Cond.methodLink RX3 57 yX3_growAll ∈ ztbl := (zi4 141 (by decide +kernel) rfl)
theorem zm_X3_64 : Cond.methodLink RX3 64 yX3_freeze ∈ ztbl := (zi4 161 (by decide +kernel) rfl)
theorem zm_X3_71 : Cond.methodLink RX3 71 yX3_livingBits ∈ ztbl := (zi4 145 (by decide +kernel) rfl)
theorem zm_X3_75 : Cond.methodLink RX3 75 yX1_othersNear ∈ ztbl := (zi4 146 (by decide +kernel) rfl)
theorem zm_X3_82 : Cond.methodLink RX3 82 yX2_result ∈ ztbl := (zi4 153 (by decide +kernel) rfl)
theorem zm_X4_23 : Cond.methodLink RX4 23 yX2_init ∈ ztbl := (zi1 140 (by decide +kernel) rfl)
theorem zm_X4_30 : Cond.methodLink RX4 30 yX1_init ∈ ztbl := (zi1 165 (by decide +kernel) rfl)
theorem zm_X4_35 : Cond.methodLink RX4 35 yX4_clear ∈ ztbl := (zi1 202 (by decide +kernel) rfl)
theorem zm_X4_66 : Cond.methodLink RX4 66 yX2_clear ∈ ztbl := (zi1 206 (by decide +kernel) rfl)
theorem zm_X5_23 : Cond.methodLink RX5 23 yX1_store ∈ ztbl := (zi5 198 (by decide +kernel) rfl)
theorem zm_X5_27 : Cond.methodLink RX5 27 yX3_store ∈ ztbl := (zi5 203 (by decide +kernel) rfl)
theorem zm_X5_28 : Cond.methodLink RX5 28 yX1_load ∈ ztbl := (zi5 216 (by decide +kernel) rfl)
theorem zm_X5_31 : Cond.methodLink RX5 31 yX3_load ∈ ztbl := (zi5 221 (by decide +kernel) rfl)
theorem zm_X6_39 : Cond.methodLink RX6 39 yX6_bitOf ∈ ztbl := (zi5 145 (by decide +kernel) rfl)
theorem zm_X6_57 : Cond.methodLink RX6 57 yX8_isKnown ∈ ztbl := (zi5 148 (by decide +kernel) rfl)
theorem zm_X6_61 : Cond.methodLink RX6 61 yX6_isSeated ∈ ztbl := (zi5 152 (by decide +kernel) rfl)
theorem zm_X6_65 : Cond.methodLink RX6 65 yX6_seatFrom ∈ ztbl := (zi5 156 (by decide +kernel) rfl)
theorem zm_X6_69 : Cond.methodLink RX6 69 yX6_countSeats ∈ ztbl := (zi5 160 (by decide +kernel) rfl)
theorem zm_X6_72 : Cond.methodLink RX6 72 yX6_tallied ∈ ztbl := (zi5 172 (by decide +kernel) rfl)
theorem zm_X6_78 : Cond.methodLink RX6 78 yX6_mostLeft ∈ ztbl := (zi5 184 (by decide +kernel) rfl)
theorem zm_X7_30 : Cond.methodLink RX7 30 yJ0_length_8abf5 ∈ ztbl := (zi1 37 (by decide +kernel) rfl)
theorem zm_X7_36 : Cond.methodLink RX7 36 yJ0_charAt_5068e ∈ ztbl := (zi1 47 (by decide +kernel) rfl)
theorem zm_X7_57 : Cond.methodLink RX7 57 yX4_clear ∈ ztbl := (zi3 57 (by decide +kernel) rfl)
theorem zm_X7_62 : Cond.methodLink RX7 62 yX7_step ∈ ztbl := (zi3 58 (by decide +kernel) rfl)
theorem zm_X7_71 : Cond.methodLink RX7 71 yX7_readLine ∈ ztbl := (zi3 128 (by decide +kernel) rfl)
theorem zm_X7_75 : Cond.methodLink RX7 75 yX7_takeSign ∈ ztbl := (zi3 224 (by decide +kernel) rfl)
theorem zm_X7_83 : Cond.methodLink RX7 83 yX1_sortForReading ∈ ztbl := (zi4 8 (by decide +kernel) rfl)
theorem zm_X7_91 : Cond.methodLink RX7 91 yX7_readStakes ∈ ztbl := (zi3 132 (by decide +kernel) rfl)
theorem zm_X7_94 : Cond.methodLink RX7 94 yX7_readPlant ∈ ztbl := (zi3 148 (by decide +kernel) rfl)
theorem zm_X7_97 : Cond.methodLink RX7 97 yX7_readTopic ∈ ztbl := (zi3 172 (by decide +kernel) rfl)
theorem zm_X7_100 : Cond.methodLink RX7 100 yX7_readBill ∈ ztbl := (zi3 176 (by decide +kernel) rfl)
theorem zm_X7_103 : Cond.methodLink RX7 103 yX7_readParty ∈ ztbl := (zi3 200 (by decide +kernel) rfl)
theorem zm_X7_106 : Cond.methodLink RX7 106 yX7_readWants ∈ ztbl := (zi3 204 (by decide +kernel) rfl)
theorem zm_X7_109 : Cond.methodLink RX7 109 yX7_beginOnce ∈ ztbl := (zi3 208 (by decide +kernel) rfl)
theorem zm_X7_117 : Cond.methodLink RX7 117 yX7_readLevel ∈ ztbl := (zi3 212 (by decide +kernel) rfl)
theorem zm_X7_121 : Cond.methodLink RX7 121 yX7_readFrost ∈ ztbl := (zi4 0 (by decide +kernel) rfl)
theorem zm_X7_124 : Cond.methodLink RX7 124 yX7_readDraw ∈ ztbl := (zi4 4 (by decide +kernel) rfl)
theorem zm_X7_127 : Cond.methodLink RX7 127 yX7_refuseToken ∈ ztbl := (zi3 136 (by decide +kernel) rfl)
theorem zm_X7_130 : Cond.methodLink RX7 130 yX7_takeNumber ∈ ztbl := (zi3 144 (by decide +kernel) rfl)
theorem zm_X7_143 : Cond.methodLink RX7 143 yX7_beginSort ∈ ztbl := (zi3 152 (by decide +kernel) rfl)
theorem zm_X7_147 : Cond.methodLink RX7 147 yX7_takeWord ∈ ztbl := (zi3 164 (by decide +kernel) rfl)
theorem zm_X7_154 : Cond.methodLink RX7 154 yX7_isWord ∈ ztbl := (zi3 168 (by decide +kernel) rfl)
theorem zm_X7_169 : Cond.methodLink RX7 169 yX7_takeKnown ∈ ztbl := (zi3 180 (by decide +kernel) rfl)
theorem zm_X7_172 : Cond.methodLink RX7 172 yX7_takeSaying ∈ ztbl := (zi3 184 (by decide +kernel) rfl)
theorem zm_X7_175 : Cond.methodLink RX7 175 yX7_takeOther ∈ ztbl := (zi3 192 (by decide +kernel) rfl)
theorem zm_X7_178 : Cond.methodLink RX7 178 yX1_put ∈ ztbl := (zi3 196 (by decide +kernel) rfl)
theorem zm_X7_191 : Cond.methodLink RX7 191 yX7_refuse ∈ ztbl := (zi3 140 (by decide +kernel) rfl)
theorem zm_X7_203 : Cond.methodLink RX7 203 yX7_isName ∈ ztbl := (zi3 156 (by decide +kernel) rfl)
theorem zm_X7_206 : Cond.methodLink RX7 206 yX7_findName ∈ ztbl := (zi3 160 (by decide +kernel) rfl)
theorem zm_X7_213 : Cond.methodLink RX7 213 yX7_readUnit ∈ ztbl := (zi3 216 (by decide +kernel) rfl)
theorem zm_X7_217 : Cond.methodLink RX7 217 yX7_readNot ∈ ztbl := (zi3 232 (by decide +kernel) rfl)
theorem zm_X7_220 : Cond.methodLink RX7 220 yX7_joinedBy ∈ ztbl := (zi3 236 (by decide +kernel) rfl)
theorem zm_X7_224 : Cond.methodLink RX7 224 yX2_emit ∈ ztbl := (zi3 228 (by decide +kernel) rfl)
theorem zm_X7_228 : Cond.methodLink RX7 228 yX7_isSign ∈ ztbl := (zi3 188 (by decide +kernel) rfl)
theorem zm_X7_231 : Cond.methodLink RX7 231 yX7_singleUnit ∈ ztbl := (zi3 220 (by decide +kernel) rfl)
theorem zm_X7_237 : Cond.methodLink RX7 237 yX7_stepWord ∈ ztbl := (zi3 62 (by decide +kernel) rfl)
theorem zm_X7_240 : Cond.methodLink RX7 240 yX7_stepNumber ∈ ztbl := (zi3 66 (by decide +kernel) rfl)
theorem zm_X7_245 : Cond.methodLink RX7 245 yJ0_indexOf_0f7a4 ∈ ztbl := (zi3 71 (by decide +kernel) rfl)
theorem zm_X9_23 : Cond.methodLink RX9 23 yX3_init ∈ ztbl := (zi2 166 (by decide +kernel) rfl)
theorem zm_X9_41 : Cond.methodLink RX9 41 yX3_store ∈ ztbl := (zi5 29 (by decide +kernel) rfl)
theorem zm_X9_45 : Cond.methodLink RX9 45 yX9_search ∈ ztbl := (zi5 30 (by decide +kernel) rfl)
theorem zm_X9_49 : Cond.methodLink RX9 49 yX3_load ∈ ztbl := (zi5 34 (by decide +kernel) rfl)
theorem zm_X9_52 : Cond.methodLink RX9 52 yX3_livingBits ∈ ztbl := (zi5 35 (by decide +kernel) rfl)
theorem zm_X9_62 : Cond.methodLink RX9 62 yX1_standing ∈ ztbl := (zi5 36 (by decide +kernel) rfl)
theorem zm_X9_68 : Cond.methodLink RX9 68 yJ6_bitCount_0f7a4 ∈ ztbl := (zi5 37 (by decide +kernel) rfl)
theorem zm_X9_73 : Cond.methodLink RX9 73 yX9_judge ∈ ztbl := (zi5 38 (by decide +kernel) rfl)
theorem zm_X9_80 : Cond.methodLink RX9 80 yX1_onStake ∈ ztbl := (zi5 47 (by decide +kernel) rfl)
theorem zm_X9_84 : Cond.methodLink RX9 84 yX9_isBetter ∈ ztbl := (zi5 42 (by decide +kernel) rfl)
theorem zm_X9_88 : Cond.methodLink RX9 88 yX3_cut ∈ ztbl := (zi5 48 (by decide +kernel) rfl)
theorem zm_X9_92 : Cond.methodLink RX9 92 yX3_passYear ∈ ztbl := (zi5 49 (by decide +kernel) rfl)
theorem zm_X10_15 : Cond.methodLink RX10 15 yX10_bestFrom ∈ ztbl := (zi5 91 (by decide +kernel) rfl)
theorem zm_X10_25 : Cond.methodLink RX10 25 yX10_joyAfter ∈ ztbl := (zi5 95 (by decide +kernel) rfl)
theorem zm_X10_29 : Cond.methodLink RX10 29 yX10_pickOf ∈ ztbl := (zi5 99 (by decide +kernel) rfl)
theorem zm_X10_37 : Cond.methodLink RX10 37 yX1_standing ∈ ztbl := (zi5 103 (by decide +kernel) rfl)
theorem zm_X10_43 : Cond.methodLink RX10 43 yX1_readInto ∈ ztbl := (zi5 104 (by decide +kernel) rfl)
theorem zm_X10_47 : Cond.methodLink RX10 47 yX4_joyOf ∈ ztbl := (zi5 105 (by decide +kernel) rfl)
theorem zm_L_9 : Cond.methodLink RL 9 yX11_init ∈ ztbl := (zi1 24 (by decide +kernel) rfl)
theorem zm_L_12 : Cond.methodLink RL 12 yX12_init ∈ ztbl := (zi5 232 (by decide +kernel) rfl)
theorem zm_L_13 : Cond.methodLink RL 13 yX11_feed ∈ ztbl := (zi3 34 (by decide +kernel) rfl)
theorem zm_L_17 : Cond.methodLink RL 17 yX12_feed ∈ ztbl := (zi6 235 (by decide +kernel) rfl)
theorem zm_L_18 : Cond.methodLink RL 18 yX11_end ∈ ztbl := (zi3 42 (by decide +kernel) rfl)
theorem zm_L_22 : Cond.methodLink RL 22 yX12_end ∈ ztbl := (zi7 3 (by decide +kernel) rfl)
theorem zm_L_23 : Cond.methodLink RL 23 yX11_hedge ∈ ztbl := (zi3 46 (by decide +kernel) rfl)
theorem zm_L_27 : Cond.methodLink RL 27 yX12_hedge ∈ ztbl := (zi7 7 (by decide +kernel) rfl)
theorem zm_L_28 : Cond.methodLink RL 28 yX11_fault ∈ ztbl := (zi4 20 (by decide +kernel) rfl)
theorem zm_L_31 : Cond.methodLink RL 31 yX12_fault ∈ ztbl := (zi7 179 (by decide +kernel) rfl)
theorem zm_L_32 : Cond.methodLink RL 32 yX11_bill ∈ ztbl := (zi4 24 (by decide +kernel) rfl)
theorem zm_L_36 : Cond.methodLink RL 36 yX12_bill ∈ ztbl := (zi7 183 (by decide +kernel) rfl)
theorem zm_L_37 : Cond.methodLink RL 37 yX11_stake ∈ ztbl := (zi4 49 (by decide +kernel) rfl)
theorem zm_L_40 : Cond.methodLink RL 40 yX12_stake ∈ ztbl := (zi7 225 (by decide +kernel) rfl)
theorem zm_L_41 : Cond.methodLink RL 41 yX11_law ∈ ztbl := (zi4 61 (by decide +kernel) rfl)
theorem zm_L_44 : Cond.methodLink RL 44 yX12_law ∈ ztbl := (zi7 237 (by decide +kernel) rfl)
theorem zm_L_45 : Cond.methodLink RL 45 yX11_stands ∈ ztbl := (zi4 77 (by decide +kernel) rfl)
theorem zm_L_48 : Cond.methodLink RL 48 yX12_stands ∈ ztbl := (zi8 9 (by decide +kernel) rfl)
theorem zm_L_49 : Cond.methodLink RL 49 yX11_falls ∈ ztbl := (zi4 81 (by decide +kernel) rfl)
theorem zm_L_52 : Cond.methodLink RL 52 yX12_falls ∈ ztbl := (zi8 13 (by decide +kernel) rfl)
theorem zm_L_53 : Cond.methodLink RL 53 yX11_lay ∈ ztbl := (zi4 85 (by decide +kernel) rfl)
theorem zm_L_56 : Cond.methodLink RL 56 yX12_lay ∈ ztbl := (zi8 22 (by decide +kernel) rfl)
theorem zm_L_57 : Cond.methodLink RL 57 yX11_repeal ∈ ztbl := (zi4 110 (by decide +kernel) rfl)
theorem zm_L_61 : Cond.methodLink RL 61 yX12_repeal ∈ ztbl := (zi8 46 (by decide +kernel) rfl)
theorem zm_L_62 : Cond.methodLink RL 62 yX11_pull ∈ ztbl := (zi4 114 (by decide +kernel) rfl)
theorem zm_L_65 : Cond.methodLink RL 65 yX12_pull ∈ ztbl := (zi8 50 (by decide +kernel) rfl)
theorem zm_L_66 : Cond.methodLink RL 66 yX11_trim ∈ ztbl := (zi4 118 (by decide +kernel) rfl)
theorem zm_L_69 : Cond.methodLink RL 69 yX12_trim ∈ ztbl := (zi8 54 (by decide +kernel) rfl)
theorem zm_L_70 : Cond.methodLink RL 70 yX11_year ∈ ztbl := (zi4 133 (by decide +kernel) rfl)
theorem zm_L_73 : Cond.methodLink RL 73 yX12_year ∈ ztbl := (zi8 70 (by decide +kernel) rfl)
theorem zm_L_74 : Cond.methodLink RL 74 yX11_undo ∈ ztbl := (zi4 165 (by decide +kernel) rfl)
theorem zm_L_78 : Cond.methodLink RL 78 yX12_undo ∈ ztbl := (zi8 92 (by decide +kernel) rfl)
theorem zm_L_79 : Cond.methodLink RL 79 yX11_redo ∈ ztbl := (zi4 177 (by decide +kernel) rfl)
theorem zm_L_82 : Cond.methodLink RL 82 yX12_redo ∈ ztbl := (zi8 100 (by decide +kernel) rfl)
theorem zm_L_83 : Cond.methodLink RL 83 yX11_will ∈ ztbl := (zi4 185 (by decide +kernel) rfl)
theorem zm_L_86 : Cond.methodLink RL 86 yX12_will ∈ ztbl := (zi8 104 (by decide +kernel) rfl)
theorem zm_L_87 : Cond.methodLink RL 87 yX11_lapse ∈ ztbl := (zi4 201 (by decide +kernel) rfl)
theorem zm_L_90 : Cond.methodLink RL 90 yX12_lapse ∈ ztbl := (zi8 112 (by decide +kernel) rfl)
theorem zm_L_91 : Cond.methodLink RL 91 yX11_dies ∈ ztbl := (zi4 205 (by decide +kernel) rfl)
theorem zm_L_94 : Cond.methodLink RL 94 yX12_dies ∈ ztbl := (zi8 117 (by decide +kernel) rfl)
theorem zm_L_95 : Cond.methodLink RL 95 yX11_living ∈ ztbl := (zi4 209 (by decide +kernel) rfl)
theorem zm_L_98 : Cond.methodLink RL 98 yX12_living ∈ ztbl := (zi8 121 (by decide +kernel) rfl)
theorem zm_L_99 : Cond.methodLink RL 99 yX11_clashes ∈ ztbl := (zi4 213 (by decide +kernel) rfl)
theorem zm_L_102 : Cond.methodLink RL 102 yX12_clashes ∈ ztbl := (zi8 125 (by decide +kernel) rfl)
theorem zm_L_103 : Cond.methodLink RL 103 yX11_weed ∈ ztbl := (zi4 225 (by decide +kernel) rfl)
theorem zm_L_106 : Cond.methodLink RL 106 yX12_weed ∈ ztbl := (zi8 137 (by decide +kernel) rfl)
theorem zm_L_107 : Cond.methodLink RL 107 yX11_places ∈ ztbl := (zi4 237 (by decide +kernel) rfl)
theorem zm_L_110 : Cond.methodLink RL 110 yX12_places ∈ ztbl := (zi8 141 (by decide +kernel) rfl)
theorem zm_L_111 : Cond.methodLink RL 111 yX11_gaps ∈ ztbl := (zi5 2 (by decide +kernel) rfl)
theorem zm_L_114 : Cond.methodLink RL 114 yX12_gaps ∈ ztbl := (zi8 145 (by decide +kernel) rfl)
theorem zm_L_115 : Cond.methodLink RL 115 yX11_widest ∈ ztbl := (zi5 6 (by decide +kernel) rfl)
theorem zm_L_118 : Cond.methodLink RL 118 yX12_widest ∈ ztbl := (zi8 153 (by decide +kernel) rfl)
theorem zm_L_119 : Cond.methodLink RL 119 yX11_closes ∈ ztbl := (zi5 12 (by decide +kernel) rfl)
theorem zm_L_122 : Cond.methodLink RL 122 yX12_closes ∈ ztbl := (zi8 158 (by decide +kernel) rfl)
theorem zm_L_123 : Cond.methodLink RL 123 yX11_walk ∈ ztbl := (zi5 16 (by decide +kernel) rfl)
theorem zm_L_126 : Cond.methodLink RL 126 yX12_walk ∈ ztbl := (zi8 162 (by decide +kernel) rfl)
theorem zm_L_127 : Cond.methodLink RL 127 yX11_plan ∈ ztbl := (zi5 21 (by decide +kernel) rfl)
theorem zm_L_130 : Cond.methodLink RL 130 yX12_plan ∈ ztbl := (zi8 166 (by decide +kernel) rfl)
theorem zm_L_131 : Cond.methodLink RL 131 yX11_joy ∈ ztbl := (zi5 58 (by decide +kernel) rfl)
theorem zm_L_134 : Cond.methodLink RL 134 yX12_joy ∈ ztbl := (zi8 182 (by decide +kernel) rfl)
theorem zm_L_135 : Cond.methodLink RL 135 yX11_saddest ∈ ztbl := (zi5 79 (by decide +kernel) rfl)
theorem zm_L_138 : Cond.methodLink RL 138 yX12_saddest ∈ ztbl := (zi8 194 (by decide +kernel) rfl)
theorem zm_L_139 : Cond.methodLink RL 139 yX11_game ∈ ztbl := (zi5 83 (by decide +kernel) rfl)
theorem zm_L_142 : Cond.methodLink RL 142 yX12_game ∈ ztbl := (zi8 198 (by decide +kernel) rfl)
theorem zm_L_143 : Cond.methodLink RL 143 yX11_lies ∈ ztbl := (zi5 107 (by decide +kernel) rfl)
theorem zm_L_146 : Cond.methodLink RL 146 yX12_lies ∈ ztbl := (zi8 223 (by decide +kernel) rfl)
theorem zm_L_147 : Cond.methodLink RL 147 yX11_ring ∈ ztbl := (zi5 111 (by decide +kernel) rfl)
theorem zm_L_151 : Cond.methodLink RL 151 yX12_ring ∈ ztbl := (zi8 227 (by decide +kernel) rfl)
theorem zm_L_152 : Cond.methodLink RL 152 yX11_untell ∈ ztbl := (zi5 123 (by decide +kernel) rfl)
theorem zm_L_156 : Cond.methodLink RL 156 yX12_untell ∈ ztbl := (zi8 239 (by decide +kernel) rfl)
theorem zm_L_157 : Cond.methodLink RL 157 yX11_later ∈ ztbl := (zi5 131 (by decide +kernel) rfl)
theorem zm_L_160 : Cond.methodLink RL 160 yX12_later ∈ ztbl := (zi9 3 (by decide +kernel) rfl)
theorem zm_L_161 : Cond.methodLink RL 161 yX11_orders ∈ ztbl := (zi5 136 (by decide +kernel) rfl)
theorem zm_L_164 : Cond.methodLink RL 164 yX12_orders ∈ ztbl := (zi9 8 (by decide +kernel) rfl)
theorem zm_L_165 : Cond.methodLink RL 165 yX11_sure ∈ ztbl := (zi5 164 (by decide +kernel) rfl)
theorem zm_L_168 : Cond.methodLink RL 168 yX12_sure ∈ ztbl := (zi9 32 (by decide +kernel) rfl)
theorem zm_L_169 : Cond.methodLink RL 169 yX11_ask ∈ ztbl := (zi5 176 (by decide +kernel) rfl)
theorem zm_L_172 : Cond.methodLink RL 172 yX12_ask ∈ ztbl := (zi9 36 (by decide +kernel) rfl)
theorem zm_L_173 : Cond.methodLink RL 173 yX11_image ∈ ztbl := (zi5 190 (by decide +kernel) rfl)
theorem zm_L_176 : Cond.methodLink RL 176 yX12_image ∈ ztbl := (zi9 44 (by decide +kernel) rfl)
theorem zm_L_177 : Cond.methodLink RL 177 yX11_back ∈ ztbl := (zi5 204 (by decide +kernel) rfl)
theorem zm_L_180 : Cond.methodLink RL 180 yX12_back ∈ ztbl := (zi9 51 (by decide +kernel) rfl)
theorem zm_L_181 : Cond.methodLink RL 181 yX11_about ∈ ztbl := (zi5 222 (by decide +kernel) rfl)
theorem zm_L_184 : Cond.methodLink RL 184 yX12_about ∈ ztbl := (zi9 55 (by decide +kernel) rfl)
theorem zm_X12_136 : Cond.methodLink RX12 136 yX12_four ∈ ztbl := (zi6 239 (by decide +kernel) rfl)
theorem zm_X12_146 : Cond.methodLink RX12 146 yX12_here ∈ ztbl := (zi7 19 (by decide +kernel) rfl)
theorem zm_X12_163 : Cond.methodLink RX12 163 yX12_isLetter ∈ ztbl := (zi7 23 (by decide +kernel) rfl)
theorem zm_X12_167 : Cond.methodLink RX12 167 yX12_isDigit ∈ ztbl := (zi7 26 (by decide +kernel) rfl)
theorem zm_X12_170 : Cond.methodLink RX12 170 yX12_isSign ∈ ztbl := (zi7 29 (by decide +kernel) rfl)
theorem zm_X12_224 : Cond.methodLink RX12 224 yX12_isOwn ∈ ztbl := (zi7 70 (by decide +kernel) rfl)
theorem zm_X12_228 : Cond.methodLink RX12 228 yX12_isWord ∈ ztbl := (zi7 37 (by decide +kernel) rfl)
theorem zm_X12_232 : Cond.methodLink RX12 232 yX12_wrong ∈ ztbl := (zi7 49 (by decide +kernel) rfl)
theorem zm_X12_235 : Cond.methodLink RX12 235 yX12_token ∈ ztbl := (zi7 15 (by decide +kernel) rfl)
theorem zm_X12_238 : Cond.methodLink RX12 238 yX12_want ∈ ztbl := (zi7 45 (by decide +kernel) rfl)
theorem zm_X12_241 : Cond.methodLink RX12 241 yX12_toldNumber ∈ ztbl := (zi7 53 (by decide +kernel) rfl)
theorem zm_X12_245 : Cond.methodLink RX12 245 yX12_isName ∈ ztbl := (zi7 66 (by decide +kernel) rfl)
theorem zm_X12_248 : Cond.methodLink RX12 248 yX12_find ∈ ztbl := (zi7 96 (by decide +kernel) rfl)
theorem zm_X12_251 : Cond.methodLink RX12 251 yX12_oldName ∈ ztbl := (zi7 108 (by decide +kernel) rfl)
theorem zm_X12_260 : Cond.methodLink RX12 260 yX12_tight ∈ ztbl := (zi7 140 (by decide +kernel) rfl)
theorem zm_X12_263 : Cond.methodLink RX12 263 yX12_add ∈ ztbl := (zi7 159 (by decide +kernel) rfl)
theorem zm_X12_276 : Cond.methodLink RX12 276 yX12_mayNot ∈ ztbl := (zi7 136 (by decide +kernel) rfl)
theorem zm_X12_279 : Cond.methodLink RX12 279 yX12_openUp ∈ ztbl := (zi7 143 (by decide +kernel) rfl)
theorem zm_X12_282 : Cond.methodLink RX12 282 yX12_isFull ∈ ztbl := (zi7 147 (by decide +kernel) rfl)
theorem zm_X12_285 : Cond.methodLink RX12 285 yX12_countUnit ∈ ztbl := (zi7 151 (by decide +kernel) rfl)
theorem zm_X12_288 : Cond.methodLink RX12 288 yX12_asked ∈ ztbl := (zi7 155 (by decide +kernel) rfl)
theorem zm_X12_292 : Cond.methodLink RX12 292 yX12_unit ∈ ztbl := (zi7 132 (by decide +kernel) rfl)
theorem zm_X12_295 : Cond.methodLink RX12 295 yX12_sign ∈ ztbl := (zi7 163 (by decide +kernel) rfl)
theorem zm_X12_298 : Cond.methodLink RX12 298 yX12_hasBracket ∈ ztbl := (zi7 167 (by decide +kernel) rfl)
theorem zm_X12_301 : Cond.methodLink RX12 301 yX12_close ∈ ztbl := (zi7 171 (by decide +kernel) rfl)
theorem zm_X12_304 : Cond.methodLink RX12 304 yX12_hasRelation ∈ ztbl := (zi7 175 (by decide +kernel) rfl)
theorem zm_X12_307 : Cond.methodLink RX12 307 yX12_truth ∈ ztbl := (zi7 218 (by decide +kernel) rfl)
theorem zm_X12_318 : Cond.methodLink RX12 318 yX12_done ∈ ztbl := (zi8 89 (by decide +kernel) rfl)
theorem zm_X12_325 : Cond.methodLink RX12 325 yX12_newName ∈ ztbl := (zi7 62 (by decide +kernel) rfl)
theorem zm_X12_328 : Cond.methodLink RX12 328 yX12_told ∈ ztbl := (zi7 41 (by decide +kernel) rfl)
theorem zm_X12_341 : Cond.methodLink RX12 341 yX12_nameBehind ∈ ztbl := (zi7 112 (by decide +kernel) rfl)
theorem zm_X12_344 : Cond.methodLink RX12 344 yX12_toldValue ∈ ztbl := (zi7 116 (by decide +kernel) rfl)
theorem zm_X12_353 : Cond.methodLink RX12 353 yX12_readPlant ∈ ztbl := (zi7 58 (by decide +kernel) rfl)
theorem zm_X12_356 : Cond.methodLink RX12 356 yX12_readTopic ∈ ztbl := (zi7 100 (by decide +kernel) rfl)
theorem zm_X12_359 : Cond.methodLink RX12 359 yX12_readBill ∈ ztbl := (zi7 104 (by decide +kernel) rfl)
theorem zm_X12_362 : Cond.methodLink RX12 362 yX12_readParty ∈ ztbl := (zi7 120 (by decide +kernel) rfl)
theorem zm_X12_365 : Cond.methodLink RX12 365 yX12_readWants ∈ ztbl := (zi7 124 (by decide +kernel) rfl)
theorem zm_X12_371 : Cond.methodLink RX12 371 yX12_readGrow ∈ ztbl := (zi7 128 (by decide +kernel) rfl)
theorem zm_X12_389 : Cond.methodLink RX12 389 yX12_readLine ∈ ztbl := (zi7 32 (by decide +kernel) rfl)
theorem zm_X12_392 : Cond.methodLink RX12 392 yX12_readAll ∈ ztbl := (zi7 11 (by decide +kernel) rfl)
theorem zm_X12_422 : Cond.methodLink RX12 422 yX12_isIn ∈ ztbl := (zi7 191 (by decide +kernel) rfl)
theorem zm_X12_426 : Cond.methodLink RX12 426 yX12_of ∈ ztbl := (zi7 198 (by decide +kernel) rfl)
theorem zm_X12_429 : Cond.methodLink RX12 429 yX12_bills ∈ ztbl := (zi7 210 (by decide +kernel) rfl)
theorem zm_X12_432 : Cond.methodLink RX12 432 yX12_lives ∈ ztbl := (zi7 214 (by decide +kernel) rfl)
theorem zm_X12_435 : Cond.methodLink RX12 435 yX12_livingSet ∈ ztbl := (zi7 206 (by decide +kernel) rfl)
theorem zm_X12_438 : Cond.methodLink RX12 438 yX12_repealedSet ∈ ztbl := (zi7 221 (by decide +kernel) rfl)
theorem zm_X12_441 : Cond.methodLink RX12 441 yX12_standing ∈ ztbl := (zi7 202 (by decide +kernel) rfl)
theorem zm_X12_444 : Cond.methodLink RX12 444 yX12_apart ∈ ztbl := (zi8 82 (by decide +kernel) rfl)
theorem zm_X12_447 : Cond.methodLink RX12 447 yX12_near ∈ ztbl := (zi8 78 (by decide +kernel) rfl)
theorem zm_X12_450 : Cond.methodLink RX12 450 yX12_grown ∈ ztbl := (zi8 85 (by decide +kernel) rfl)
theorem zm_X12_453 : Cond.methodLink RX12 453 yX12_lessen ∈ ztbl := (zi8 63 (by decide +kernel) rfl)
theorem zm_X12_456 : Cond.methodLink RX12 456 yX12_members ∈ ztbl := (zi8 67 (by decide +kernel) rfl)
theorem zm_X12_459 : Cond.methodLink RX12 459 yX12_isBill ∈ ztbl := (zi7 187 (by decide +kernel) rfl)
theorem zm_X12_462 : Cond.methodLink RX12 462 yX12_load ∈ ztbl := (zi7 194 (by decide +kernel) rfl)
theorem zm_X12_465 : Cond.methodLink RX12 465 yX12_isStake ∈ ztbl := (zi7 229 (by decide +kernel) rfl)
theorem zm_X12_468 : Cond.methodLink RX12 468 yX12_billsAt ∈ ztbl := (zi7 233 (by decide +kernel) rfl)
theorem zm_X12_471 : Cond.methodLink RX12 471 yX12_isTopic ∈ ztbl := (zi8 1 (by decide +kernel) rfl)
theorem zm_X12_474 : Cond.methodLink RX12 474 yX12_lawOf ∈ ztbl := (zi8 5 (by decide +kernel) rfl)
theorem zm_X12_477 : Cond.methodLink RX12 477 yX12_stands ∈ ztbl := (zi8 17 (by decide +kernel) rfl)
theorem zm_X12_480 : Cond.methodLink RX12 480 yX12_kill ∈ ztbl := (zi8 18 (by decide +kernel) rfl)
theorem zm_X12_483 : Cond.methodLink RX12 483 yX12_isPlant ∈ ztbl := (zi8 30 (by decide +kernel) rfl)
theorem zm_X12_486 : Cond.methodLink RX12 486 yX12_canPut ∈ ztbl := (zi8 26 (by decide +kernel) rfl)
theorem zm_X12_490 : Cond.methodLink RX12 490 yX12_act ∈ ztbl := (zi8 34 (by decide +kernel) rfl)
theorem zm_X12_493 : Cond.methodLink RX12 493 yX12_put ∈ ztbl := (zi8 38 (by decide +kernel) rfl)
theorem zm_X12_497 : Cond.methodLink RX12 497 yX12_keep ∈ ztbl := (zi8 42 (by decide +kernel) rfl)
theorem zm_X12_500 : Cond.methodLink RX12 500 yX12_stake ∈ ztbl := (zi8 58 (by decide +kernel) rfl)
theorem zm_X12_503 : Cond.methodLink RX12 503 yX12_trimHere ∈ ztbl := (zi8 59 (by decide +kernel) rfl)
theorem zm_X12_506 : Cond.methodLink RX12 506 yX12_goYear ∈ ztbl := (zi8 74 (by decide +kernel) rfl)
theorem zm_X12_509 : Cond.methodLink RX12 509 yX12_exchange ∈ ztbl := (zi8 96 (by decide +kernel) rfl)
theorem zm_X12_512 : Cond.methodLink RX12 512 yX12_goFar ∈ ztbl := (zi8 108 (by decide +kernel) rfl)
theorem zm_X12_515 : Cond.methodLink RX12 515 yX12_law ∈ ztbl := (zi8 116 (by decide +kernel) rfl)
theorem zm_X12_518 : Cond.methodLink RX12 518 yX12_isPlain ∈ ztbl := (zi8 133 (by decide +kernel) rfl)
theorem zm_X12_521 : Cond.methodLink RX12 521 yX12_clashesHere ∈ ztbl := (zi8 129 (by decide +kernel) rfl)
theorem zm_X12_524 : Cond.methodLink RX12 524 yX12_gapSet ∈ ztbl := (zi8 149 (by decide +kernel) rfl)
theorem zm_X12_527 : Cond.methodLink RX12 527 yX12_gaps ∈ ztbl := (zi8 157 (by decide +kernel) rfl)
theorem zm_X12_530 : Cond.methodLink RX12 530 yX12_layCuts ∈ ztbl := (zi8 170 (by decide +kernel) rfl)
theorem zm_X12_533 : Cond.methodLink RX12 533 yX12_standBy ∈ ztbl := (zi8 174 (by decide +kernel) rfl)
theorem zm_X12_536 : Cond.methodLink RX12 536 yX12_cutsOf ∈ ztbl := (zi8 178 (by decide +kernel) rfl)
theorem zm_X12_539 : Cond.methodLink RX12 539 yX12_isParty ∈ ztbl := (zi8 186 (by decide +kernel) rfl)
theorem zm_X12_542 : Cond.methodLink RX12 542 yX12_joyOf ∈ ztbl := (zi8 190 (by decide +kernel) rfl)
theorem zm_X12_545 : Cond.methodLink RX12 545 yX12_layEnd ∈ ztbl := (zi8 219 (by decide +kernel) rfl)
theorem zm_X12_551 : Cond.methodLink RX12 551 yX12_canPull ∈ ztbl := (zi8 203 (by decide +kernel) rfl)
theorem zm_X12_554 : Cond.methodLink RX12 554 yX12_layLast ∈ ztbl := (zi8 211 (by decide +kernel) rfl)
theorem zm_X12_560 : Cond.methodLink RX12 560 yX12_layThird ∈ ztbl := (zi8 215 (by decide +kernel) rfl)
theorem zm_X12_564 : Cond.methodLink RX12 564 yX12_laySecond ∈ ztbl := (zi8 207 (by decide +kernel) rfl)
theorem zm_X12_567 : Cond.methodLink RX12 567 yX12_firstBills ∈ ztbl := (zi8 235 (by decide +kernel) rfl)
theorem zm_X12_570 : Cond.methodLink RX12 570 yX12_isFirst ∈ ztbl := (zi8 231 (by decide +kernel) rfl)
theorem zm_X12_577 : Cond.methodLink RX12 577 yX12_exchangeOrder ∈ ztbl := (zi9 28 (by decide +kernel) rfl)
theorem zm_X12_580 : Cond.methodLink RX12 580 yX12_isBehind ∈ ztbl := (zi9 20 (by decide +kernel) rfl)
theorem zm_X12_583 : Cond.methodLink RX12 583 yX12_isOrder ∈ ztbl := (zi9 16 (by decide +kernel) rfl)
theorem zm_X12_586 : Cond.methodLink RX12 586 yX12_nextOrder ∈ ztbl := (zi9 24 (by decide +kernel) rfl)
theorem zm_X12_589 : Cond.methodLink RX12 589 yX12_layOrders ∈ ztbl := (zi9 12 (by decide +kernel) rfl)
theorem zm_X12_592 : Cond.methodLink RX12 592 yX12_mostOf ∈ ztbl := (zi9 40 (by decide +kernel) rfl)
theorem zm_X12_595 : Cond.methodLink RX12 595 yX12_isBox ∈ ztbl := (zi9 48 (by decide +kernel) rfl)
theorem zm_X12_598 : Cond.methodLink RX12 598 yX12_allLife ∈ ztbl := (zi9 59 (by decide +kernel) rfl)
theorem zm_J0_335 : Cond.methodLink RJ0 335 yJ0_coder_7d493 ∈ ztbl := (zi1 41 (by decide +kernel) rfl)
theorem zm_J0_492 : Cond.methodLink RJ0 492 yJ0_isLatin1_aae02 ∈ ztbl := (zi1 51 (by decide +kernel) rfl)
theorem zm_J0_495 : Cond.methodLink RJ0 495 yJ1_charAt_3b067 ∈ ztbl := (zi1 55 (by decide +kernel) rfl)
theorem zm_J0_498 : Cond.methodLink RJ0 498 yJ2_charAt_3b067 ∈ ztbl := (zi1 66 (by decide +kernel) rfl)
theorem zm_J0_505 : Cond.methodLink RJ0 505 yJ0_length_8abf5 ∈ ztbl := (zi3 79 (by decide +kernel) rfl)
theorem zm_J0_633 : Cond.methodLink RJ0 633 yJ0_indexOf_7cf53 ∈ ztbl := (zi3 75 (by decide +kernel) rfl)
theorem zm_J0_637 : Cond.methodLink RJ0 637 yJ1_indexOf_4cfef ∈ ztbl := (zi3 80 (by decide +kernel) rfl)
theorem zm_J0_640 : Cond.methodLink RJ0 640 yJ2_indexOf_4cfef ∈ ztbl := (zi3 93 (by decide +kernel) rfl)
theorem zm_J0_1059 : Cond.methodLink RJ0 1059 yJ3_checkIndex_8e157 ∈ ztbl := (zi1 63 (by decide +kernel) rfl)
theorem zm_J0_1062 : Cond.methodLink RJ0 1062 yJ3_checkFromToIndex_8c36e ∈ ztbl := (zi3 108 (by decide +kernel) rfl)
theorem zm_J1_9 : Cond.methodLink RJ1 9 yJ0_checkIndex_df160 ∈ ztbl := (zi1 58 (by decide +kernel) rfl)
theorem zm_J1_88 : Cond.methodLink RJ1 88 yJ1_canEncode_9a6ad ∈ ztbl := (zi3 83 (by decide +kernel) rfl)
theorem zm_J1_95 : Cond.methodLink RJ1 95 yJ1_indexOfChar_4cfef ∈ ztbl := (zi3 90 (by decide +kernel) rfl)
theorem zm_J2_48 : Cond.methodLink RJ2 48 yJ2_length_9d52b ∈ ztbl := (zi1 72 (by decide +kernel) rfl)
theorem zm_J2_67 : Cond.methodLink RJ2 67 yJ2_checkIndex_2214a ∈ ztbl := (zi1 69 (by decide +kernel) rfl)
theorem zm_J2_71 : Cond.methodLink RJ2 71 yJ2_getChar_3b067 ∈ ztbl := (zi1 76 (by decide +kernel) rfl)
theorem zm_J2_96 : Cond.methodLink RJ2 96 yJ2_checkBoundsBeginEnd_d044e ∈ ztbl := (zi3 102 (by decide +kernel) rfl)
theorem zm_J2_157 : Cond.methodLink RJ2 157 yJ11_highSurrogate_5068e ∈ ztbl := (zi3 120 (by decide +kernel) rfl)
theorem zm_J2_161 : Cond.methodLink RJ2 161 yJ11_lowSurrogate_5068e ∈ ztbl := (zi3 124 (by decide +kernel) rfl)
theorem zm_J2_164 : Cond.methodLink RJ2 164 yJ11_isValidCodePoint_9a6ad ∈ ztbl := (zi3 117 (by decide +kernel) rfl)
theorem zm_J2_228 : Cond.methodLink RJ2 228 yJ2_indexOfChar_4cfef ∈ ztbl := (zi3 99 (by decide +kernel) rfl)
theorem zm_J2_232 : Cond.methodLink RJ2 232 yJ2_indexOfSupplementary_4cfef ∈ ztbl := (zi3 114 (by decide +kernel) rfl)
theorem zm_J2_241 : Cond.methodLink RJ2 241 yJ0_checkBoundsBeginEnd_23922 ∈ ztbl := (zi3 105 (by decide +kernel) rfl)
theorem zm_J2_244 : Cond.methodLink RJ2 244 yJ2_indexOfCharUnsafe_4cfef ∈ ztbl := (zi3 111 (by decide +kernel) rfl)
theorem zm_J2_414 : Cond.methodLink RJ2 414 yJ0_checkIndex_df160 ∈ ztbl := (zi1 75 (by decide +kernel) rfl)
theorem zk_X11_317 : Cond.constant RX11 317 (100000) ∈ ztbl := (zi5 135 (by decide +kernel) rfl)
theorem zk_X12_563 : Cond.constant RX12 563 (-100000) ∈ ztbl := (zi8 202 (by decide +kernel) rfl)
theorem zk_X12_576 : Cond.constant RX12 576 (100000) ∈ ztbl := (zi9 7 (by decide +kernel) rfl)
theorem zk_J11_76 : Cond.constant RJ11 76 (56320) ∈ ztbl := (zi3 127 (by decide +kernel) rfl)
theorem zk_J11_110 : Cond.constant RJ11 110 (55232) ∈ ztbl := (zi3 123 (by decide +kernel) rfl)
theorem zk_J6_265 : Cond.constant RJ6 265 (1431655765) ∈ ztbl := (zi4 130 (by decide +kernel) rfl)
theorem zk_J6_266 : Cond.constant RJ6 266 (858993459) ∈ ztbl := (zi4 131 (by decide +kernel) rfl)
theorem zk_J6_267 : Cond.constant RJ6 267 (252645135) ∈ ztbl := (zi4 132 (by decide +kernel) rfl)
theorem zk_J2_227 : Cond.constant RJ2 227 (65536) ∈ ztbl := (zi3 98 (by decide +kernel) rfl)
theorem zk_X12_176 : Cond.constantLong RX12 176 (126943687828851) ∈ ztbl := (zi7 36 (by decide +kernel) rfl)
theorem zk_X12_178 : Cond.constantLong RX12 178 (482854661748) ∈ ztbl := (zi7 57 (by decide +kernel) rfl)
theorem zk_X12_180 : Cond.constantLong RX12 180 (1818846821) ∈ ztbl := (zi7 74 (by decide +kernel) rfl)
theorem zk_X12_182 : Cond.constantLong RX12 182 (448311485561) ∈ ztbl := (zi7 75 (by decide +kernel) rfl)
theorem zk_X12_184 : Cond.constantLong RX12 184 (500085844323) ∈ ztbl := (zi7 76 (by decide +kernel) rfl)
theorem zk_X12_186 : Cond.constantLong RX12 186 (1651076204) ∈ ztbl := (zi7 77 (by decide +kernel) rfl)
theorem zk_X12_188 : Cond.constantLong RX12 188 (28518) ∈ ztbl := (zi7 78 (by decide +kernel) rfl)
theorem zk_X12_190 : Cond.constantLong RX12 190 (24948) ∈ ztbl := (zi7 79 (by decide +kernel) rfl)
theorem zk_X12_192 : Cond.constantLong RX12 192 (1935767923) ∈ ztbl := (zi7 80 (by decide +kernel) rfl)
theorem zk_X12_194 : Cond.constantLong RX12 194 (107122481063027) ∈ ztbl := (zi7 81 (by decide +kernel) rfl)
theorem zk_X12_196 : Cond.constantLong RX12 196 (32199680756640883) ∈ ztbl := (zi7 82 (by decide +kernel) rfl)
theorem zk_X12_198 : Cond.constantLong RX12 198 (482671228025) ∈ ztbl := (zi7 83 (by decide +kernel) rfl)
theorem zk_X12_200 : Cond.constantLong RX12 200 (512735736947) ∈ ztbl := (zi7 84 (by decide +kernel) rfl)
theorem zk_X12_202 : Cond.constantLong RX12 202 (25209) ∈ ztbl := (zi7 85 (by decide +kernel) rfl)
theorem zk_X12_204 : Cond.constantLong RX12 204 (1735552887) ∈ ztbl := (zi7 86 (by decide +kernel) rfl)
theorem zk_X12_206 : Cond.constantLong RX12 206 (440006570868) ∈ ztbl := (zi7 87 (by decide +kernel) rfl)
theorem zk_X12_208 : Cond.constantLong RX12 208 (1685217655) ∈ ztbl := (zi7 88 (by decide +kernel) rfl)
theorem zk_X12_210 : Cond.constantLong RX12 210 (6383461) ∈ ztbl := (zi7 89 (by decide +kernel) rfl)
theorem zk_X12_212 : Cond.constantLong RX12 212 (495873780581) ∈ ztbl := (zi7 90 (by decide +kernel) rfl)
theorem zk_X12_214 : Cond.constantLong RX12 214 (1852137842) ∈ ztbl := (zi7 91 (by decide +kernel) rfl)
theorem zk_X12_216 : Cond.constantLong RX12 216 (2036687218) ∈ ztbl := (zi7 92 (by decide +kernel) rfl)
theorem zk_X12_218 : Cond.constantLong RX12 218 (6385252) ∈ ztbl := (zi7 93 (by decide +kernel) rfl)
theorem zk_X12_220 : Cond.constantLong RX12 220 (28530) ∈ ztbl := (zi7 94 (by decide +kernel) rfl)
theorem zk_X12_222 : Cond.constantLong RX12 222 (7237492) ∈ ztbl := (zi7 95 (by decide +kernel) rfl)
theorem zM_X0_restart : zMv yX0_restart cX0_restart 2 none 1 := ⟨(zi2 211 (by decide +kernel) rfl), (zi2 212 (by decide +kernel) rfl), (zi1 11 (by decide +kernel) rfl), (zi2 213 rfl rfl), ⟨by decide +kernel, by decide +kernel, by decide +kernel⟩, by decide⟩
theorem zM_X0_keep : zMv yX0_keep cX0_keep 2 none 1 := ⟨(zi4 107 (by decide +kernel) rfl), (zi4 108 (by decide +kernel) rfl), (zi1 11 (by decide +kernel) rfl), (zi4 109 rfl rfl), ⟨by decide +kernel, by decide +kernel, by decide +kernel⟩, by decide⟩
theorem zM_X0_stepBack : zMv yX0_stepBack cX0_stepBack 2 (some .boolean) 1 := ⟨(zi4 170 (by decide +kernel) rfl), (zi4 171 (by decide +kernel) rfl), (zi1 11 (by decide +kernel) rfl), (zi4 172 rfl rfl), ⟨by decide +kernel, by decide +kernel, by decide +kernel⟩, by decide⟩
theorem zM_X0_stepOn : zMv yX0_stepOn cX0_stepOn 2 (some .boolean) 1 := ⟨(zi4 182 (by decide +kernel) rfl), (zi4 183 (by decide +kernel) rfl), (zi1 11 (by decide +kernel) rfl), (zi4 184 rfl rfl), ⟨by decide +kernel, by decide +kernel, by decide +kernel⟩, by decide⟩
theorem zM_X0_presentRow : zMv yX0_presentRow cX0_presentRow 1 (some .int) 0 := ⟨(zi2 216 (by decide +kernel) rfl), (zj1 (n := 4) 0 (by decide +kernel)), (zi1 11 (by decide +kernel) rfl), (zi2 217 rfl rfl), ⟨by decide +kernel, by decide +kernel, by decide +kernel⟩, by decide⟩
theorem zM_X1_put : zMv yX1_put cX1_put 8 none 7 := ⟨(zi3 197 (by decide +kernel) rfl), (zi3 198 (by decide +kernel) rfl), (zi1 9 (by decide +kernel) rfl), (zi3 199 rfl rfl), ⟨by decide +kernel, by decide +kernel, by decide +kernel⟩, by decide⟩
theorem zM_X1_sortForReading : zMv yX1_sortForReading cX1_sortForReading 4 none 0 := ⟨(zi4 9 (by decide +kernel) rfl), (zi4 10 (by decide +kernel) rfl), (zi1 9 (by decide +kernel) rfl), (zi4 11 rfl rfl), ⟨by decide +kernel, by decide +kernel, by decide +kernel⟩, by decide⟩
theorem zM_X1_store : zMv yX1_store cX1_store 3 none 2 := ⟨(zi5 199 (by decide +kernel) rfl), (zi5 200 (by decide +kernel) rfl), (zi1 9 (by decide +kernel) rfl), (zi5 201 rfl rfl), ⟨by decide +kernel, by decide +kernel, by decide +kernel⟩, by decide⟩
theorem zM_X1_load : zMv yX1_load cX1_load 3 none 2 := ⟨(zi5 217 (by decide +kernel) rfl), (zi5 218 (by decide +kernel) rfl), (zi1 9 (by decide +kernel) rfl), (zi5 219 rfl rfl), ⟨by decide +kernel, by decide +kernel, by decide +kernel⟩, by decide⟩
theorem zM_X1_repealedBy : zMv yX1_repealedBy cX1_repealedBy 4 (some .int) 1 := ⟨(zi4 45 (by decide +kernel) rfl), (zi4 46 (by decide +kernel) rfl), (zi1 9 (by decide +kernel) rfl), (zi4 47 rfl rfl), ⟨by decide +kernel, by decide +kernel, by decide +kernel⟩, by decide⟩
theorem zM_X1_standing : zMv yX1_standing cX1_standing 5 (some .int) 1 := ⟨(zi4 41 (by decide +kernel) rfl), (zi4 42 (by decide +kernel) rfl), (zi1 9 (by decide +kernel) rfl), (zi4 43 rfl rfl), ⟨by decide +kernel, by decide +kernel, by decide +kernel⟩, by decide⟩
theorem zM_X1_onStake : zMv yX1_onStake cX1_onStake 5 (some .int) 2 := ⟨(zi4 58 (by decide +kernel) rfl), (zi4 59 (by decide +kernel) rfl), (zi1 9 (by decide +kernel) rfl), (zi4 60 rfl rfl), ⟨by decide +kernel, by decide +kernel, by decide +kernel⟩, by decide⟩
theorem zM_X1_othersNear : zMv yX1_othersNear cX1_othersNear 5 (some .int) 2 := ⟨(zi4 147 (by decide +kernel) rfl), (zi4 148 (by decide +kernel) rfl), (zi1 9 (by decide +kernel) rfl), (zi4 149 rfl rfl), ⟨by decide +kernel, by decide +kernel, by decide +kernel⟩, by decide⟩
theorem zM_X1_readInto : zMv yX1_readInto cX1_readInto 6 none 2 := ⟨(zi5 71 (by decide +kernel) rfl), (zi5 72 (by decide +kernel) rfl), (zi1 9 (by decide +kernel) rfl), (zi5 73 rfl rfl), ⟨by decide +kernel, by decide +kernel, by decide +kernel⟩, by decide⟩
theorem zM_X1_lawOf : zMv yX1_lawOf cX1_lawOf 3 (some .int) 2 := ⟨(zi4 70 (by decide +kernel) rfl), (zi4 71 (by decide +kernel) rfl), (zi1 9 (by decide +kernel) rfl), (zi4 72 rfl rfl), ⟨by decide +kernel, by decide +kernel, by decide +kernel⟩, by decide⟩
theorem zM_X1_lawWithNew : zMv yX1_lawWithNew cX1_lawWithNew 9 (some .int) 4 := ⟨(zi4 74 (by decide +kernel) rfl), (zi4 75 (by decide +kernel) rfl), (zi1 9 (by decide +kernel) rfl), (zi4 76 rfl rfl), ⟨by decide +kernel, by decide +kernel, by decide +kernel⟩, by decide⟩
theorem zM_X1_clashing : zMv yX1_clashing cX1_clashing 5 (some .int) 1 := ⟨(zi4 218 (by decide +kernel) rfl), (zi4 219 (by decide +kernel) rfl), (zi1 9 (by decide +kernel) rfl), (zi4 220 rfl rfl), ⟨by decide +kernel, by decide +kernel, by decide +kernel⟩, by decide⟩
theorem zM_X1_isClash : zMv yX1_isClash cX1_isClash 3 (some .boolean) 2 := ⟨(zi4 223 (by decide +kernel) rfl), (zj3 (n := 7) 11 (by decide +kernel)), (zi1 9 (by decide +kernel) rfl), (zi4 224 rfl rfl), ⟨by decide +kernel, by decide +kernel, by decide +kernel⟩, by decide⟩
theorem zM_X2_clear : zMv yX2_clear cX2_clear 1 none 0 := ⟨(zi1 207 (by decide +kernel) rfl), (zi1 208 (by decide +kernel) rfl), (zi1 8 (by decide +kernel) rfl), (zi1 209 rfl rfl), ⟨by decide +kernel, by decide +kernel, by decide +kernel⟩, by decide⟩
theorem zM_X2_emit : zMv yX2_emit cX2_emit 2 none 1 := ⟨(zi3 229 (by decide +kernel) rfl), (zi3 230 (by decide +kernel) rfl), (zi1 8 (by decide +kernel) rfl), (zi3 231 rfl rfl), ⟨by decide +kernel, by decide +kernel, by decide +kernel⟩, by decide⟩
theorem zM_X2_result : zMv yX2_result cX2_result 9 (some .int) 5 := ⟨(zi4 154 (by decide +kernel) rfl), (zi4 155 (by decide +kernel) rfl), (zi1 8 (by decide +kernel) rfl), (zi4 156 rfl rfl), ⟨by decide +kernel, by decide +kernel, by decide +kernel⟩, by decide⟩
theorem zM_X2_joined : zMs yX2_joined cX2_joined 3 (some .int) 3 := ⟨(zi4 158 (by decide +kernel) rfl), (zi1 8 (by decide +kernel) rfl), (zi4 159 rfl rfl), ⟨by decide +kernel, by decide +kernel, by decide +kernel⟩, by decide⟩
theorem zM_X3_begin : zMv yX3_begin cX3_begin 3 none 1 := ⟨(zi2 203 (by decide +kernel) rfl), (zi2 204 (by decide +kernel) rfl), (zi1 10 (by decide +kernel) rfl), (zi2 205 rfl rfl), ⟨by decide +kernel, by decide +kernel, by decide +kernel⟩, by decide⟩
theorem zM_X3_takeFrom : zMv yX3_takeFrom cX3_takeFrom 2 none 1 := ⟨(zi4 198 (by decide +kernel) rfl), (zi4 199 (by decide +kernel) rfl), (zi1 10 (by decide +kernel) rfl), (zi4 200 rfl rfl), ⟨by decide +kernel, by decide +kernel, by decide +kernel⟩, by decide⟩
theorem zM_X3_store : zMv yX3_store cX3_store 3 none 2 := ⟨(zi2 219 (by decide +kernel) rfl), (zi2 220 (by decide +kernel) rfl), (zi1 10 (by decide +kernel) rfl), (zi2 221 rfl rfl), ⟨by decide +kernel, by decide +kernel, by decide +kernel⟩, by decide⟩
theorem zM_X3_load : zMv yX3_load cX3_load 3 none 2 := ⟨(zi4 174 (by decide +kernel) rfl), (zi4 175 (by decide +kernel) rfl), (zi1 10 (by decide +kernel) rfl), (zi4 176 rfl rfl), ⟨by decide +kernel, by decide +kernel, by decide +kernel⟩, by decide⟩
theorem zM_X3_addBill : zMv yX3_addBill cX3_addBill 2 none 1 := ⟨(zi4 103 (by decide +kernel) rfl), (zi4 104 (by decide +kernel) rfl), (zi1 10 (by decide +kernel) rfl), (zi4 105 rfl rfl), ⟨by decide +kernel, by decide +kernel, by decide +kernel⟩, by decide⟩
theorem zM_X3_livingBits : zMv yX3_livingBits cX3_livingBits 3 (some .int) 0 := ⟨(zi4 37 (by decide +kernel) rfl), (zi4 38 (by decide +kernel) rfl), (zi1 10 (by decide +kernel) rfl), (zi4 39 rfl rfl), ⟨by decide +kernel, by decide +kernel, by decide +kernel⟩, by decide⟩
theorem zM_X3_allLife : zMv yX3_allLife cX3_allLife 3 (some .int) 0 := ⟨(zi5 227 (by decide +kernel) rfl), (zi5 228 (by decide +kernel) rfl), (zi1 10 (by decide +kernel) rfl), (zi5 229 rfl rfl), ⟨by decide +kernel, by decide +kernel, by decide +kernel⟩, by decide⟩
theorem zM_X3_cut : zMv yX3_cut cX3_cut 5 none 3 := ⟨(zi4 123 (by decide +kernel) rfl), (zi4 124 (by decide +kernel) rfl), (zi1 10 (by decide +kernel) rfl), (zi4 125 rfl rfl), ⟨by decide +kernel, by decide +kernel, by decide +kernel⟩, by decide⟩
theorem zM_X3_passYear : zMv yX3_passYear cX3_passYear 2 none 1 := ⟨(zi4 138 (by decide +kernel) rfl), (zi4 139 (by decide +kernel) rfl), (zi1 10 (by decide +kernel) rfl), (zi4 140 rfl rfl), ⟨by decide +kernel, by decide +kernel, by decide +kernel⟩, by decide⟩
theorem zM_X3_growAll : zMv yX3_growAll cX3_growAll 7 none 1 := ⟨(zi4 143 (by decide +kernel) rfl), (zj3 (n := 5) 7 (by decide +kernel)), (zi1 10 (by decide +kernel) rfl), (zi4 144 rfl rfl), ⟨by decide +kernel, by decide +kernel, by decide +kernel⟩, by decide⟩
theorem zM_X3_freeze : zMv yX3_freeze cX3_freeze 3 none 1 := ⟨(zi4 163 (by decide +kernel) rfl), (zj3 (n := 5) 8 (by decide +kernel)), (zi1 10 (by decide +kernel) rfl), (zi4 164 rfl rfl), ⟨by decide +kernel, by decide +kernel, by decide +kernel⟩, by decide⟩
theorem zM_X4_clear : zMv yX4_clear cX4_clear 2 none 0 := ⟨(zi1 203 (by decide +kernel) rfl), (zi1 204 (by decide +kernel) rfl), (zi1 7 (by decide +kernel) rfl), (zi1 205 rfl rfl), ⟨by decide +kernel, by decide +kernel, by decide +kernel⟩, by decide⟩
theorem zM_X4_firstLifeOf : zMv yX4_firstLifeOf cX4_firstLifeOf 3 (some .int) 1 := ⟨(zi2 207 (by decide +kernel) rfl), (zi2 208 (by decide +kernel) rfl), (zi1 7 (by decide +kernel) rfl), (zi2 209 rfl rfl), ⟨by decide +kernel, by decide +kernel, by decide +kernel⟩, by decide⟩
theorem zM_X4_joyOf : zMv yX4_joyOf cX4_joyOf 6 (some .int) 2 := ⟨(zi5 75 (by decide +kernel) rfl), (zi5 76 (by decide +kernel) rfl), (zi1 7 (by decide +kernel) rfl), (zi5 77 rfl rfl), ⟨by decide +kernel, by decide +kernel, by decide +kernel⟩, by decide⟩
theorem zM_X5_clear : zMv yX5_clear cX5_clear 1 none 0 := ⟨(zi4 13 (by decide +kernel) rfl), (zi4 14 (by decide +kernel) rfl), (zi1 12 (by decide +kernel) rfl), (zi4 15 rfl rfl), ⟨by decide +kernel, by decide +kernel, by decide +kernel⟩, by decide⟩
theorem zM_X5_has : zMv yX5_has cX5_has 2 (some .boolean) 1 := ⟨(zi5 209 (by decide +kernel) rfl), (zi5 210 (by decide +kernel) rfl), (zi1 12 (by decide +kernel) rfl), (zi5 211 rfl rfl), ⟨by decide +kernel, by decide +kernel, by decide +kernel⟩, by decide⟩
theorem zM_X5_keep : zMv yX5_keep cX5_keep 4 none 3 := ⟨(zi5 195 (by decide +kernel) rfl), (zi5 196 (by decide +kernel) rfl), (zi1 12 (by decide +kernel) rfl), (zi5 197 rfl rfl), ⟨by decide +kernel, by decide +kernel, by decide +kernel⟩, by decide⟩
theorem zM_X5_bring : zMv yX5_bring cX5_bring 4 none 3 := ⟨(zi5 213 (by decide +kernel) rfl), (zi5 214 (by decide +kernel) rfl), (zi1 12 (by decide +kernel) rfl), (zi5 215 rfl rfl), ⟨by decide +kernel, by decide +kernel, by decide +kernel⟩, by decide⟩
theorem zM_X6_gather : zMv yX6_gather cX6_gather 8 none 4 := ⟨(zi5 141 (by decide +kernel) rfl), (zi5 142 (by decide +kernel) rfl), (zi1 14 (by decide +kernel) rfl), (zi5 143 rfl rfl), ⟨by decide +kernel, by decide +kernel, by decide +kernel⟩, by decide⟩
theorem zM_X6_bitOf : zMs yX6_bitOf cX6_bitOf 1 (some .int) 1 := ⟨(zi5 146 (by decide +kernel) rfl), (zi1 14 (by decide +kernel) rfl), (zi5 147 rfl rfl), ⟨by decide +kernel, by decide +kernel, by decide +kernel⟩, by decide⟩
theorem zM_X6_isSeated : zMv yX6_isSeated cX6_isSeated 2 (some .boolean) 1 := ⟨(zi5 154 (by decide +kernel) rfl), (zj4 (n := 5) 7 (by decide +kernel)), (zi1 14 (by decide +kernel) rfl), (zi5 155 rfl rfl), ⟨by decide +kernel, by decide +kernel, by decide +kernel⟩, by decide⟩
theorem zM_X6_seatFrom : zMv yX6_seatFrom cX6_seatFrom 4 none 2 := ⟨(zi5 158 (by decide +kernel) rfl), (zj4 (n := 5) 8 (by decide +kernel)), (zi1 14 (by decide +kernel) rfl), (zi5 159 rfl rfl), ⟨by decide +kernel, by decide +kernel, by decide +kernel⟩, by decide⟩
theorem zM_X6_countSeats : zMv yX6_countSeats cX6_countSeats 3 none 0 := ⟨(zi5 162 (by decide +kernel) rfl), (zj4 (n := 5) 9 (by decide +kernel)), (zi1 14 (by decide +kernel) rfl), (zi5 163 rfl rfl), ⟨by decide +kernel, by decide +kernel, by decide +kernel⟩, by decide⟩
theorem zM_X6_tallied : zMv yX6_tallied cX6_tallied 4 (some .int) 2 := ⟨(zi5 174 (by decide +kernel) rfl), (zj4 (n := 5) 10 (by decide +kernel)), (zi1 14 (by decide +kernel) rfl), (zi5 175 rfl rfl), ⟨by decide +kernel, by decide +kernel, by decide +kernel⟩, by decide⟩
theorem zM_X6_surePlace : zMv yX6_surePlace cX6_surePlace 3 (some .int) 1 := ⟨(zi5 169 (by decide +kernel) rfl), (zi5 170 (by decide +kernel) rfl), (zi1 14 (by decide +kernel) rfl), (zi5 171 rfl rfl), ⟨by decide +kernel, by decide +kernel, by decide +kernel⟩, by decide⟩
theorem zM_X6_mostLeft : zMv yX6_mostLeft cX6_mostLeft 4 (some .int) 1 := ⟨(zi5 185 (by decide +kernel) rfl), (zi5 186 (by decide +kernel) rfl), (zi1 14 (by decide +kernel) rfl), (zi5 187 rfl rfl), ⟨by decide +kernel, by decide +kernel, by decide +kernel⟩, by decide⟩
theorem zM_X6_bestToAsk : zMv yX6_bestToAsk cX6_bestToAsk 3 (some .int) 0 := ⟨(zi5 181 (by decide +kernel) rfl), (zi5 182 (by decide +kernel) rfl), (zi1 14 (by decide +kernel) rfl), (zi5 183 rfl rfl), ⟨by decide +kernel, by decide +kernel, by decide +kernel⟩, by decide⟩
theorem zM_X7_readAll : zMv yX7_readAll cX7_readAll 3 (some .boolean) 2 := ⟨(zi3 51 (by decide +kernel) rfl), (zi3 52 (by decide +kernel) rfl), (zi1 2 (by decide +kernel) rfl), (zi3 53 rfl rfl), ⟨by decide +kernel, by decide +kernel, by decide +kernel⟩, by decide⟩
theorem zM_X7_readLine : zMv yX7_readLine cX7_readLine 2 (some .boolean) 1 := ⟨(zi3 130 (by decide +kernel) rfl), (zj1 (n := 14) 5 (by decide +kernel)), (zi1 2 (by decide +kernel) rfl), (zi3 131 rfl rfl), ⟨by decide +kernel, by decide +kernel, by decide +kernel⟩, by decide⟩
theorem zM_X7_readStakes : zMv yX7_readStakes cX7_readStakes 2 (some .boolean) 1 := ⟨(zi3 134 (by decide +kernel) rfl), (zj1 (n := 14) 6 (by decide +kernel)), (zi1 2 (by decide +kernel) rfl), (zi3 135 rfl rfl), ⟨by decide +kernel, by decide +kernel, by decide +kernel⟩, by decide⟩
theorem zM_X7_readPlant : zMv yX7_readPlant cX7_readPlant 3 (some .boolean) 1 := ⟨(zi3 150 (by decide +kernel) rfl), (zj1 (n := 14) 10 (by decide +kernel)), (zi1 2 (by decide +kernel) rfl), (zi3 151 rfl rfl), ⟨by decide +kernel, by decide +kernel, by decide +kernel⟩, by decide⟩
theorem zM_X7_readTopic : zMv yX7_readTopic cX7_readTopic 2 (some .boolean) 1 := ⟨(zi3 174 (by decide +kernel) rfl), (zj2 (n := 14) 0 (by decide +kernel)), (zi1 2 (by decide +kernel) rfl), (zi3 175 rfl rfl), ⟨by decide +kernel, by decide +kernel, by decide +kernel⟩, by decide⟩
theorem zM_X7_readParty : zMv yX7_readParty cX7_readParty 2 (some .boolean) 1 := ⟨(zi3 202 (by decide +kernel) rfl), (zj2 (n := 14) 6 (by decide +kernel)), (zi1 2 (by decide +kernel) rfl), (zi3 203 rfl rfl), ⟨by decide +kernel, by decide +kernel, by decide +kernel⟩, by decide⟩
theorem zM_X7_readBill : zMv yX7_readBill cX7_readBill 8 (some .boolean) 1 := ⟨(zi3 178 (by decide +kernel) rfl), (zj2 (n := 14) 1 (by decide +kernel)), (zi1 2 (by decide +kernel) rfl), (zi3 179 rfl rfl), ⟨by decide +kernel, by decide +kernel, by decide +kernel⟩, by decide⟩
theorem zM_X7_takeOther : zMv yX7_takeOther cX7_takeOther 3 (some .boolean) 2 := ⟨(zi3 194 (by decide +kernel) rfl), (zj2 (n := 14) 5 (by decide +kernel)), (zi1 2 (by decide +kernel) rfl), (zi3 195 rfl rfl), ⟨by decide +kernel, by decide +kernel, by decide +kernel⟩, by decide⟩
theorem zM_X7_readWants : zMv yX7_readWants cX7_readWants 5 (some .boolean) 1 := ⟨(zi3 206 (by decide +kernel) rfl), (zj2 (n := 14) 7 (by decide +kernel)), (zi1 2 (by decide +kernel) rfl), (zi3 207 rfl rfl), ⟨by decide +kernel, by decide +kernel, by decide +kernel⟩, by decide⟩
theorem zM_X7_readFrost : zMv yX7_readFrost cX7_readFrost 2 (some .boolean) 1 := ⟨(zi4 2 (by decide +kernel) rfl), (zj2 (n := 14) 15 (by decide +kernel)), (zi1 2 (by decide +kernel) rfl), (zi4 3 rfl rfl), ⟨by decide +kernel, by decide +kernel, by decide +kernel⟩, by decide⟩
theorem zM_X7_readDraw : zMv yX7_readDraw cX7_readDraw 2 (some .boolean) 1 := ⟨(zi4 6 (by decide +kernel) rfl), (zj3 (n := 14) 0 (by decide +kernel)), (zi1 2 (by decide +kernel) rfl), (zi4 7 rfl rfl), ⟨by decide +kernel, by decide +kernel, by decide +kernel⟩, by decide⟩
theorem zM_X7_beginOnce : zMv yX7_beginOnce cX7_beginOnce 2 (some .boolean) 0 := ⟨(zi3 210 (by decide +kernel) rfl), (zj2 (n := 14) 8 (by decide +kernel)), (zi1 2 (by decide +kernel) rfl), (zi3 211 rfl rfl), ⟨by decide +kernel, by decide +kernel, by decide +kernel⟩, by decide⟩
theorem zM_X7_beginSort : zMv yX7_beginSort cX7_beginSort 5 (some .boolean) 3 := ⟨(zi3 154 (by decide +kernel) rfl), (zj1 (n := 14) 11 (by decide +kernel)), (zi1 2 (by decide +kernel) rfl), (zi3 155 rfl rfl), ⟨by decide +kernel, by decide +kernel, by decide +kernel⟩, by decide⟩
theorem zM_X7_readLevel : zMv yX7_readLevel cX7_readLevel 7 (some .boolean) 3 := ⟨(zi3 214 (by decide +kernel) rfl), (zj2 (n := 14) 9 (by decide +kernel)), (zi1 2 (by decide +kernel) rfl), (zi3 215 rfl rfl), ⟨by decide +kernel, by decide +kernel, by decide +kernel⟩, by decide⟩
theorem zM_X7_readNot : zMv yX7_readNot cX7_readNot 3 (some .boolean) 2 := ⟨(zi3 234 (by decide +kernel) rfl), (zj2 (n := 14) 13 (by decide +kernel)), (zi1 2 (by decide +kernel) rfl), (zi3 235 rfl rfl), ⟨by decide +kernel, by decide +kernel, by decide +kernel⟩, by decide⟩
theorem zM_X7_readUnit : zMv yX7_readUnit cX7_readUnit 5 (some .boolean) 2 := ⟨(zi3 218 (by decide +kernel) rfl), (zj2 (n := 14) 10 (by decide +kernel)), (zi1 2 (by decide +kernel) rfl), (zi3 219 rfl rfl), ⟨by decide +kernel, by decide +kernel, by decide +kernel⟩, by decide⟩
theorem zM_X7_joinedBy : zMv yX7_joinedBy cX7_joinedBy 2 (some .int) 1 := ⟨(zi3 238 (by decide +kernel) rfl), (zj2 (n := 14) 14 (by decide +kernel)), (zi1 2 (by decide +kernel) rfl), (zi3 239 rfl rfl), ⟨by decide +kernel, by decide +kernel, by decide +kernel⟩, by decide⟩
theorem zM_X7_singleUnit : zMv yX7_singleUnit cX7_singleUnit 1 (some .int) 0 := ⟨(zi3 222 (by decide +kernel) rfl), (zj2 (n := 14) 11 (by decide +kernel)), (zi1 2 (by decide +kernel) rfl), (zi3 223 rfl rfl), ⟨by decide +kernel, by decide +kernel, by decide +kernel⟩, by decide⟩
theorem zM_X7_isWord : zMv yX7_isWord cX7_isWord 2 (some .boolean) 1 := ⟨(zi3 170 (by decide +kernel) rfl), (zj1 (n := 14) 15 (by decide +kernel)), (zi1 2 (by decide +kernel) rfl), (zi3 171 rfl rfl), ⟨by decide +kernel, by decide +kernel, by decide +kernel⟩, by decide⟩
theorem zM_X7_isName : zMv yX7_isName cX7_isName 1 (some .boolean) 0 := ⟨(zi3 158 (by decide +kernel) rfl), (zj1 (n := 14) 12 (by decide +kernel)), (zi1 2 (by decide +kernel) rfl), (zi3 159 rfl rfl), ⟨by decide +kernel, by decide +kernel, by decide +kernel⟩, by decide⟩
theorem zM_X7_isSign : zMv yX7_isSign cX7_isSign 2 (some .boolean) 1 := ⟨(zi3 190 (by decide +kernel) rfl), (zj2 (n := 14) 4 (by decide +kernel)), (zi1 2 (by decide +kernel) rfl), (zi3 191 rfl rfl), ⟨by decide +kernel, by decide +kernel, by decide +kernel⟩, by decide⟩
theorem zM_X7_takeWord : zMv yX7_takeWord cX7_takeWord 2 (some .boolean) 1 := ⟨(zi3 166 (by decide +kernel) rfl), (zj1 (n := 14) 14 (by decide +kernel)), (zi1 2 (by decide +kernel) rfl), (zi3 167 rfl rfl), ⟨by decide +kernel, by decide +kernel, by decide +kernel⟩, by decide⟩
theorem zM_X7_takeSign : zMv yX7_takeSign cX7_takeSign 2 (some .boolean) 1 := ⟨(zi3 226 (by decide +kernel) rfl), (zj2 (n := 14) 12 (by decide +kernel)), (zi1 2 (by decide +kernel) rfl), (zi3 227 rfl rfl), ⟨by decide +kernel, by decide +kernel, by decide +kernel⟩, by decide⟩
theorem zM_X7_takeNumber : zMv yX7_takeNumber cX7_takeNumber 3 (some .boolean) 2 := ⟨(zi3 146 (by decide +kernel) rfl), (zj1 (n := 14) 9 (by decide +kernel)), (zi1 2 (by decide +kernel) rfl), (zi3 147 rfl rfl), ⟨by decide +kernel, by decide +kernel, by decide +kernel⟩, by decide⟩
theorem zM_X7_takeSaying : zMv yX7_takeSaying cX7_takeSaying 3 (some .boolean) 0 := ⟨(zi3 186 (by decide +kernel) rfl), (zj2 (n := 14) 3 (by decide +kernel)), (zi1 2 (by decide +kernel) rfl), (zi3 187 rfl rfl), ⟨by decide +kernel, by decide +kernel, by decide +kernel⟩, by decide⟩
theorem zM_X7_takeKnown : zMv yX7_takeKnown cX7_takeKnown 3 (some .boolean) 2 := ⟨(zi3 182 (by decide +kernel) rfl), (zj2 (n := 14) 2 (by decide +kernel)), (zi1 2 (by decide +kernel) rfl), (zi3 183 rfl rfl), ⟨by decide +kernel, by decide +kernel, by decide +kernel⟩, by decide⟩
theorem zM_X7_findName : zMv yX7_findName cX7_findName 5 (some .int) 2 := ⟨(zi3 162 (by decide +kernel) rfl), (zj1 (n := 14) 13 (by decide +kernel)), (zi1 2 (by decide +kernel) rfl), (zi3 163 rfl rfl), ⟨by decide +kernel, by decide +kernel, by decide +kernel⟩, by decide⟩
theorem zM_X7_refuseToken : zMv yX7_refuseToken cX7_refuseToken 1 (some .boolean) 0 := ⟨(zi3 138 (by decide +kernel) rfl), (zj1 (n := 14) 7 (by decide +kernel)), (zi1 2 (by decide +kernel) rfl), (zi3 139 rfl rfl), ⟨by decide +kernel, by decide +kernel, by decide +kernel⟩, by decide⟩
theorem zM_X7_refuse : zMv yX7_refuse cX7_refuse 3 (some .boolean) 2 := ⟨(zi3 142 (by decide +kernel) rfl), (zj1 (n := 14) 8 (by decide +kernel)), (zi1 2 (by decide +kernel) rfl), (zi3 143 rfl rfl), ⟨by decide +kernel, by decide +kernel, by decide +kernel⟩, by decide⟩
theorem zM_X7_step : zMv yX7_step cX7_step 1 none 0 := ⟨(zi3 60 (by decide +kernel) rfl), (zj1 (n := 14) 2 (by decide +kernel)), (zi1 2 (by decide +kernel) rfl), (zi3 61 rfl rfl), ⟨by decide +kernel, by decide +kernel, by decide +kernel⟩, by decide⟩
theorem zM_X7_stepWord : zMv yX7_stepWord cX7_stepWord 2 none 0 := ⟨(zi3 64 (by decide +kernel) rfl), (zj1 (n := 14) 3 (by decide +kernel)), (zi1 2 (by decide +kernel) rfl), (zi3 65 rfl rfl), ⟨by decide +kernel, by decide +kernel, by decide +kernel⟩, by decide⟩
theorem zM_X7_stepNumber : zMv yX7_stepNumber cX7_stepNumber 2 none 0 := ⟨(zi3 68 (by decide +kernel) rfl), (zj1 (n := 14) 4 (by decide +kernel)), (zi1 2 (by decide +kernel) rfl), (zi3 69 rfl rfl), ⟨by decide +kernel, by decide +kernel, by decide +kernel⟩, by decide⟩
theorem zM_X8_clear : zMv yX8_clear cX8_clear 1 none 0 := ⟨(zi4 17 (by decide +kernel) rfl), (zi4 18 (by decide +kernel) rfl), (zi1 13 (by decide +kernel) rfl), (zi4 19 rfl rfl), ⟨by decide +kernel, by decide +kernel, by decide +kernel⟩, by decide⟩
theorem zM_X8_tell : zMv yX8_tell cX8_tell 3 (some .int) 2 := ⟨(zi5 120 (by decide +kernel) rfl), (zi5 121 (by decide +kernel) rfl), (zi1 13 (by decide +kernel) rfl), (zi5 122 rfl rfl), ⟨by decide +kernel, by decide +kernel, by decide +kernel⟩, by decide⟩
theorem zM_X8_takeBack : zMv yX8_takeBack cX8_takeBack 2 (some .boolean) 1 := ⟨(zi5 128 (by decide +kernel) rfl), (zi5 129 (by decide +kernel) rfl), (zi1 13 (by decide +kernel) rfl), (zi5 130 rfl rfl), ⟨by decide +kernel, by decide +kernel, by decide +kernel⟩, by decide⟩
theorem zM_X8_isKnown : zMv yX8_isKnown cX8_isKnown 3 (some .boolean) 2 := ⟨(zi5 149 (by decide +kernel) rfl), (zi5 150 (by decide +kernel) rfl), (zi1 13 (by decide +kernel) rfl), (zi5 151 rfl rfl), ⟨by decide +kernel, by decide +kernel, by decide +kernel⟩, by decide⟩
theorem zM_X9_best : zMv yX9_best cX9_best 5 (some .int) 4 := ⟨(zi5 26 (by decide +kernel) rfl), (zi5 27 (by decide +kernel) rfl), (zi1 15 (by decide +kernel) rfl), (zi5 28 rfl rfl), ⟨by decide +kernel, by decide +kernel, by decide +kernel⟩, by decide⟩
theorem zM_X9_stakeOf : zMv yX9_stakeOf cX9_stakeOf 2 (some .int) 1 := ⟨(zi5 51 (by decide +kernel) rfl), (zi5 52 (by decide +kernel) rfl), (zi1 15 (by decide +kernel) rfl), (zi5 53 rfl rfl), ⟨by decide +kernel, by decide +kernel, by decide +kernel⟩, by decide⟩
theorem zM_X9_search : zMv yX9_search cX9_search 8 none 3 := ⟨(zi5 32 (by decide +kernel) rfl), (zj3 (n := 8) 14 (by decide +kernel)), (zi1 15 (by decide +kernel) rfl), (zi5 33 rfl rfl), ⟨by decide +kernel, by decide +kernel, by decide +kernel⟩, by decide⟩
theorem zM_X9_isBetter : zMv yX9_isBetter cX9_isBetter 3 (some .boolean) 2 := ⟨(zi5 44 (by decide +kernel) rfl), (zj4 (n := 8) 0 (by decide +kernel)), (zi1 15 (by decide +kernel) rfl), (zi5 45 rfl rfl), ⟨by decide +kernel, by decide +kernel, by decide +kernel⟩, by decide⟩
theorem zM_X9_judge : zMv yX9_judge cX9_judge 3 none 2 := ⟨(zi5 40 (by decide +kernel) rfl), (zj3 (n := 8) 15 (by decide +kernel)), (zi1 15 (by decide +kernel) rfl), (zi5 41 rfl rfl), ⟨by decide +kernel, by decide +kernel, by decide +kernel⟩, by decide⟩
theorem zM_X10_best : zMv yX10_best cX10_best 3 (some .int) 2 := ⟨(zi5 88 (by decide +kernel) rfl), (zi5 89 (by decide +kernel) rfl), (zi1 16 (by decide +kernel) rfl), (zi5 90 rfl rfl), ⟨by decide +kernel, by decide +kernel, by decide +kernel⟩, by decide⟩
theorem zM_X10_pickOf : zMv yX10_pickOf cX10_pickOf 3 (some .int) 2 := ⟨(zi5 100 (by decide +kernel) rfl), (zi5 101 (by decide +kernel) rfl), (zi1 16 (by decide +kernel) rfl), (zi5 102 rfl rfl), ⟨by decide +kernel, by decide +kernel, by decide +kernel⟩, by decide⟩
theorem zM_X10_bestFrom : zMv yX10_bestFrom cX10_bestFrom 10 (some .int) 3 := ⟨(zi5 93 (by decide +kernel) rfl), (zj4 (n := 1) 4 (by decide +kernel)), (zi1 16 (by decide +kernel) rfl), (zi5 94 rfl rfl), ⟨by decide +kernel, by decide +kernel, by decide +kernel⟩, by decide⟩
theorem zM_X10_joyAfter : zMv yX10_joyAfter cX10_joyAfter 8 (some .int) 4 := ⟨(zi5 97 (by decide +kernel) rfl), (zj4 (n := 1) 5 (by decide +kernel)), (zi1 16 (by decide +kernel) rfl), (zi5 98 rfl rfl), ⟨by decide +kernel, by decide +kernel, by decide +kernel⟩, by decide⟩
theorem zM_X11_feed : zMv yX11_feed cX11_feed 6 (some .int) 5 := ⟨(zi3 35 (by decide +kernel) rfl), (zi3 36 (by decide +kernel) rfl), (zi1 1 (by decide +kernel) rfl), (zi3 37 rfl rfl), ⟨by decide +kernel, by decide +kernel, by decide +kernel⟩, by decide⟩
theorem zM_X11_putBytes : zMv yX11_putBytes cX11_putBytes 3 none 1 := ⟨(zi3 40 (by decide +kernel) rfl), (zj1 (n := 16) 1 (by decide +kernel)), (zi1 1 (by decide +kernel) rfl), (zi3 41 rfl rfl), ⟨by decide +kernel, by decide +kernel, by decide +kernel⟩, by decide⟩
theorem zM_X11_end : zMv yX11_end cX11_end 2 (some .int) 1 := ⟨(zi3 43 (by decide +kernel) rfl), (zi3 44 (by decide +kernel) rfl), (zi1 1 (by decide +kernel) rfl), (zi3 45 rfl rfl), ⟨by decide +kernel, by decide +kernel, by decide +kernel⟩, by decide⟩
theorem zM_X11_hedge : zMv yX11_hedge cX11_hedge 3 (some .int) 0 := ⟨(zi3 47 (by decide +kernel) rfl), (zi3 48 (by decide +kernel) rfl), (zi1 1 (by decide +kernel) rfl), (zi3 49 rfl rfl), ⟨by decide +kernel, by decide +kernel, by decide +kernel⟩, by decide⟩
theorem zM_X11_fault : zMv yX11_fault cX11_fault 2 (some .int) 1 := ⟨(zi4 21 (by decide +kernel) rfl), (zi4 22 (by decide +kernel) rfl), (zi1 1 (by decide +kernel) rfl), (zi4 23 rfl rfl), ⟨by decide +kernel, by decide +kernel, by decide +kernel⟩, by decide⟩
theorem zM_X11_bill : zMv yX11_bill cX11_bill 4 (some .int) 2 := ⟨(zi4 25 (by decide +kernel) rfl), (zi4 26 (by decide +kernel) rfl), (zi1 1 (by decide +kernel) rfl), (zi4 27 rfl rfl), ⟨by decide +kernel, by decide +kernel, by decide +kernel⟩, by decide⟩
theorem zM_X11_stake : zMv yX11_stake cX11_stake 3 (some .int) 2 := ⟨(zi4 50 (by decide +kernel) rfl), (zi4 51 (by decide +kernel) rfl), (zi1 1 (by decide +kernel) rfl), (zi4 52 rfl rfl), ⟨by decide +kernel, by decide +kernel, by decide +kernel⟩, by decide⟩
theorem zM_X11_law : zMv yX11_law cX11_law 2 (some .int) 1 := ⟨(zi4 62 (by decide +kernel) rfl), (zi4 63 (by decide +kernel) rfl), (zi1 1 (by decide +kernel) rfl), (zi4 64 rfl rfl), ⟨by decide +kernel, by decide +kernel, by decide +kernel⟩, by decide⟩
theorem zM_X11_stands : zMv yX11_stands cX11_stands 1 (some .int) 0 := ⟨(zi4 78 (by decide +kernel) rfl), (zi4 79 (by decide +kernel) rfl), (zi1 1 (by decide +kernel) rfl), (zi4 80 rfl rfl), ⟨by decide +kernel, by decide +kernel, by decide +kernel⟩, by decide⟩
theorem zM_X11_falls : zMv yX11_falls cX11_falls 3 (some .int) 1 := ⟨(zi4 82 (by decide +kernel) rfl), (zi4 83 (by decide +kernel) rfl), (zi1 1 (by decide +kernel) rfl), (zi4 84 rfl rfl), ⟨by decide +kernel, by decide +kernel, by decide +kernel⟩, by decide⟩
theorem zM_X11_lay : zMv yX11_lay cX11_lay 6 (some .int) 5 := ⟨(zi4 86 (by decide +kernel) rfl), (zi4 87 (by decide +kernel) rfl), (zi1 1 (by decide +kernel) rfl), (zi4 88 rfl rfl), ⟨by decide +kernel, by decide +kernel, by decide +kernel⟩, by decide⟩
theorem zM_X11_repeal : zMv yX11_repeal cX11_repeal 4 (some .int) 3 := ⟨(zi4 111 (by decide +kernel) rfl), (zi4 112 (by decide +kernel) rfl), (zi1 1 (by decide +kernel) rfl), (zi4 113 rfl rfl), ⟨by decide +kernel, by decide +kernel, by decide +kernel⟩, by decide⟩
theorem zM_X11_layBill : zMv yX11_layBill cX11_layBill 8 (some .int) 6 := ⟨(zi4 94 (by decide +kernel) rfl), (zj3 (n := 16) 5 (by decide +kernel)), (zi1 1 (by decide +kernel) rfl), (zi4 95 rfl rfl), ⟨by decide +kernel, by decide +kernel, by decide +kernel⟩, by decide⟩
theorem zM_X11_pull : zMv yX11_pull cX11_pull 3 (some .int) 1 := ⟨(zi4 115 (by decide +kernel) rfl), (zi4 116 (by decide +kernel) rfl), (zi1 1 (by decide +kernel) rfl), (zi4 117 rfl rfl), ⟨by decide +kernel, by decide +kernel, by decide +kernel⟩, by decide⟩
theorem zM_X11_trim : zMv yX11_trim cX11_trim 4 (some .int) 2 := ⟨(zi4 119 (by decide +kernel) rfl), (zi4 120 (by decide +kernel) rfl), (zi1 1 (by decide +kernel) rfl), (zi4 121 rfl rfl), ⟨by decide +kernel, by decide +kernel, by decide +kernel⟩, by decide⟩
theorem zM_X11_year : zMv yX11_year cX11_year 2 (some .int) 0 := ⟨(zi4 134 (by decide +kernel) rfl), (zi4 135 (by decide +kernel) rfl), (zi1 1 (by decide +kernel) rfl), (zi4 136 rfl rfl), ⟨by decide +kernel, by decide +kernel, by decide +kernel⟩, by decide⟩
theorem zM_X11_undo : zMv yX11_undo cX11_undo 1 (some .boolean) 0 := ⟨(zi4 166 (by decide +kernel) rfl), (zi4 167 (by decide +kernel) rfl), (zi1 1 (by decide +kernel) rfl), (zi4 168 rfl rfl), ⟨by decide +kernel, by decide +kernel, by decide +kernel⟩, by decide⟩
theorem zM_X11_redo : zMv yX11_redo cX11_redo 1 (some .boolean) 0 := ⟨(zi4 178 (by decide +kernel) rfl), (zi4 179 (by decide +kernel) rfl), (zi1 1 (by decide +kernel) rfl), (zi4 180 rfl rfl), ⟨by decide +kernel, by decide +kernel, by decide +kernel⟩, by decide⟩
theorem zM_X11_will : zMv yX11_will cX11_will 3 (some .int) 2 := ⟨(zi4 186 (by decide +kernel) rfl), (zi4 187 (by decide +kernel) rfl), (zi1 1 (by decide +kernel) rfl), (zi4 188 rfl rfl), ⟨by decide +kernel, by decide +kernel, by decide +kernel⟩, by decide⟩
theorem zM_X11_lapse : zMv yX11_lapse cX11_lapse 5 (some .int) 1 := ⟨(zi4 202 (by decide +kernel) rfl), (zi4 203 (by decide +kernel) rfl), (zi1 1 (by decide +kernel) rfl), (zi4 204 rfl rfl), ⟨by decide +kernel, by decide +kernel, by decide +kernel⟩, by decide⟩
theorem zM_X11_dies : zMv yX11_dies cX11_dies 3 (some .int) 1 := ⟨(zi4 206 (by decide +kernel) rfl), (zi4 207 (by decide +kernel) rfl), (zi1 1 (by decide +kernel) rfl), (zi4 208 rfl rfl), ⟨by decide +kernel, by decide +kernel, by decide +kernel⟩, by decide⟩
theorem zM_X11_living : zMv yX11_living cX11_living 2 (some .int) 1 := ⟨(zi4 210 (by decide +kernel) rfl), (zi4 211 (by decide +kernel) rfl), (zi1 1 (by decide +kernel) rfl), (zi4 212 rfl rfl), ⟨by decide +kernel, by decide +kernel, by decide +kernel⟩, by decide⟩
theorem zM_X11_lookAhead : zMv yX11_lookAhead cX11_lookAhead 3 none 1 := ⟨(zi4 195 (by decide +kernel) rfl), (zj3 (n := 16) 10 (by decide +kernel)), (zi1 1 (by decide +kernel) rfl), (zi4 196 rfl rfl), ⟨by decide +kernel, by decide +kernel, by decide +kernel⟩, by decide⟩
theorem zM_X11_clashes : zMv yX11_clashes cX11_clashes 1 (some .int) 0 := ⟨(zi4 214 (by decide +kernel) rfl), (zi4 215 (by decide +kernel) rfl), (zi1 1 (by decide +kernel) rfl), (zi4 216 rfl rfl), ⟨by decide +kernel, by decide +kernel, by decide +kernel⟩, by decide⟩
theorem zM_X11_weed : zMv yX11_weed cX11_weed 3 (some .int) 1 := ⟨(zi4 226 (by decide +kernel) rfl), (zi4 227 (by decide +kernel) rfl), (zi1 1 (by decide +kernel) rfl), (zi4 228 rfl rfl), ⟨by decide +kernel, by decide +kernel, by decide +kernel⟩, by decide⟩
theorem zM_X11_fewestWeeds : zMv yX11_fewestWeeds cX11_fewestWeeds 4 (some .int) 0 := ⟨(zi4 231 (by decide +kernel) rfl), (zj3 (n := 16) 12 (by decide +kernel)), (zi1 1 (by decide +kernel) rfl), (zi4 232 rfl rfl), ⟨by decide +kernel, by decide +kernel, by decide +kernel⟩, by decide⟩
theorem zM_X11_isClear : zMv yX11_isClear cX11_isClear 2 (some .boolean) 1 := ⟨(zi4 235 (by decide +kernel) rfl), (zj3 (n := 16) 13 (by decide +kernel)), (zi1 1 (by decide +kernel) rfl), (zi4 236 rfl rfl), ⟨by decide +kernel, by decide +kernel, by decide +kernel⟩, by decide⟩
theorem zM_X11_places : zMv yX11_places cX11_places 7 (some .int) 3 := ⟨(zi4 238 (by decide +kernel) rfl), (zi4 239 (by decide +kernel) rfl), (zi1 1 (by decide +kernel) rfl), (zi5 0 rfl rfl), ⟨by decide +kernel, by decide +kernel, by decide +kernel⟩, by decide⟩
theorem zM_X11_gaps : zMv yX11_gaps cX11_gaps 4 (some .int) 0 := ⟨(zi5 3 (by decide +kernel) rfl), (zi5 4 (by decide +kernel) rfl), (zi1 1 (by decide +kernel) rfl), (zi5 5 rfl rfl), ⟨by decide +kernel, by decide +kernel, by decide +kernel⟩, by decide⟩
theorem zM_X11_widest : zMv yX11_widest cX11_widest 5 (some .int) 0 := ⟨(zi5 7 (by decide +kernel) rfl), (zi5 8 (by decide +kernel) rfl), (zi1 1 (by decide +kernel) rfl), (zi5 9 rfl rfl), ⟨by decide +kernel, by decide +kernel, by decide +kernel⟩, by decide⟩
theorem zM_X11_closes : zMv yX11_closes cX11_closes 6 (some .int) 1 := ⟨(zi5 13 (by decide +kernel) rfl), (zi5 14 (by decide +kernel) rfl), (zi1 1 (by decide +kernel) rfl), (zi5 15 rfl rfl), ⟨by decide +kernel, by decide +kernel, by decide +kernel⟩, by decide⟩
theorem zM_X11_walk : zMv yX11_walk cX11_walk 6 (some .int) 2 := ⟨(zi5 17 (by decide +kernel) rfl), (zi5 18 (by decide +kernel) rfl), (zi1 1 (by decide +kernel) rfl), (zi5 19 rfl rfl), ⟨by decide +kernel, by decide +kernel, by decide +kernel⟩, by decide⟩
theorem zM_X11_plan : zMv yX11_plan cX11_plan 5 (some .int) 2 := ⟨(zi5 22 (by decide +kernel) rfl), (zi5 23 (by decide +kernel) rfl), (zi1 1 (by decide +kernel) rfl), (zi5 24 rfl rfl), ⟨by decide +kernel, by decide +kernel, by decide +kernel⟩, by decide⟩
theorem zM_X11_joy : zMv yX11_joy cX11_joy 2 (some .int) 1 := ⟨(zi5 59 (by decide +kernel) rfl), (zi5 60 (by decide +kernel) rfl), (zi1 1 (by decide +kernel) rfl), (zi5 61 rfl rfl), ⟨by decide +kernel, by decide +kernel, by decide +kernel⟩, by decide⟩
theorem zM_X11_saddest : zMv yX11_saddest cX11_saddest 5 (some .int) 0 := ⟨(zi5 80 (by decide +kernel) rfl), (zi5 81 (by decide +kernel) rfl), (zi1 1 (by decide +kernel) rfl), (zi5 82 rfl rfl), ⟨by decide +kernel, by decide +kernel, by decide +kernel⟩, by decide⟩
theorem zM_X11_joyNow : zMv yX11_joyNow cX11_joyNow 2 (some .int) 1 := ⟨(zi5 68 (by decide +kernel) rfl), (zj4 (n := 16) 3 (by decide +kernel)), (zi1 1 (by decide +kernel) rfl), (zi5 69 rfl rfl), ⟨by decide +kernel, by decide +kernel, by decide +kernel⟩, by decide⟩
theorem zM_X11_game : zMv yX11_game cX11_game 5 (some .int) 0 := ⟨(zi5 84 (by decide +kernel) rfl), (zi5 85 (by decide +kernel) rfl), (zi1 1 (by decide +kernel) rfl), (zi5 86 rfl rfl), ⟨by decide +kernel, by decide +kernel, by decide +kernel⟩, by decide⟩
theorem zM_X11_layDown : zMv yX11_layDown cX11_layDown 2 none 1 := ⟨(zi5 56 (by decide +kernel) rfl), (zj4 (n := 16) 1 (by decide +kernel)), (zi1 1 (by decide +kernel) rfl), (zi5 57 rfl rfl), ⟨by decide +kernel, by decide +kernel, by decide +kernel⟩, by decide⟩
theorem zM_X11_lies : zMv yX11_lies cX11_lies 2 (some .int) 1 := ⟨(zi5 108 (by decide +kernel) rfl), (zi5 109 (by decide +kernel) rfl), (zi1 1 (by decide +kernel) rfl), (zi5 110 rfl rfl), ⟨by decide +kernel, by decide +kernel, by decide +kernel⟩, by decide⟩
theorem zM_X11_ring : zMv yX11_ring cX11_ring 4 (some .int) 3 := ⟨(zi5 112 (by decide +kernel) rfl), (zi5 113 (by decide +kernel) rfl), (zi1 1 (by decide +kernel) rfl), (zi5 114 rfl rfl), ⟨by decide +kernel, by decide +kernel, by decide +kernel⟩, by decide⟩
theorem zM_X11_untell : zMv yX11_untell cX11_untell 2 (some .boolean) 1 := ⟨(zi5 124 (by decide +kernel) rfl), (zi5 125 (by decide +kernel) rfl), (zi1 1 (by decide +kernel) rfl), (zi5 126 rfl rfl), ⟨by decide +kernel, by decide +kernel, by decide +kernel⟩, by decide⟩
theorem zM_X11_later : zMv yX11_later cX11_later 2 (some .int) 1 := ⟨(zi5 132 (by decide +kernel) rfl), (zi5 133 (by decide +kernel) rfl), (zi1 1 (by decide +kernel) rfl), (zi5 134 rfl rfl), ⟨by decide +kernel, by decide +kernel, by decide +kernel⟩, by decide⟩
theorem zM_X11_orders : zMv yX11_orders cX11_orders 2 (some .int) 1 := ⟨(zi5 137 (by decide +kernel) rfl), (zi5 138 (by decide +kernel) rfl), (zi1 1 (by decide +kernel) rfl), (zi5 139 rfl rfl), ⟨by decide +kernel, by decide +kernel, by decide +kernel⟩, by decide⟩
theorem zM_X11_sure : zMv yX11_sure cX11_sure 3 (some .int) 2 := ⟨(zi5 165 (by decide +kernel) rfl), (zi5 166 (by decide +kernel) rfl), (zi1 1 (by decide +kernel) rfl), (zi5 167 rfl rfl), ⟨by decide +kernel, by decide +kernel, by decide +kernel⟩, by decide⟩
theorem zM_X11_ask : zMv yX11_ask cX11_ask 4 (some .int) 2 := ⟨(zi5 177 (by decide +kernel) rfl), (zi5 178 (by decide +kernel) rfl), (zi1 1 (by decide +kernel) rfl), (zi5 179 rfl rfl), ⟨by decide +kernel, by decide +kernel, by decide +kernel⟩, by decide⟩
theorem zM_X11_image : zMv yX11_image cX11_image 2 (some .int) 1 := ⟨(zi5 191 (by decide +kernel) rfl), (zi5 192 (by decide +kernel) rfl), (zi1 1 (by decide +kernel) rfl), (zi5 193 rfl rfl), ⟨by decide +kernel, by decide +kernel, by decide +kernel⟩, by decide⟩
theorem zM_X11_back : zMv yX11_back cX11_back 2 (some .int) 1 := ⟨(zi5 205 (by decide +kernel) rfl), (zi5 206 (by decide +kernel) rfl), (zi1 1 (by decide +kernel) rfl), (zi5 207 rfl rfl), ⟨by decide +kernel, by decide +kernel, by decide +kernel⟩, by decide⟩
theorem zM_X11_about : zMv yX11_about cX11_about 2 (some .int) 1 := ⟨(zi5 223 (by decide +kernel) rfl), (zi5 224 (by decide +kernel) rfl), (zi1 1 (by decide +kernel) rfl), (zi5 225 rfl rfl), ⟨by decide +kernel, by decide +kernel, by decide +kernel⟩, by decide⟩
theorem zM_X11_standingNow : zMv yX11_standingNow cX11_standingNow 1 (some .int) 0 := ⟨(zi4 34 (by decide +kernel) rfl), (zj3 (n := 16) 2 (by decide +kernel)), (zi1 1 (by decide +kernel) rfl), (zi4 35 rfl rfl), ⟨by decide +kernel, by decide +kernel, by decide +kernel⟩, by decide⟩
theorem zM_X11_isBill : zMv yX11_isBill cX11_isBill 2 (some .boolean) 1 := ⟨(zi4 30 (by decide +kernel) rfl), (zj3 (n := 16) 1 (by decide +kernel)), (zi1 1 (by decide +kernel) rfl), (zi4 31 rfl rfl), ⟨by decide +kernel, by decide +kernel, by decide +kernel⟩, by decide⟩
theorem zM_X11_isOrdered : zMv yX11_isOrdered cX11_isOrdered 2 (some .boolean) 1 := ⟨(zi5 117 (by decide +kernel) rfl), (zj4 (n := 16) 6 (by decide +kernel)), (zi1 1 (by decide +kernel) rfl), (zi5 118 rfl rfl), ⟨by decide +kernel, by decide +kernel, by decide +kernel⟩, by decide⟩
theorem zM_X11_isStake : zMv yX11_isStake cX11_isStake 2 (some .boolean) 1 := ⟨(zi4 55 (by decide +kernel) rfl), (zj3 (n := 16) 3 (by decide +kernel)), (zi1 1 (by decide +kernel) rfl), (zi4 56 rfl rfl), ⟨by decide +kernel, by decide +kernel, by decide +kernel⟩, by decide⟩
theorem zM_X11_isPlant : zMv yX11_isPlant cX11_isPlant 2 (some .boolean) 1 := ⟨(zi4 98 (by decide +kernel) rfl), (zj3 (n := 16) 6 (by decide +kernel)), (zi1 1 (by decide +kernel) rfl), (zi4 99 rfl rfl), ⟨by decide +kernel, by decide +kernel, by decide +kernel⟩, by decide⟩
theorem zM_X11_isTopic : zMv yX11_isTopic cX11_isTopic 2 (some .boolean) 1 := ⟨(zi4 67 (by decide +kernel) rfl), (zj3 (n := 16) 4 (by decide +kernel)), (zi1 1 (by decide +kernel) rfl), (zi4 68 rfl rfl), ⟨by decide +kernel, by decide +kernel, by decide +kernel⟩, by decide⟩
theorem zM_X11_isParty : zMv yX11_isParty cX11_isParty 2 (some .boolean) 1 := ⟨(zi5 64 (by decide +kernel) rfl), (zj4 (n := 16) 2 (by decide +kernel)), (zi1 1 (by decide +kernel) rfl), (zi5 65 rfl rfl), ⟨by decide +kernel, by decide +kernel, by decide +kernel⟩, by decide⟩
theorem zM_X11_isAhead : zMv yX11_isAhead cX11_isAhead 2 (some .boolean) 1 := ⟨(zi4 191 (by decide +kernel) rfl), (zj3 (n := 16) 9 (by decide +kernel)), (zi1 1 (by decide +kernel) rfl), (zi4 192 rfl rfl), ⟨by decide +kernel, by decide +kernel, by decide +kernel⟩, by decide⟩
theorem zM_X11_isSaying : zMs yX11_isSaying cX11_isSaying 1 (some .boolean) 1 := ⟨(zi4 90 (by decide +kernel) rfl), (zi1 1 (by decide +kernel) rfl), (zi4 91 rfl rfl), ⟨by decide +kernel, by decide +kernel, by decide +kernel⟩, by decide⟩
theorem zM_X12_feed : zMv yX12_feed cX12_feed 6 (some .int) 5 := ⟨(zi6 236 (by decide +kernel) rfl), (zi6 237 (by decide +kernel) rfl), (zi1 18 (by decide +kernel) rfl), (zi6 238 rfl rfl), ⟨by decide +kernel, by decide +kernel, by decide +kernel⟩, by decide⟩
theorem zM_X12_four : zMv yX12_four cX12_four 3 none 1 := ⟨(zi7 1 (by decide +kernel) rfl), (zj4 (n := 79) 11 (by decide +kernel)), (zi1 18 (by decide +kernel) rfl), (zi7 2 rfl rfl), ⟨by decide +kernel, by decide +kernel, by decide +kernel⟩, by decide⟩
theorem zM_X12_end : zMv yX12_end cX12_end 2 (some .int) 1 := ⟨(zi7 4 (by decide +kernel) rfl), (zi7 5 (by decide +kernel) rfl), (zi1 18 (by decide +kernel) rfl), (zi7 6 rfl rfl), ⟨by decide +kernel, by decide +kernel, by decide +kernel⟩, by decide⟩
theorem zM_X12_here : zMv yX12_here cX12_here 2 (some .int) 1 := ⟨(zi7 21 (by decide +kernel) rfl), (zj4 (n := 79) 14 (by decide +kernel)), (zi1 18 (by decide +kernel) rfl), (zi7 22 rfl rfl), ⟨by decide +kernel, by decide +kernel, by decide +kernel⟩, by decide⟩
theorem zM_X12_isLetter : zMs yX12_isLetter cX12_isLetter 1 (some .boolean) 1 := ⟨(zi7 24 (by decide +kernel) rfl), (zi1 18 (by decide +kernel) rfl), (zi7 25 rfl rfl), ⟨by decide +kernel, by decide +kernel, by decide +kernel⟩, by decide⟩
theorem zM_X12_isDigit : zMs yX12_isDigit cX12_isDigit 1 (some .boolean) 1 := ⟨(zi7 27 (by decide +kernel) rfl), (zi1 18 (by decide +kernel) rfl), (zi7 28 rfl rfl), ⟨by decide +kernel, by decide +kernel, by decide +kernel⟩, by decide⟩
theorem zM_X12_isSign : zMs yX12_isSign cX12_isSign 1 (some .boolean) 1 := ⟨(zi7 30 (by decide +kernel) rfl), (zi1 18 (by decide +kernel) rfl), (zi7 31 rfl rfl), ⟨by decide +kernel, by decide +kernel, by decide +kernel⟩, by decide⟩
theorem zM_X12_token : zMv yX12_token cX12_token 3 none 0 := ⟨(zi7 17 (by decide +kernel) rfl), (zj4 (n := 79) 13 (by decide +kernel)), (zi1 18 (by decide +kernel) rfl), (zi7 18 rfl rfl), ⟨by decide +kernel, by decide +kernel, by decide +kernel⟩, by decide⟩
theorem zM_X12_wrong : zMv yX12_wrong cX12_wrong 2 none 1 := ⟨(zi7 51 (by decide +kernel) rfl), (zj5 (n := 79) 3 (by decide +kernel)), (zi1 18 (by decide +kernel) rfl), (zi7 52 rfl rfl), ⟨by decide +kernel, by decide +kernel, by decide +kernel⟩, by decide⟩
theorem zM_X12_isWord : zMv yX12_isWord cX12_isWord 3 (some .boolean) 1 := ⟨(zi7 39 (by decide +kernel) rfl), (zj5 (n := 79) 0 (by decide +kernel)), (zi1 18 (by decide +kernel) rfl), (zi7 40 rfl rfl), ⟨by decide +kernel, by decide +kernel, by decide +kernel⟩, by decide⟩
theorem zM_X12_isOwn : zMv yX12_isOwn cX12_isOwn 1 (some .boolean) 0 := ⟨(zi7 72 (by decide +kernel) rfl), (zj5 (n := 79) 8 (by decide +kernel)), (zi1 18 (by decide +kernel) rfl), (zi7 73 rfl rfl), ⟨by decide +kernel, by decide +kernel, by decide +kernel⟩, by decide⟩
theorem zM_X12_isName : zMv yX12_isName cX12_isName 1 (some .boolean) 0 := ⟨(zi7 68 (by decide +kernel) rfl), (zj5 (n := 79) 7 (by decide +kernel)), (zi1 18 (by decide +kernel) rfl), (zi7 69 rfl rfl), ⟨by decide +kernel, by decide +kernel, by decide +kernel⟩, by decide⟩
theorem zM_X12_want : zMv yX12_want cX12_want 3 none 1 := ⟨(zi7 47 (by decide +kernel) rfl), (zj5 (n := 79) 2 (by decide +kernel)), (zi1 18 (by decide +kernel) rfl), (zi7 48 rfl rfl), ⟨by decide +kernel, by decide +kernel, by decide +kernel⟩, by decide⟩
theorem zM_X12_toldNumber : zMv yX12_toldNumber cX12_toldNumber 4 (some .int) 2 := ⟨(zi7 55 (by decide +kernel) rfl), (zj5 (n := 79) 4 (by decide +kernel)), (zi1 18 (by decide +kernel) rfl), (zi7 56 rfl rfl), ⟨by decide +kernel, by decide +kernel, by decide +kernel⟩, by decide⟩
theorem zM_X12_told : zMv yX12_told cX12_told 5 (some .int) 3 := ⟨(zi7 43 (by decide +kernel) rfl), (zj5 (n := 79) 1 (by decide +kernel)), (zi1 18 (by decide +kernel) rfl), (zi7 44 rfl rfl), ⟨by decide +kernel, by decide +kernel, by decide +kernel⟩, by decide⟩
theorem zM_X12_toldValue : zMv yX12_toldValue cX12_toldValue 5 (some .int) 1 := ⟨(zi7 118 (by decide +kernel) rfl), (zj5 (n := 79) 14 (by decide +kernel)), (zi1 18 (by decide +kernel) rfl), (zi7 119 rfl rfl), ⟨by decide +kernel, by decide +kernel, by decide +kernel⟩, by decide⟩
theorem zM_X12_find : zMv yX12_find cX12_find 5 (some .int) 2 := ⟨(zi7 98 (by decide +kernel) rfl), (zj5 (n := 79) 9 (by decide +kernel)), (zi1 18 (by decide +kernel) rfl), (zi7 99 rfl rfl), ⟨by decide +kernel, by decide +kernel, by decide +kernel⟩, by decide⟩
theorem zM_X12_newName : zMv yX12_newName cX12_newName 3 none 2 := ⟨(zi7 64 (by decide +kernel) rfl), (zj5 (n := 79) 6 (by decide +kernel)), (zi1 18 (by decide +kernel) rfl), (zi7 65 rfl rfl), ⟨by decide +kernel, by decide +kernel, by decide +kernel⟩, by decide⟩
theorem zM_X12_oldName : zMv yX12_oldName cX12_oldName 3 (some .int) 2 := ⟨(zi7 110 (by decide +kernel) rfl), (zj5 (n := 79) 12 (by decide +kernel)), (zi1 18 (by decide +kernel) rfl), (zi7 111 rfl rfl), ⟨by decide +kernel, by decide +kernel, by decide +kernel⟩, by decide⟩
theorem zM_X12_nameBehind : zMv yX12_nameBehind cX12_nameBehind 6 (some .int) 3 := ⟨(zi7 114 (by decide +kernel) rfl), (zj5 (n := 79) 13 (by decide +kernel)), (zi1 18 (by decide +kernel) rfl), (zi7 115 rfl rfl), ⟨by decide +kernel, by decide +kernel, by decide +kernel⟩, by decide⟩
theorem zM_X12_add : zMv yX12_add cX12_add 3 none 2 := ⟨(zi7 161 (by decide +kernel) rfl), (zj6 (n := 79) 8 (by decide +kernel)), (zi1 18 (by decide +kernel) rfl), (zi7 162 rfl rfl), ⟨by decide +kernel, by decide +kernel, by decide +kernel⟩, by decide⟩
theorem zM_X12_tight : zMs yX12_tight cX12_tight 1 (some .int) 1 := ⟨(zi7 141 (by decide +kernel) rfl), (zi1 18 (by decide +kernel) rfl), (zi7 142 rfl rfl), ⟨by decide +kernel, by decide +kernel, by decide +kernel⟩, by decide⟩
theorem zM_X12_close : zMv yX12_close cX12_close 2 none 1 := ⟨(zi7 173 (by decide +kernel) rfl), (zj6 (n := 79) 11 (by decide +kernel)), (zi1 18 (by decide +kernel) rfl), (zi7 174 rfl rfl), ⟨by decide +kernel, by decide +kernel, by decide +kernel⟩, by decide⟩
theorem zM_X12_hasRelation : zMv yX12_hasRelation cX12_hasRelation 2 (some .boolean) 0 := ⟨(zi7 177 (by decide +kernel) rfl), (zj6 (n := 79) 12 (by decide +kernel)), (zi1 18 (by decide +kernel) rfl), (zi7 178 rfl rfl), ⟨by decide +kernel, by decide +kernel, by decide +kernel⟩, by decide⟩
theorem zM_X12_mayNot : zMv yX12_mayNot cX12_mayNot 1 (some .boolean) 0 := ⟨(zi7 138 (by decide +kernel) rfl), (zj6 (n := 79) 3 (by decide +kernel)), (zi1 18 (by decide +kernel) rfl), (zi7 139 rfl rfl), ⟨by decide +kernel, by decide +kernel, by decide +kernel⟩, by decide⟩
theorem zM_X12_asked : zMv yX12_asked cX12_asked 1 (some .int) 0 := ⟨(zi7 157 (by decide +kernel) rfl), (zj6 (n := 79) 7 (by decide +kernel)), (zi1 18 (by decide +kernel) rfl), (zi7 158 rfl rfl), ⟨by decide +kernel, by decide +kernel, by decide +kernel⟩, by decide⟩
theorem zM_X12_isFull : zMv yX12_isFull cX12_isFull 1 (some .boolean) 0 := ⟨(zi7 149 (by decide +kernel) rfl), (zj6 (n := 79) 5 (by decide +kernel)), (zi1 18 (by decide +kernel) rfl), (zi7 150 rfl rfl), ⟨by decide +kernel, by decide +kernel, by decide +kernel⟩, by decide⟩
theorem zM_X12_countUnit : zMv yX12_countUnit cX12_countUnit 1 none 0 := ⟨(zi7 153 (by decide +kernel) rfl), (zj6 (n := 79) 6 (by decide +kernel)), (zi1 18 (by decide +kernel) rfl), (zi7 154 rfl rfl), ⟨by decide +kernel, by decide +kernel, by decide +kernel⟩, by decide⟩
theorem zM_X12_openUp : zMv yX12_openUp cX12_openUp 2 none 1 := ⟨(zi7 145 (by decide +kernel) rfl), (zj6 (n := 79) 4 (by decide +kernel)), (zi1 18 (by decide +kernel) rfl), (zi7 146 rfl rfl), ⟨by decide +kernel, by decide +kernel, by decide +kernel⟩, by decide⟩
theorem zM_X12_unit : zMv yX12_unit cX12_unit 3 none 0 := ⟨(zi7 134 (by decide +kernel) rfl), (zj6 (n := 79) 2 (by decide +kernel)), (zi1 18 (by decide +kernel) rfl), (zi7 135 rfl rfl), ⟨by decide +kernel, by decide +kernel, by decide +kernel⟩, by decide⟩
theorem zM_X12_sign : zMv yX12_sign cX12_sign 1 (some .int) 0 := ⟨(zi7 165 (by decide +kernel) rfl), (zj6 (n := 79) 9 (by decide +kernel)), (zi1 18 (by decide +kernel) rfl), (zi7 166 rfl rfl), ⟨by decide +kernel, by decide +kernel, by decide +kernel⟩, by decide⟩
theorem zM_X12_hasBracket : zMv yX12_hasBracket cX12_hasBracket 3 (some .boolean) 0 := ⟨(zi7 169 (by decide +kernel) rfl), (zj6 (n := 79) 10 (by decide +kernel)), (zi1 18 (by decide +kernel) rfl), (zi7 170 rfl rfl), ⟨by decide +kernel, by decide +kernel, by decide +kernel⟩, by decide⟩
theorem zM_X12_readGrow : zMv yX12_readGrow cX12_readGrow 3 none 0 := ⟨(zi7 130 (by decide +kernel) rfl), (zj6 (n := 79) 1 (by decide +kernel)), (zi1 18 (by decide +kernel) rfl), (zi7 131 rfl rfl), ⟨by decide +kernel, by decide +kernel, by decide +kernel⟩, by decide⟩
theorem zM_X12_truth : zMs yX12_truth cX12_truth 1 (some .int) 1 := ⟨(zi7 219 (by decide +kernel) rfl), (zi1 18 (by decide +kernel) rfl), (zi7 220 rfl rfl), ⟨by decide +kernel, by decide +kernel, by decide +kernel⟩, by decide⟩
theorem zM_X12_done : zMs yX12_done cX12_done 3 (some .int) 3 := ⟨(zi8 90 (by decide +kernel) rfl), (zi1 18 (by decide +kernel) rfl), (zi8 91 rfl rfl), ⟨by decide +kernel, by decide +kernel, by decide +kernel⟩, by decide⟩
theorem zM_X12_grown : zMv yX12_grown cX12_grown 3 (some .int) 0 := ⟨(zi8 87 (by decide +kernel) rfl), (zj8 (n := 79) 3 (by decide +kernel)), (zi1 18 (by decide +kernel) rfl), (zi8 88 rfl rfl), ⟨by decide +kernel, by decide +kernel, by decide +kernel⟩, by decide⟩
theorem zM_X12_readPlant : zMv yX12_readPlant cX12_readPlant 1 none 0 := ⟨(zi7 60 (by decide +kernel) rfl), (zj5 (n := 79) 5 (by decide +kernel)), (zi1 18 (by decide +kernel) rfl), (zi7 61 rfl rfl), ⟨by decide +kernel, by decide +kernel, by decide +kernel⟩, by decide⟩
theorem zM_X12_readTopic : zMv yX12_readTopic cX12_readTopic 1 none 0 := ⟨(zi7 102 (by decide +kernel) rfl), (zj5 (n := 79) 10 (by decide +kernel)), (zi1 18 (by decide +kernel) rfl), (zi7 103 rfl rfl), ⟨by decide +kernel, by decide +kernel, by decide +kernel⟩, by decide⟩
theorem zM_X12_readBill : zMv yX12_readBill cX12_readBill 2 none 0 := ⟨(zi7 106 (by decide +kernel) rfl), (zj5 (n := 79) 11 (by decide +kernel)), (zi1 18 (by decide +kernel) rfl), (zi7 107 rfl rfl), ⟨by decide +kernel, by decide +kernel, by decide +kernel⟩, by decide⟩
theorem zM_X12_readParty : zMv yX12_readParty cX12_readParty 2 none 0 := ⟨(zi7 122 (by decide +kernel) rfl), (zj5 (n := 79) 15 (by decide +kernel)), (zi1 18 (by decide +kernel) rfl), (zi7 123 rfl rfl), ⟨by decide +kernel, by decide +kernel, by decide +kernel⟩, by decide⟩
theorem zM_X12_readWants : zMv yX12_readWants cX12_readWants 5 none 0 := ⟨(zi7 126 (by decide +kernel) rfl), (zj6 (n := 79) 0 (by decide +kernel)), (zi1 18 (by decide +kernel) rfl), (zi7 127 rfl rfl), ⟨by decide +kernel, by decide +kernel, by decide +kernel⟩, by decide⟩
theorem zM_X12_readLine : zMv yX12_readLine cX12_readLine 1 none 0 := ⟨(zi7 34 (by decide +kernel) rfl), (zj4 (n := 79) 15 (by decide +kernel)), (zi1 18 (by decide +kernel) rfl), (zi7 35 rfl rfl), ⟨by decide +kernel, by decide +kernel, by decide +kernel⟩, by decide⟩
theorem zM_X12_readAll : zMv yX12_readAll cX12_readAll 1 none 0 := ⟨(zi7 13 (by decide +kernel) rfl), (zj4 (n := 79) 12 (by decide +kernel)), (zi1 18 (by decide +kernel) rfl), (zi7 14 rfl rfl), ⟨by decide +kernel, by decide +kernel, by decide +kernel⟩, by decide⟩
theorem zM_X12_hedge : zMv yX12_hedge cX12_hedge 2 (some .int) 0 := ⟨(zi7 8 (by decide +kernel) rfl), (zi7 9 (by decide +kernel) rfl), (zi1 18 (by decide +kernel) rfl), (zi7 10 rfl rfl), ⟨by decide +kernel, by decide +kernel, by decide +kernel⟩, by decide⟩
theorem zM_X12_fault : zMv yX12_fault cX12_fault 2 (some .int) 1 := ⟨(zi7 180 (by decide +kernel) rfl), (zi7 181 (by decide +kernel) rfl), (zi1 18 (by decide +kernel) rfl), (zi7 182 rfl rfl), ⟨by decide +kernel, by decide +kernel, by decide +kernel⟩, by decide⟩
theorem zM_X12_isIn : zMs yX12_isIn cX12_isIn 3 (some .boolean) 3 := ⟨(zi7 192 (by decide +kernel) rfl), (zi1 18 (by decide +kernel) rfl), (zi7 193 rfl rfl), ⟨by decide +kernel, by decide +kernel, by decide +kernel⟩, by decide⟩
theorem zM_X12_isBill : zMv yX12_isBill cX12_isBill 2 (some .boolean) 1 := ⟨(zi7 189 (by decide +kernel) rfl), (zj6 (n := 79) 13 (by decide +kernel)), (zi1 18 (by decide +kernel) rfl), (zi7 190 rfl rfl), ⟨by decide +kernel, by decide +kernel, by decide +kernel⟩, by decide⟩
theorem zM_X12_isStake : zMv yX12_isStake cX12_isStake 2 (some .boolean) 1 := ⟨(zi7 231 (by decide +kernel) rfl), (zj7 (n := 79) 5 (by decide +kernel)), (zi1 18 (by decide +kernel) rfl), (zi7 232 rfl rfl), ⟨by decide +kernel, by decide +kernel, by decide +kernel⟩, by decide⟩
theorem zM_X12_isTopic : zMv yX12_isTopic cX12_isTopic 2 (some .boolean) 1 := ⟨(zi8 3 (by decide +kernel) rfl), (zj7 (n := 79) 7 (by decide +kernel)), (zi1 18 (by decide +kernel) rfl), (zi8 4 rfl rfl), ⟨by decide +kernel, by decide +kernel, by decide +kernel⟩, by decide⟩
theorem zM_X12_isPlant : zMv yX12_isPlant cX12_isPlant 2 (some .boolean) 1 := ⟨(zi8 32 (by decide +kernel) rfl), (zj7 (n := 79) 11 (by decide +kernel)), (zi1 18 (by decide +kernel) rfl), (zi8 33 rfl rfl), ⟨by decide +kernel, by decide +kernel, by decide +kernel⟩, by decide⟩
theorem zM_X12_load : zMv yX12_load cX12_load 2 none 0 := ⟨(zi7 196 (by decide +kernel) rfl), (zj6 (n := 79) 14 (by decide +kernel)), (zi1 18 (by decide +kernel) rfl), (zi7 197 rfl rfl), ⟨by decide +kernel, by decide +kernel, by decide +kernel⟩, by decide⟩
theorem zM_X12_of : zMv yX12_of cX12_of 3 (some .int) 2 := ⟨(zi7 200 (by decide +kernel) rfl), (zj6 (n := 79) 15 (by decide +kernel)), (zi1 18 (by decide +kernel) rfl), (zi7 201 rfl rfl), ⟨by decide +kernel, by decide +kernel, by decide +kernel⟩, by decide⟩
theorem zM_X12_bills : zMv yX12_bills cX12_bills 1 (some .int) 0 := ⟨(zi7 212 (by decide +kernel) rfl), (zj7 (n := 79) 2 (by decide +kernel)), (zi1 18 (by decide +kernel) rfl), (zi7 213 rfl rfl), ⟨by decide +kernel, by decide +kernel, by decide +kernel⟩, by decide⟩
theorem zM_X12_lives : zMv yX12_lives cX12_lives 2 (some .boolean) 1 := ⟨(zi7 216 (by decide +kernel) rfl), (zj7 (n := 79) 3 (by decide +kernel)), (zi1 18 (by decide +kernel) rfl), (zi7 217 rfl rfl), ⟨by decide +kernel, by decide +kernel, by decide +kernel⟩, by decide⟩
theorem zM_X12_livingSet : zMv yX12_livingSet cX12_livingSet 3 (some .int) 0 := ⟨(zi7 208 (by decide +kernel) rfl), (zj7 (n := 79) 1 (by decide +kernel)), (zi1 18 (by decide +kernel) rfl), (zi7 209 rfl rfl), ⟨by decide +kernel, by decide +kernel, by decide +kernel⟩, by decide⟩
theorem zM_X12_repealedSet : zMv yX12_repealedSet cX12_repealedSet 3 (some .int) 0 := ⟨(zi7 223 (by decide +kernel) rfl), (zj7 (n := 79) 4 (by decide +kernel)), (zi1 18 (by decide +kernel) rfl), (zi7 224 rfl rfl), ⟨by decide +kernel, by decide +kernel, by decide +kernel⟩, by decide⟩
theorem zM_X12_standing : zMv yX12_standing cX12_standing 4 (some .int) 0 := ⟨(zi7 204 (by decide +kernel) rfl), (zj7 (n := 79) 0 (by decide +kernel)), (zi1 18 (by decide +kernel) rfl), (zi7 205 rfl rfl), ⟨by decide +kernel, by decide +kernel, by decide +kernel⟩, by decide⟩
theorem zM_X12_lawOf : zMv yX12_lawOf cX12_lawOf 6 (some .int) 1 := ⟨(zi8 7 (by decide +kernel) rfl), (zj7 (n := 79) 8 (by decide +kernel)), (zi1 18 (by decide +kernel) rfl), (zi8 8 rfl rfl), ⟨by decide +kernel, by decide +kernel, by decide +kernel⟩, by decide⟩
theorem zM_X12_apart : zMs yX12_apart cX12_apart 2 (some .int) 2 := ⟨(zi8 83 (by decide +kernel) rfl), (zi1 18 (by decide +kernel) rfl), (zi8 84 rfl rfl), ⟨by decide +kernel, by decide +kernel, by decide +kernel⟩, by decide⟩
theorem zM_X12_near : zMv yX12_near cX12_near 4 (some .int) 1 := ⟨(zi8 80 (by decide +kernel) rfl), (zj8 (n := 79) 2 (by decide +kernel)), (zi1 18 (by decide +kernel) rfl), (zi8 81 rfl rfl), ⟨by decide +kernel, by decide +kernel, by decide +kernel⟩, by decide⟩
theorem zM_X12_lessen : zMv yX12_lessen cX12_lessen 3 none 2 := ⟨(zi8 65 (by decide +kernel) rfl), (zj8 (n := 79) 0 (by decide +kernel)), (zi1 18 (by decide +kernel) rfl), (zi8 66 rfl rfl), ⟨by decide +kernel, by decide +kernel, by decide +kernel⟩, by decide⟩
theorem zM_X12_goYear : zMv yX12_goYear cX12_goYear 4 (some .int) 0 := ⟨(zi8 76 (by decide +kernel) rfl), (zj8 (n := 79) 1 (by decide +kernel)), (zi1 18 (by decide +kernel) rfl), (zi8 77 rfl rfl), ⟨by decide +kernel, by decide +kernel, by decide +kernel⟩, by decide⟩
theorem zM_X12_members : zMs yX12_members cX12_members 3 (some .int) 1 := ⟨(zi8 68 (by decide +kernel) rfl), (zi1 18 (by decide +kernel) rfl), (zi8 69 rfl rfl), ⟨by decide +kernel, by decide +kernel, by decide +kernel⟩, by decide⟩
theorem zM_X12_bill : zMv yX12_bill cX12_bill 3 (some .int) 2 := ⟨(zi7 184 (by decide +kernel) rfl), (zi7 185 (by decide +kernel) rfl), (zi1 18 (by decide +kernel) rfl), (zi7 186 rfl rfl), ⟨by decide +kernel, by decide +kernel, by decide +kernel⟩, by decide⟩
theorem zM_X12_billsAt : zMv yX12_billsAt cX12_billsAt 4 (some .int) 1 := ⟨(zi7 235 (by decide +kernel) rfl), (zj7 (n := 79) 6 (by decide +kernel)), (zi1 18 (by decide +kernel) rfl), (zi7 236 rfl rfl), ⟨by decide +kernel, by decide +kernel, by decide +kernel⟩, by decide⟩
theorem zM_X12_stake : zMv yX12_stake cX12_stake 3 (some .int) 2 := ⟨(zi7 226 (by decide +kernel) rfl), (zi7 227 (by decide +kernel) rfl), (zi1 18 (by decide +kernel) rfl), (zi7 228 rfl rfl), ⟨by decide +kernel, by decide +kernel, by decide +kernel⟩, by decide⟩
theorem zM_X12_law : zMv yX12_law cX12_law 2 (some .int) 1 := ⟨(zi7 238 (by decide +kernel) rfl), (zi7 239 (by decide +kernel) rfl), (zi1 18 (by decide +kernel) rfl), (zi8 0 rfl rfl), ⟨by decide +kernel, by decide +kernel, by decide +kernel⟩, by decide⟩
theorem zM_X12_stands : zMv yX12_stands cX12_stands 1 (some .int) 0 := ⟨(zi8 10 (by decide +kernel) rfl), (zi8 11 (by decide +kernel) rfl), (zi1 18 (by decide +kernel) rfl), (zi8 12 rfl rfl), ⟨by decide +kernel, by decide +kernel, by decide +kernel⟩, by decide⟩
theorem zM_X12_kill : zMv yX12_kill cX12_kill 2 none 1 := ⟨(zi8 20 (by decide +kernel) rfl), (zj7 (n := 79) 9 (by decide +kernel)), (zi1 18 (by decide +kernel) rfl), (zi8 21 rfl rfl), ⟨by decide +kernel, by decide +kernel, by decide +kernel⟩, by decide⟩
theorem zM_X12_falls : zMv yX12_falls cX12_falls 3 (some .int) 1 := ⟨(zi8 14 (by decide +kernel) rfl), (zi8 15 (by decide +kernel) rfl), (zi1 18 (by decide +kernel) rfl), (zi8 16 rfl rfl), ⟨by decide +kernel, by decide +kernel, by decide +kernel⟩, by decide⟩
theorem zM_X12_act : zMv yX12_act cX12_act 2 none 0 := ⟨(zi8 36 (by decide +kernel) rfl), (zj7 (n := 79) 12 (by decide +kernel)), (zi1 18 (by decide +kernel) rfl), (zi8 37 rfl rfl), ⟨by decide +kernel, by decide +kernel, by decide +kernel⟩, by decide⟩
theorem zM_X12_exchange : zMv yX12_exchange cX12_exchange 4 none 1 := ⟨(zi8 98 (by decide +kernel) rfl), (zj8 (n := 79) 4 (by decide +kernel)), (zi1 18 (by decide +kernel) rfl), (zi8 99 rfl rfl), ⟨by decide +kernel, by decide +kernel, by decide +kernel⟩, by decide⟩
theorem zM_X12_keep : zMv yX12_keep cX12_keep 2 none 0 := ⟨(zi8 44 (by decide +kernel) rfl), (zj7 (n := 79) 14 (by decide +kernel)), (zi1 18 (by decide +kernel) rfl), (zi8 45 rfl rfl), ⟨by decide +kernel, by decide +kernel, by decide +kernel⟩, by decide⟩
theorem zM_X12_put : zMv yX12_put cX12_put 8 none 6 := ⟨(zi8 40 (by decide +kernel) rfl), (zj7 (n := 79) 13 (by decide +kernel)), (zi1 18 (by decide +kernel) rfl), (zi8 41 rfl rfl), ⟨by decide +kernel, by decide +kernel, by decide +kernel⟩, by decide⟩
theorem zM_X12_canPut : zMv yX12_canPut cX12_canPut 3 (some .boolean) 2 := ⟨(zi8 28 (by decide +kernel) rfl), (zj7 (n := 79) 10 (by decide +kernel)), (zi1 18 (by decide +kernel) rfl), (zi8 29 rfl rfl), ⟨by decide +kernel, by decide +kernel, by decide +kernel⟩, by decide⟩
theorem zM_X12_lay : zMv yX12_lay cX12_lay 6 (some .int) 5 := ⟨(zi8 23 (by decide +kernel) rfl), (zi8 24 (by decide +kernel) rfl), (zi1 18 (by decide +kernel) rfl), (zi8 25 rfl rfl), ⟨by decide +kernel, by decide +kernel, by decide +kernel⟩, by decide⟩
theorem zM_X12_repeal : zMv yX12_repeal cX12_repeal 4 (some .int) 3 := ⟨(zi8 47 (by decide +kernel) rfl), (zi8 48 (by decide +kernel) rfl), (zi1 18 (by decide +kernel) rfl), (zi8 49 rfl rfl), ⟨by decide +kernel, by decide +kernel, by decide +kernel⟩, by decide⟩
theorem zM_X12_pull : zMv yX12_pull cX12_pull 3 (some .int) 1 := ⟨(zi8 51 (by decide +kernel) rfl), (zi8 52 (by decide +kernel) rfl), (zi1 18 (by decide +kernel) rfl), (zi8 53 rfl rfl), ⟨by decide +kernel, by decide +kernel, by decide +kernel⟩, by decide⟩
theorem zM_X12_trimHere : zMv yX12_trimHere cX12_trimHere 4 none 2 := ⟨(zi8 61 (by decide +kernel) rfl), (zj7 (n := 79) 15 (by decide +kernel)), (zi1 18 (by decide +kernel) rfl), (zi8 62 rfl rfl), ⟨by decide +kernel, by decide +kernel, by decide +kernel⟩, by decide⟩
theorem zM_X12_trim : zMv yX12_trim cX12_trim 4 (some .int) 2 := ⟨(zi8 55 (by decide +kernel) rfl), (zi8 56 (by decide +kernel) rfl), (zi1 18 (by decide +kernel) rfl), (zi8 57 rfl rfl), ⟨by decide +kernel, by decide +kernel, by decide +kernel⟩, by decide⟩
theorem zM_X12_year : zMv yX12_year cX12_year 2 (some .int) 0 := ⟨(zi8 71 (by decide +kernel) rfl), (zi8 72 (by decide +kernel) rfl), (zi1 18 (by decide +kernel) rfl), (zi8 73 rfl rfl), ⟨by decide +kernel, by decide +kernel, by decide +kernel⟩, by decide⟩
theorem zM_X12_undo : zMv yX12_undo cX12_undo 1 (some .boolean) 0 := ⟨(zi8 93 (by decide +kernel) rfl), (zi8 94 (by decide +kernel) rfl), (zi1 18 (by decide +kernel) rfl), (zi8 95 rfl rfl), ⟨by decide +kernel, by decide +kernel, by decide +kernel⟩, by decide⟩
theorem zM_X12_redo : zMv yX12_redo cX12_redo 1 (some .boolean) 0 := ⟨(zi8 101 (by decide +kernel) rfl), (zi8 102 (by decide +kernel) rfl), (zi1 18 (by decide +kernel) rfl), (zi8 103 rfl rfl), ⟨by decide +kernel, by decide +kernel, by decide +kernel⟩, by decide⟩
theorem zM_X12_goFar : zMv yX12_goFar cX12_goFar 3 none 1 := ⟨(zi8 110 (by decide +kernel) rfl), (zj8 (n := 79) 5 (by decide +kernel)), (zi1 18 (by decide +kernel) rfl), (zi8 111 rfl rfl), ⟨by decide +kernel, by decide +kernel, by decide +kernel⟩, by decide⟩
theorem zM_X12_will : zMv yX12_will cX12_will 3 (some .int) 2 := ⟨(zi8 105 (by decide +kernel) rfl), (zi8 106 (by decide +kernel) rfl), (zi1 18 (by decide +kernel) rfl), (zi8 107 rfl rfl), ⟨by decide +kernel, by decide +kernel, by decide +kernel⟩, by decide⟩
theorem zM_X12_lapse : zMv yX12_lapse cX12_lapse 4 (some .int) 1 := ⟨(zi8 113 (by decide +kernel) rfl), (zi8 114 (by decide +kernel) rfl), (zi1 18 (by decide +kernel) rfl), (zi8 115 rfl rfl), ⟨by decide +kernel, by decide +kernel, by decide +kernel⟩, by decide⟩
theorem zM_X12_dies : zMv yX12_dies cX12_dies 3 (some .int) 1 := ⟨(zi8 118 (by decide +kernel) rfl), (zi8 119 (by decide +kernel) rfl), (zi1 18 (by decide +kernel) rfl), (zi8 120 rfl rfl), ⟨by decide +kernel, by decide +kernel, by decide +kernel⟩, by decide⟩
theorem zM_X12_living : zMv yX12_living cX12_living 2 (some .int) 1 := ⟨(zi8 122 (by decide +kernel) rfl), (zi8 123 (by decide +kernel) rfl), (zi1 18 (by decide +kernel) rfl), (zi8 124 rfl rfl), ⟨by decide +kernel, by decide +kernel, by decide +kernel⟩, by decide⟩
theorem zM_X12_isPlain : zMv yX12_isPlain cX12_isPlain 3 (some .boolean) 2 := ⟨(zi8 135 (by decide +kernel) rfl), (zj8 (n := 79) 7 (by decide +kernel)), (zi1 18 (by decide +kernel) rfl), (zi8 136 rfl rfl), ⟨by decide +kernel, by decide +kernel, by decide +kernel⟩, by decide⟩
theorem zM_X12_clashesHere : zMv yX12_clashesHere cX12_clashesHere 5 (some .int) 0 := ⟨(zi8 131 (by decide +kernel) rfl), (zj8 (n := 79) 6 (by decide +kernel)), (zi1 18 (by decide +kernel) rfl), (zi8 132 rfl rfl), ⟨by decide +kernel, by decide +kernel, by decide +kernel⟩, by decide⟩
theorem zM_X12_clashes : zMv yX12_clashes cX12_clashes 1 (some .int) 0 := ⟨(zi8 126 (by decide +kernel) rfl), (zi8 127 (by decide +kernel) rfl), (zi1 18 (by decide +kernel) rfl), (zi8 128 rfl rfl), ⟨by decide +kernel, by decide +kernel, by decide +kernel⟩, by decide⟩
theorem zM_X12_weed : zMv yX12_weed cX12_weed 5 (some .int) 1 := ⟨(zi8 138 (by decide +kernel) rfl), (zi8 139 (by decide +kernel) rfl), (zi1 18 (by decide +kernel) rfl), (zi8 140 rfl rfl), ⟨by decide +kernel, by decide +kernel, by decide +kernel⟩, by decide⟩
theorem zM_X12_places : zMv yX12_places cX12_places 6 (some .int) 3 := ⟨(zi8 142 (by decide +kernel) rfl), (zi8 143 (by decide +kernel) rfl), (zi1 18 (by decide +kernel) rfl), (zi8 144 rfl rfl), ⟨by decide +kernel, by decide +kernel, by decide +kernel⟩, by decide⟩
theorem zM_X12_gapSet : zMv yX12_gapSet cX12_gapSet 3 (some .int) 0 := ⟨(zi8 151 (by decide +kernel) rfl), (zj8 (n := 79) 8 (by decide +kernel)), (zi1 18 (by decide +kernel) rfl), (zi8 152 rfl rfl), ⟨by decide +kernel, by decide +kernel, by decide +kernel⟩, by decide⟩
theorem zM_X12_gaps : zMv yX12_gaps cX12_gaps 1 (some .int) 0 := ⟨(zi8 146 (by decide +kernel) rfl), (zi8 147 (by decide +kernel) rfl), (zi1 18 (by decide +kernel) rfl), (zi8 148 rfl rfl), ⟨by decide +kernel, by decide +kernel, by decide +kernel⟩, by decide⟩
theorem zM_X12_widest : zMv yX12_widest cX12_widest 5 (some .int) 0 := ⟨(zi8 154 (by decide +kernel) rfl), (zi8 155 (by decide +kernel) rfl), (zi1 18 (by decide +kernel) rfl), (zi8 156 rfl rfl), ⟨by decide +kernel, by decide +kernel, by decide +kernel⟩, by decide⟩
theorem zM_X12_closes : zMv yX12_closes cX12_closes 6 (some .int) 1 := ⟨(zi8 159 (by decide +kernel) rfl), (zi8 160 (by decide +kernel) rfl), (zi1 18 (by decide +kernel) rfl), (zi8 161 rfl rfl), ⟨by decide +kernel, by decide +kernel, by decide +kernel⟩, by decide⟩
theorem zM_X12_walk : zMv yX12_walk cX12_walk 7 (some .int) 2 := ⟨(zi8 163 (by decide +kernel) rfl), (zi8 164 (by decide +kernel) rfl), (zi1 18 (by decide +kernel) rfl), (zi8 165 rfl rfl), ⟨by decide +kernel, by decide +kernel, by decide +kernel⟩, by decide⟩
theorem zM_X12_layCuts : zMv yX12_layCuts cX12_layCuts 5 none 2 := ⟨(zi8 172 (by decide +kernel) rfl), (zj8 (n := 79) 9 (by decide +kernel)), (zi1 18 (by decide +kernel) rfl), (zi8 173 rfl rfl), ⟨by decide +kernel, by decide +kernel, by decide +kernel⟩, by decide⟩
theorem zM_X12_cutsOf : zMv yX12_cutsOf cX12_cutsOf 4 (some .int) 1 := ⟨(zi8 180 (by decide +kernel) rfl), (zj8 (n := 79) 11 (by decide +kernel)), (zi1 18 (by decide +kernel) rfl), (zi8 181 rfl rfl), ⟨by decide +kernel, by decide +kernel, by decide +kernel⟩, by decide⟩
theorem zM_X12_standBy : zMv yX12_standBy cX12_standBy 4 (some .int) 2 := ⟨(zi8 176 (by decide +kernel) rfl), (zj8 (n := 79) 10 (by decide +kernel)), (zi1 18 (by decide +kernel) rfl), (zi8 177 rfl rfl), ⟨by decide +kernel, by decide +kernel, by decide +kernel⟩, by decide⟩
theorem zM_X12_plan : zMv yX12_plan cX12_plan 9 (some .int) 2 := ⟨(zi8 167 (by decide +kernel) rfl), (zi8 168 (by decide +kernel) rfl), (zi1 18 (by decide +kernel) rfl), (zi8 169 rfl rfl), ⟨by decide +kernel, by decide +kernel, by decide +kernel⟩, by decide⟩
theorem zM_X12_joyOf : zMv yX12_joyOf cX12_joyOf 4 (some .int) 1 := ⟨(zi8 192 (by decide +kernel) rfl), (zj8 (n := 79) 13 (by decide +kernel)), (zi1 18 (by decide +kernel) rfl), (zi8 193 rfl rfl), ⟨by decide +kernel, by decide +kernel, by decide +kernel⟩, by decide⟩
theorem zM_X12_isParty : zMv yX12_isParty cX12_isParty 2 (some .boolean) 1 := ⟨(zi8 188 (by decide +kernel) rfl), (zj8 (n := 79) 12 (by decide +kernel)), (zi1 18 (by decide +kernel) rfl), (zi8 189 rfl rfl), ⟨by decide +kernel, by decide +kernel, by decide +kernel⟩, by decide⟩
theorem zM_X12_joy : zMv yX12_joy cX12_joy 2 (some .int) 1 := ⟨(zi8 183 (by decide +kernel) rfl), (zi8 184 (by decide +kernel) rfl), (zi1 18 (by decide +kernel) rfl), (zi8 185 rfl rfl), ⟨by decide +kernel, by decide +kernel, by decide +kernel⟩, by decide⟩
theorem zM_X12_saddest : zMv yX12_saddest cX12_saddest 3 (some .int) 0 := ⟨(zi8 195 (by decide +kernel) rfl), (zi8 196 (by decide +kernel) rfl), (zi1 18 (by decide +kernel) rfl), (zi8 197 rfl rfl), ⟨by decide +kernel, by decide +kernel, by decide +kernel⟩, by decide⟩
theorem zM_X12_layEnd : zMv yX12_layEnd cX12_layEnd 3 (some .boolean) 0 := ⟨(zi8 221 (by decide +kernel) rfl), (zj9 (n := 79) 2 (by decide +kernel)), (zi1 18 (by decide +kernel) rfl), (zi8 222 rfl rfl), ⟨by decide +kernel, by decide +kernel, by decide +kernel⟩, by decide⟩
theorem zM_X12_layThird : zMv yX12_layThird cX12_layThird 4 none 0 := ⟨(zi8 217 (by decide +kernel) rfl), (zj9 (n := 79) 1 (by decide +kernel)), (zi1 18 (by decide +kernel) rfl), (zi8 218 rfl rfl), ⟨by decide +kernel, by decide +kernel, by decide +kernel⟩, by decide⟩
theorem zM_X12_canPull : zMv yX12_canPull cX12_canPull 3 (some .boolean) 2 := ⟨(zi8 205 (by decide +kernel) rfl), (zj8 (n := 79) 14 (by decide +kernel)), (zi1 18 (by decide +kernel) rfl), (zi8 206 rfl rfl), ⟨by decide +kernel, by decide +kernel, by decide +kernel⟩, by decide⟩
theorem zM_X12_laySecond : zMv yX12_laySecond cX12_laySecond 3 none 0 := ⟨(zi8 209 (by decide +kernel) rfl), (zj8 (n := 79) 15 (by decide +kernel)), (zi1 18 (by decide +kernel) rfl), (zi8 210 rfl rfl), ⟨by decide +kernel, by decide +kernel, by decide +kernel⟩, by decide⟩
theorem zM_X12_layLast : zMv yX12_layLast cX12_layLast 2 none 0 := ⟨(zi8 213 (by decide +kernel) rfl), (zj9 (n := 79) 0 (by decide +kernel)), (zi1 18 (by decide +kernel) rfl), (zi8 214 rfl rfl), ⟨by decide +kernel, by decide +kernel, by decide +kernel⟩, by decide⟩
theorem zM_X12_game : zMv yX12_game cX12_game 5 (some .int) 0 := ⟨(zi8 199 (by decide +kernel) rfl), (zi8 200 (by decide +kernel) rfl), (zi1 18 (by decide +kernel) rfl), (zi8 201 rfl rfl), ⟨by decide +kernel, by decide +kernel, by decide +kernel⟩, by decide⟩
theorem zM_X12_lies : zMv yX12_lies cX12_lies 2 (some .int) 1 := ⟨(zi8 224 (by decide +kernel) rfl), (zi8 225 (by decide +kernel) rfl), (zi1 18 (by decide +kernel) rfl), (zi8 226 rfl rfl), ⟨by decide +kernel, by decide +kernel, by decide +kernel⟩, by decide⟩
theorem zM_X12_firstBills : zMv yX12_firstBills cX12_firstBills 1 (some .int) 0 := ⟨(zi8 237 (by decide +kernel) rfl), (zj9 (n := 79) 4 (by decide +kernel)), (zi1 18 (by decide +kernel) rfl), (zi8 238 rfl rfl), ⟨by decide +kernel, by decide +kernel, by decide +kernel⟩, by decide⟩
theorem zM_X12_isFirst : zMv yX12_isFirst cX12_isFirst 2 (some .boolean) 1 := ⟨(zi8 233 (by decide +kernel) rfl), (zj9 (n := 79) 3 (by decide +kernel)), (zi1 18 (by decide +kernel) rfl), (zi8 234 rfl rfl), ⟨by decide +kernel, by decide +kernel, by decide +kernel⟩, by decide⟩
theorem zM_X12_ring : zMv yX12_ring cX12_ring 4 (some .int) 3 := ⟨(zi8 228 (by decide +kernel) rfl), (zi8 229 (by decide +kernel) rfl), (zi1 18 (by decide +kernel) rfl), (zi8 230 rfl rfl), ⟨by decide +kernel, by decide +kernel, by decide +kernel⟩, by decide⟩
theorem zM_X12_untell : zMv yX12_untell cX12_untell 2 (some .boolean) 1 := ⟨(zi9 0 (by decide +kernel) rfl), (zi9 1 (by decide +kernel) rfl), (zi1 18 (by decide +kernel) rfl), (zi9 2 rfl rfl), ⟨by decide +kernel, by decide +kernel, by decide +kernel⟩, by decide⟩
theorem zM_X12_later : zMv yX12_later cX12_later 2 (some .int) 1 := ⟨(zi9 4 (by decide +kernel) rfl), (zi9 5 (by decide +kernel) rfl), (zi1 18 (by decide +kernel) rfl), (zi9 6 rfl rfl), ⟨by decide +kernel, by decide +kernel, by decide +kernel⟩, by decide⟩
theorem zM_X12_nextOrder : zMv yX12_nextOrder cX12_nextOrder 6 (some .boolean) 1 := ⟨(zi9 26 (by decide +kernel) rfl), (zj9 (n := 79) 8 (by decide +kernel)), (zi1 18 (by decide +kernel) rfl), (zi9 27 rfl rfl), ⟨by decide +kernel, by decide +kernel, by decide +kernel⟩, by decide⟩
theorem zM_X12_exchangeOrder : zMv yX12_exchangeOrder cX12_exchangeOrder 4 none 2 := ⟨(zi9 30 (by decide +kernel) rfl), (zj9 (n := 79) 9 (by decide +kernel)), (zi1 18 (by decide +kernel) rfl), (zi9 31 rfl rfl), ⟨by decide +kernel, by decide +kernel, by decide +kernel⟩, by decide⟩
theorem zM_X12_isBehind : zMv yX12_isBehind cX12_isBehind 4 (some .boolean) 2 := ⟨(zi9 22 (by decide +kernel) rfl), (zj9 (n := 79) 7 (by decide +kernel)), (zi1 18 (by decide +kernel) rfl), (zi9 23 rfl rfl), ⟨by decide +kernel, by decide +kernel, by decide +kernel⟩, by decide⟩
theorem zM_X12_isOrder : zMv yX12_isOrder cX12_isOrder 5 (some .boolean) 2 := ⟨(zi9 18 (by decide +kernel) rfl), (zj9 (n := 79) 6 (by decide +kernel)), (zi1 18 (by decide +kernel) rfl), (zi9 19 rfl rfl), ⟨by decide +kernel, by decide +kernel, by decide +kernel⟩, by decide⟩
theorem zM_X12_layOrders : zMv yX12_layOrders cX12_layOrders 6 (some .int) 1 := ⟨(zi9 14 (by decide +kernel) rfl), (zj9 (n := 79) 5 (by decide +kernel)), (zi1 18 (by decide +kernel) rfl), (zi9 15 rfl rfl), ⟨by decide +kernel, by decide +kernel, by decide +kernel⟩, by decide⟩
theorem zM_X12_orders : zMv yX12_orders cX12_orders 2 (some .int) 1 := ⟨(zi9 9 (by decide +kernel) rfl), (zi9 10 (by decide +kernel) rfl), (zi1 18 (by decide +kernel) rfl), (zi9 11 rfl rfl), ⟨by decide +kernel, by decide +kernel, by decide +kernel⟩, by decide⟩
theorem zM_X12_mostOf : zMv yX12_mostOf cX12_mostOf 4 (some .int) 1 := ⟨(zi9 42 (by decide +kernel) rfl), (zj9 (n := 79) 10 (by decide +kernel)), (zi1 18 (by decide +kernel) rfl), (zi9 43 rfl rfl), ⟨by decide +kernel, by decide +kernel, by decide +kernel⟩, by decide⟩
theorem zM_X12_sure : zMv yX12_sure cX12_sure 5 (some .int) 2 := ⟨(zi9 33 (by decide +kernel) rfl), (zi9 34 (by decide +kernel) rfl), (zi1 18 (by decide +kernel) rfl), (zi9 35 rfl rfl), ⟨by decide +kernel, by decide +kernel, by decide +kernel⟩, by decide⟩
theorem zM_X12_ask : zMv yX12_ask cX12_ask 6 (some .int) 2 := ⟨(zi9 37 (by decide +kernel) rfl), (zi9 38 (by decide +kernel) rfl), (zi1 18 (by decide +kernel) rfl), (zi9 39 rfl rfl), ⟨by decide +kernel, by decide +kernel, by decide +kernel⟩, by decide⟩
theorem zM_X12_isBox : zMs yX12_isBox cX12_isBox 1 (some .boolean) 1 := ⟨(zi9 49 (by decide +kernel) rfl), (zi1 18 (by decide +kernel) rfl), (zi9 50 rfl rfl), ⟨by decide +kernel, by decide +kernel, by decide +kernel⟩, by decide⟩
theorem zM_X12_image : zMv yX12_image cX12_image 3 (some .int) 1 := ⟨(zi9 45 (by decide +kernel) rfl), (zi9 46 (by decide +kernel) rfl), (zi1 18 (by decide +kernel) rfl), (zi9 47 rfl rfl), ⟨by decide +kernel, by decide +kernel, by decide +kernel⟩, by decide⟩
theorem zM_X12_back : zMv yX12_back cX12_back 3 (some .int) 1 := ⟨(zi9 52 (by decide +kernel) rfl), (zi9 53 (by decide +kernel) rfl), (zi1 18 (by decide +kernel) rfl), (zi9 54 rfl rfl), ⟨by decide +kernel, by decide +kernel, by decide +kernel⟩, by decide⟩
theorem zM_X12_allLife : zMv yX12_allLife cX12_allLife 3 (some .int) 0 := ⟨(zi9 61 (by decide +kernel) rfl), (zj9 (n := 79) 11 (by decide +kernel)), (zi1 18 (by decide +kernel) rfl), (zi9 62 rfl rfl), ⟨by decide +kernel, by decide +kernel, by decide +kernel⟩, by decide⟩
theorem zM_X12_about : zMv yX12_about cX12_about 2 (some .int) 1 := ⟨(zi9 56 (by decide +kernel) rfl), (zi9 57 (by decide +kernel) rfl), (zi1 18 (by decide +kernel) rfl), (zi9 58 rfl rfl), ⟨by decide +kernel, by decide +kernel, by decide +kernel⟩, by decide⟩
theorem zM_J11_isValidCodePoint_9a6ad : zMs yJ11_isValidCodePoint_9a6ad cJ11_isValidCodePoint_9a6ad 2 (some .boolean) 1 := ⟨(zi3 118 (by decide +kernel) rfl), (zi1 20 (by decide +kernel) rfl), (zi3 119 rfl rfl), ⟨by decide +kernel, by decide +kernel, by decide +kernel⟩, by decide⟩
theorem zM_J11_highSurrogate_5068e : zMs yJ11_highSurrogate_5068e cJ11_highSurrogate_5068e 1 (some .char) 1 := ⟨(zi3 121 (by decide +kernel) rfl), (zi1 20 (by decide +kernel) rfl), (zi3 122 rfl rfl), ⟨by decide +kernel, by decide +kernel, by decide +kernel⟩, by decide⟩
theorem zM_J11_lowSurrogate_5068e : zMs yJ11_lowSurrogate_5068e cJ11_lowSurrogate_5068e 1 (some .char) 1 := ⟨(zi3 125 (by decide +kernel) rfl), (zi1 20 (by decide +kernel) rfl), (zi3 126 rfl rfl), ⟨by decide +kernel, by decide +kernel, by decide +kernel⟩, by decide⟩
theorem zM_J6_bitCount_0f7a4 : zMs yJ6_bitCount_0f7a4 cJ6_bitCount_0f7a4 1 (some .int) 1 := ⟨(zi4 128 (by decide +kernel) rfl), (zi1 21 (by decide +kernel) rfl), (zi4 129 rfl rfl), ⟨by decide +kernel, by decide +kernel, by decide +kernel⟩, by decide⟩
theorem zM_J9_abs_0f7a4 : zMs yJ9_abs_0f7a4 cJ9_abs_0f7a4 1 (some .int) 1 := ⟨(zi4 151 (by decide +kernel) rfl), (zi1 19 (by decide +kernel) rfl), (zi4 152 rfl rfl), ⟨by decide +kernel, by decide +kernel, by decide +kernel⟩, by decide⟩
theorem zM_J9_max_7cf53 : zMs yJ9_max_7cf53 cJ9_max_7cf53 2 (some .int) 2 := ⟨(zi3 87 (by decide +kernel) rfl), (zi1 19 (by decide +kernel) rfl), (zi3 88 rfl rfl), ⟨by decide +kernel, by decide +kernel, by decide +kernel⟩, by decide⟩
theorem zM_J9_min_7cf53 : zMs yJ9_min_7cf53 cJ9_min_7cf53 2 (some .int) 2 := ⟨(zi3 55 (by decide +kernel) rfl), (zi1 19 (by decide +kernel) rfl), (zi3 56 rfl rfl), ⟨by decide +kernel, by decide +kernel, by decide +kernel⟩, by decide⟩
theorem zM_J0_length_8abf5 : zMv yJ0_length_8abf5 cJ0_length_8abf5 1 (some .int) 0 := ⟨(zi1 38 (by decide +kernel) rfl), (zi1 39 (by decide +kernel) rfl), (zi1 3 (by decide +kernel) rfl), (zi1 40 rfl rfl), ⟨by decide +kernel, by decide +kernel, by decide +kernel⟩, by decide⟩
theorem zM_J0_charAt_5068e : zMv yJ0_charAt_5068e cJ0_charAt_5068e 2 (some .char) 1 := ⟨(zi1 48 (by decide +kernel) rfl), (zi1 49 (by decide +kernel) rfl), (zi1 3 (by decide +kernel) rfl), (zi1 50 rfl rfl), ⟨by decide +kernel, by decide +kernel, by decide +kernel⟩, by decide⟩
theorem zM_J0_indexOf_0f7a4 : zMv yJ0_indexOf_0f7a4 cJ0_indexOf_0f7a4 2 (some .int) 1 := ⟨(zi3 72 (by decide +kernel) rfl), (zi3 73 (by decide +kernel) rfl), (zi1 3 (by decide +kernel) rfl), (zi3 74 rfl rfl), ⟨by decide +kernel, by decide +kernel, by decide +kernel⟩, by decide⟩
theorem zM_J0_indexOf_7cf53 : zMv yJ0_indexOf_7cf53 cJ0_indexOf_7cf53 3 (some .int) 2 := ⟨(zi3 76 (by decide +kernel) rfl), (zi3 77 (by decide +kernel) rfl), (zi1 3 (by decide +kernel) rfl), (zi3 78 rfl rfl), ⟨by decide +kernel, by decide +kernel, by decide +kernel⟩, by decide⟩
theorem zM_J0_coder_7d493 : zMv yJ0_coder_7d493 cJ0_coder_7d493 1 (some .byte) 0 := ⟨(zi1 42 (by decide +kernel) rfl), (zi1 43 (by decide +kernel) rfl), (zi1 3 (by decide +kernel) rfl), (zi1 44 rfl rfl), ⟨by decide +kernel, by decide +kernel, by decide +kernel⟩, by decide⟩
theorem zM_J0_isLatin1_aae02 : zMv yJ0_isLatin1_aae02 cJ0_isLatin1_aae02 1 (some .boolean) 0 := ⟨(zi1 52 (by decide +kernel) rfl), (zi1 53 (by decide +kernel) rfl), (zi1 3 (by decide +kernel) rfl), (zi1 54 rfl rfl), ⟨by decide +kernel, by decide +kernel, by decide +kernel⟩, by decide⟩
theorem zM_J0_checkIndex_df160 : zMs yJ0_checkIndex_df160 cJ0_checkIndex_df160 2 none 2 := ⟨(zi1 59 (by decide +kernel) rfl), (zi1 3 (by decide +kernel) rfl), (zi1 60 rfl rfl), ⟨by decide +kernel, by decide +kernel, by decide +kernel⟩, by decide⟩
theorem zM_J0_checkBoundsBeginEnd_23922 : zMs yJ0_checkBoundsBeginEnd_23922 cJ0_checkBoundsBeginEnd_23922 3 none 3 := ⟨(zi3 106 (by decide +kernel) rfl), (zi1 3 (by decide +kernel) rfl), (zi3 107 rfl rfl), ⟨by decide +kernel, by decide +kernel, by decide +kernel⟩, by decide⟩
theorem zM_J1_charAt_3b067 : zMs yJ1_charAt_3b067 cJ1_charAt_3b067 2 (some .char) 2 := ⟨(zi1 56 (by decide +kernel) rfl), (zi1 4 (by decide +kernel) rfl), (zi1 57 rfl rfl), ⟨by decide +kernel, by decide +kernel, by decide +kernel⟩, by decide⟩
theorem zM_J1_canEncode_9a6ad : zMs yJ1_canEncode_9a6ad cJ1_canEncode_9a6ad 1 (some .boolean) 1 := ⟨(zi3 84 (by decide +kernel) rfl), (zi1 4 (by decide +kernel) rfl), (zi3 85 rfl rfl), ⟨by decide +kernel, by decide +kernel, by decide +kernel⟩, by decide⟩
theorem zM_J1_indexOf_4cfef : zMs yJ1_indexOf_4cfef cJ1_indexOf_4cfef 4 (some .int) 4 := ⟨(zi3 81 (by decide +kernel) rfl), (zi1 4 (by decide +kernel) rfl), (zi3 82 rfl rfl), ⟨by decide +kernel, by decide +kernel, by decide +kernel⟩, by decide⟩
theorem zM_J1_indexOfChar_4cfef : zMs yJ1_indexOfChar_4cfef cJ1_indexOfChar_4cfef 6 (some .int) 4 := ⟨(zi3 91 (by decide +kernel) rfl), (zi1 4 (by decide +kernel) rfl), (zi3 92 rfl rfl), ⟨by decide +kernel, by decide +kernel, by decide +kernel⟩, by decide⟩
theorem zM_J2_getChar_3b067 : zMs yJ2_getChar_3b067 cJ2_getChar_3b067 2 (some .char) 2 := ⟨(zi1 77 (by decide +kernel) rfl), (zi1 6 (by decide +kernel) rfl), (zi1 78 rfl rfl), ⟨by decide +kernel, by decide +kernel, by decide +kernel⟩, by decide⟩
theorem zM_J2_length_9d52b : zMs yJ2_length_9d52b cJ2_length_9d52b 1 (some .int) 1 := ⟨(zi1 73 (by decide +kernel) rfl), (zi1 6 (by decide +kernel) rfl), (zi1 74 rfl rfl), ⟨by decide +kernel, by decide +kernel, by decide +kernel⟩, by decide⟩
theorem zM_J2_indexOf_4cfef : zMs yJ2_indexOf_4cfef cJ2_indexOf_4cfef 4 (some .int) 4 := ⟨(zi3 94 (by decide +kernel) rfl), (zi1 6 (by decide +kernel) rfl), (zi3 95 rfl rfl), ⟨by decide +kernel, by decide +kernel, by decide +kernel⟩, by decide⟩
theorem zM_J2_indexOfChar_4cfef : zMs yJ2_indexOfChar_4cfef cJ2_indexOfChar_4cfef 4 (some .int) 4 := ⟨(zi3 100 (by decide +kernel) rfl), (zi1 6 (by decide +kernel) rfl), (zi3 101 rfl rfl), ⟨by decide +kernel, by decide +kernel, by decide +kernel⟩, by decide⟩
theorem zM_J2_indexOfCharUnsafe_4cfef : zMs yJ2_indexOfCharUnsafe_4cfef cJ2_indexOfCharUnsafe_4cfef 5 (some .int) 4 := ⟨(zi3 112 (by decide +kernel) rfl), (zi1 6 (by decide +kernel) rfl), (zi3 113 rfl rfl), ⟨by decide +kernel, by decide +kernel, by decide +kernel⟩, by decide⟩
theorem zM_J2_indexOfSupplementary_4cfef : zMs yJ2_indexOfSupplementary_4cfef cJ2_indexOfSupplementary_4cfef 7 (some .int) 4 := ⟨(zi3 115 (by decide +kernel) rfl), (zi1 6 (by decide +kernel) rfl), (zi3 116 rfl rfl), ⟨by decide +kernel, by decide +kernel, by decide +kernel⟩, by decide⟩
theorem zM_J2_charAt_3b067 : zMs yJ2_charAt_3b067 cJ2_charAt_3b067 2 (some .char) 2 := ⟨(zi1 67 (by decide +kernel) rfl), (zi1 6 (by decide +kernel) rfl), (zi1 68 rfl rfl), ⟨by decide +kernel, by decide +kernel, by decide +kernel⟩, by decide⟩
theorem zM_J2_checkIndex_2214a : zMs yJ2_checkIndex_2214a cJ2_checkIndex_2214a 2 none 2 := ⟨(zi1 70 (by decide +kernel) rfl), (zi1 6 (by decide +kernel) rfl), (zi1 71 rfl rfl), ⟨by decide +kernel, by decide +kernel, by decide +kernel⟩, by decide⟩
theorem zM_J2_checkBoundsBeginEnd_d044e : zMs yJ2_checkBoundsBeginEnd_d044e cJ2_checkBoundsBeginEnd_d044e 3 none 3 := ⟨(zi3 103 (by decide +kernel) rfl), (zi1 6 (by decide +kernel) rfl), (zi3 104 rfl rfl), ⟨by decide +kernel, by decide +kernel, by decide +kernel⟩, by decide⟩
theorem zM_J3_checkIndex_8e157 : zMs yJ3_checkIndex_8e157 cJ3_checkIndex_8e157 3 (some .int) 3 := ⟨(zi1 64 (by decide +kernel) rfl), (zi1 5 (by decide +kernel) rfl), (zi1 65 rfl rfl), ⟨by decide +kernel, by decide +kernel, by decide +kernel⟩, by decide⟩
theorem zM_J3_checkFromToIndex_8c36e : zMs yJ3_checkFromToIndex_8c36e cJ3_checkFromToIndex_8c36e 4 (some .int) 4 := ⟨(zi3 109 (by decide +kernel) rfl), (zi1 5 (by decide +kernel) rfl), (zi3 110 rfl rfl), ⟨by decide +kernel, by decide +kernel, by decide +kernel⟩, by decide⟩
theorem zM_max : Cond.static Lib.Math.max.name ∈ ztbl ∧ Cond.initialized "java/lang/Math" ∈ ztbl ∧ Cond.code Lib.Math.max.name Lib.Math.max.code 2 (some .int) ∈ ztbl := ⟨(zi3 87 (by decide +kernel) rfl), (zi1 19 (by decide +kernel) rfl), (zi3 88 rfl rfl)⟩
theorem zM_min : Cond.static Lib.Math.min.name ∈ ztbl ∧ Cond.initialized "java/lang/Math" ∈ ztbl ∧ Cond.code Lib.Math.min.name Lib.Math.min.code 2 (some .int) ∈ ztbl := ⟨(zi3 55 (by decide +kernel) rfl), (zi1 19 (by decide +kernel) rfl), (zi3 56 rfl rfl)⟩
theorem zM_abs : Cond.static Lib.Math.abs.name ∈ ztbl ∧ Cond.initialized "java/lang/Math" ∈ ztbl ∧ Cond.code Lib.Math.abs.name Lib.Math.abs.code 1 (some .int) ∈ ztbl := ⟨(zi4 151 (by decide +kernel) rfl), (zi1 19 (by decide +kernel) rfl), (zi4 152 rfl rfl)⟩
theorem zM_copy : Cond.native arraycopyName ∈ ztbl ∧ Cond.static arraycopyName ∈ ztbl ∧ Cond.initialized "java/lang/System" ∈ ztbl := ⟨(zi2 224 (by decide +kernel) rfl), (zi2 223 (by decide +kernel) rfl), (zi1 17 (by decide +kernel) rfl)⟩
theorem zm_X11_264 : Cond.methodLink RX11 264 Lib.Math.max.name ∈ ztbl := (zi5 11 (by decide +kernel) rfl)
theorem zm_X11_269 : Cond.methodLink RX11 269 Lib.Math.min.name ∈ ztbl := (zi5 20 (by decide +kernel) rfl)
theorem zm_X1_33 : Cond.methodLink RX1 33 arraycopyName ∈ ztbl := (zi5 202 (by decide +kernel) rfl)
theorem zm_X1_46 : Cond.methodLink RX1 46 Lib.Math.abs.name ∈ ztbl := (zi4 150 (by decide +kernel) rfl)
theorem zm_X3_40 : Cond.methodLink RX3 40 arraycopyName ∈ ztbl := (zi2 222 (by decide +kernel) rfl)
theorem zm_X3_51 : Cond.methodLink RX3 51 Lib.Math.max.name ∈ ztbl := (zi4 126 (by decide +kernel) rfl)
theorem zm_X3_88 : Cond.methodLink RX3 88 Lib.Math.min.name ∈ ztbl := (zi4 160 (by decide +kernel) rfl)
theorem zm_X4_70 : Cond.methodLink RX4 70 Lib.Math.abs.name ∈ ztbl := (zi5 78 (by decide +kernel) rfl)
theorem zm_X6_21 : Cond.methodLink RX6 21 Lib.Math.min.name ∈ ztbl := (zi5 144 (by decide +kernel) rfl)
theorem zm_X6_75 : Cond.methodLink RX6 75 Lib.Math.max.name ∈ ztbl := (zi5 188 (by decide +kernel) rfl)
theorem zm_X7_43 : Cond.methodLink RX7 43 Lib.Math.min.name ∈ ztbl := (zi3 54 (by decide +kernel) rfl)
theorem zm_X9_96 : Cond.methodLink RX9 96 arraycopyName ∈ ztbl := (zi5 46 (by decide +kernel) rfl)
theorem zm_J1_38 : Cond.methodLink RJ1 38 Lib.Math.min.name ∈ ztbl := (zi3 89 (by decide +kernel) rfl)
theorem zm_J1_92 : Cond.methodLink RJ1 92 Lib.Math.max.name ∈ ztbl := (zi3 86 (by decide +kernel) rfl)
theorem zm_J2_183 : Cond.methodLink RJ2 183 Lib.Math.min.name ∈ ztbl := (zi3 97 (by decide +kernel) rfl)
theorem zm_J2_224 : Cond.methodLink RJ2 224 Lib.Math.max.name ∈ ztbl := (zi3 96 (by decide +kernel) rfl)
