theorem fu_1 {R : Nat → Nat → Int} {z : Int} : updZ (flR R) 0 z = flR (u2 R 1 (fun _ => z)) := by
  funext q
  unfold updZ
  by_cases e : q = 0
  · rw [if_pos e, e]
    rfl
  rw [if_neg e]
  unfold flR
  by_cases h1 : q < 1
  · rw [if_pos h1, if_pos h1]
    exfalso
    omega
  rw [if_neg h1, if_neg h1]
  by_cases h4 : q < 2
  · rw [if_pos h4, if_pos h4]
    rfl
  rw [if_neg h4, if_neg h4]
  by_cases h10 : q < 3
  · rw [if_pos h10, if_pos h10]
    rfl
  rw [if_neg h10, if_neg h10]
  by_cases h20 : q < 5
  · rw [if_pos h20, if_pos h20]
    rfl
  rw [if_neg h20, if_neg h20]
  by_cases h2 : q < 15
  · rw [if_pos h2, if_pos h2]
    rfl
  rw [if_neg h2, if_neg h2]
  by_cases h3 : q < 25
  · rw [if_pos h3, if_pos h3]
    rfl
  rw [if_neg h3, if_neg h3]
  by_cases h5 : q < 35
  · rw [if_pos h5, if_pos h5]
    rfl
  rw [if_neg h5, if_neg h5]
  by_cases h6 : q < 45
  · rw [if_pos h6, if_pos h6]
    rfl
  rw [if_neg h6, if_neg h6]
  by_cases h7 : q < 55
  · rw [if_pos h7, if_pos h7]
    rfl
  rw [if_neg h7, if_neg h7]
  by_cases h8 : q < 65
  · rw [if_pos h8, if_pos h8]
    rfl
  rw [if_neg h8, if_neg h8]
  by_cases h9 : q < 105
  · rw [if_pos h9, if_pos h9]
    rfl
  rw [if_neg h9, if_neg h9]
  by_cases h11 : q < 129
  · rw [if_pos h11, if_pos h11]
    rfl
  rw [if_neg h11, if_neg h11]
  by_cases h12 : q < 153
  · rw [if_pos h12, if_pos h12]
    rfl
  rw [if_neg h12, if_neg h12]
  by_cases h13 : q < 177
  · rw [if_pos h13, if_pos h13]
    rfl
  rw [if_neg h13, if_neg h13]
  by_cases h14 : q < 201
  · rw [if_pos h14, if_pos h14]
    rfl
  rw [if_neg h14, if_neg h14]
  by_cases h15 : q < 225
  · rw [if_pos h15, if_pos h15]
    rfl
  rw [if_neg h15, if_neg h15]
  by_cases h16 : q < 249
  · rw [if_pos h16, if_pos h16]
    rfl
  rw [if_neg h16, if_neg h16]
  by_cases h18 : q < 255
  · rw [if_pos h18, if_pos h18]
    rfl
  rw [if_neg h18, if_neg h18]
  rfl
theorem fu_4 {R : Nat → Nat → Int} {z : Int} : updZ (flR R) 1 z = flR (u2 R 4 (fun _ => z)) := by
  funext q
  unfold updZ
  by_cases e : q = 1
  · rw [if_pos e, e]
    rfl
  rw [if_neg e]
  unfold flR
  by_cases h1 : q < 1
  · rw [if_pos h1, if_pos h1]
    rfl
  rw [if_neg h1, if_neg h1]
  by_cases h4 : q < 2
  · rw [if_pos h4, if_pos h4]
    exfalso
    omega
  rw [if_neg h4, if_neg h4]
  by_cases h10 : q < 3
  · rw [if_pos h10, if_pos h10]
    rfl
  rw [if_neg h10, if_neg h10]
  by_cases h20 : q < 5
  · rw [if_pos h20, if_pos h20]
    rfl
  rw [if_neg h20, if_neg h20]
  by_cases h2 : q < 15
  · rw [if_pos h2, if_pos h2]
    rfl
  rw [if_neg h2, if_neg h2]
  by_cases h3 : q < 25
  · rw [if_pos h3, if_pos h3]
    rfl
  rw [if_neg h3, if_neg h3]
  by_cases h5 : q < 35
  · rw [if_pos h5, if_pos h5]
    rfl
  rw [if_neg h5, if_neg h5]
  by_cases h6 : q < 45
  · rw [if_pos h6, if_pos h6]
    rfl
  rw [if_neg h6, if_neg h6]
  by_cases h7 : q < 55
  · rw [if_pos h7, if_pos h7]
    rfl
  rw [if_neg h7, if_neg h7]
  by_cases h8 : q < 65
  · rw [if_pos h8, if_pos h8]
    rfl
  rw [if_neg h8, if_neg h8]
  by_cases h9 : q < 105
  · rw [if_pos h9, if_pos h9]
    rfl
  rw [if_neg h9, if_neg h9]
  by_cases h11 : q < 129
  · rw [if_pos h11, if_pos h11]
    rfl
  rw [if_neg h11, if_neg h11]
  by_cases h12 : q < 153
  · rw [if_pos h12, if_pos h12]
    rfl
  rw [if_neg h12, if_neg h12]
  by_cases h13 : q < 177
  · rw [if_pos h13, if_pos h13]
    rfl
  rw [if_neg h13, if_neg h13]
  by_cases h14 : q < 201
  · rw [if_pos h14, if_pos h14]
    rfl
  rw [if_neg h14, if_neg h14]
  by_cases h15 : q < 225
  · rw [if_pos h15, if_pos h15]
    rfl
  rw [if_neg h15, if_neg h15]
  by_cases h16 : q < 249
  · rw [if_pos h16, if_pos h16]
    rfl
  rw [if_neg h16, if_neg h16]
  by_cases h18 : q < 255
  · rw [if_pos h18, if_pos h18]
    rfl
  rw [if_neg h18, if_neg h18]
  rfl
theorem fu_10 {R : Nat → Nat → Int} {z : Int} : updZ (flR R) 2 z = flR (u2 R 10 (fun _ => z)) := by
  funext q
  unfold updZ
  by_cases e : q = 2
  · rw [if_pos e, e]
    rfl
  rw [if_neg e]
  unfold flR
  by_cases h1 : q < 1
  · rw [if_pos h1, if_pos h1]
    rfl
  rw [if_neg h1, if_neg h1]
  by_cases h4 : q < 2
  · rw [if_pos h4, if_pos h4]
    rfl
  rw [if_neg h4, if_neg h4]
  by_cases h10 : q < 3
  · rw [if_pos h10, if_pos h10]
    exfalso
    omega
  rw [if_neg h10, if_neg h10]
  by_cases h20 : q < 5
  · rw [if_pos h20, if_pos h20]
    rfl
  rw [if_neg h20, if_neg h20]
  by_cases h2 : q < 15
  · rw [if_pos h2, if_pos h2]
    rfl
  rw [if_neg h2, if_neg h2]
  by_cases h3 : q < 25
  · rw [if_pos h3, if_pos h3]
    rfl
  rw [if_neg h3, if_neg h3]
  by_cases h5 : q < 35
  · rw [if_pos h5, if_pos h5]
    rfl
  rw [if_neg h5, if_neg h5]
  by_cases h6 : q < 45
  · rw [if_pos h6, if_pos h6]
    rfl
  rw [if_neg h6, if_neg h6]
  by_cases h7 : q < 55
  · rw [if_pos h7, if_pos h7]
    rfl
  rw [if_neg h7, if_neg h7]
  by_cases h8 : q < 65
  · rw [if_pos h8, if_pos h8]
    rfl
  rw [if_neg h8, if_neg h8]
  by_cases h9 : q < 105
  · rw [if_pos h9, if_pos h9]
    rfl
  rw [if_neg h9, if_neg h9]
  by_cases h11 : q < 129
  · rw [if_pos h11, if_pos h11]
    rfl
  rw [if_neg h11, if_neg h11]
  by_cases h12 : q < 153
  · rw [if_pos h12, if_pos h12]
    rfl
  rw [if_neg h12, if_neg h12]
  by_cases h13 : q < 177
  · rw [if_pos h13, if_pos h13]
    rfl
  rw [if_neg h13, if_neg h13]
  by_cases h14 : q < 201
  · rw [if_pos h14, if_pos h14]
    rfl
  rw [if_neg h14, if_neg h14]
  by_cases h15 : q < 225
  · rw [if_pos h15, if_pos h15]
    rfl
  rw [if_neg h15, if_neg h15]
  by_cases h16 : q < 249
  · rw [if_pos h16, if_pos h16]
    rfl
  rw [if_neg h16, if_neg h16]
  by_cases h18 : q < 255
  · rw [if_pos h18, if_pos h18]
    rfl
  rw [if_neg h18, if_neg h18]
  rfl
set_option maxRecDepth 100000 in
theorem fu_20 {R : Nat → Nat → Int} {j i : Nat} {z : Int} (hj : j = 3 + i) (hi : i < 2) : updZ (flR R) j z = flR (u2 R 20 (updZ (R 20) i z)) := by
  funext q
  unfold updZ
  by_cases e : q = j
  · rw [if_pos e, e, fl_20 hj hi]
    show z = if i = i then z else _
    rw [if_pos rfl]
  rw [if_neg e]
  unfold flR
  by_cases h1 : q < 1
  · rw [if_pos h1, if_pos h1]
    rfl
  rw [if_neg h1, if_neg h1]
  by_cases h4 : q < 2
  · rw [if_pos h4, if_pos h4]
    rfl
  rw [if_neg h4, if_neg h4]
  by_cases h10 : q < 3
  · rw [if_pos h10, if_pos h10]
    rfl
  rw [if_neg h10, if_neg h10]
  by_cases h20 : q < 5
  · rw [if_pos h20, if_pos h20]
    show R 20 (q - 3) = if q - 3 = i then z else R 20 (q - 3)
    rw [if_neg (by omega)]
  rw [if_neg h20, if_neg h20]
  by_cases h2 : q < 15
  · rw [if_pos h2, if_pos h2]
    rfl
  rw [if_neg h2, if_neg h2]
  by_cases h3 : q < 25
  · rw [if_pos h3, if_pos h3]
    rfl
  rw [if_neg h3, if_neg h3]
  by_cases h5 : q < 35
  · rw [if_pos h5, if_pos h5]
    rfl
  rw [if_neg h5, if_neg h5]
  by_cases h6 : q < 45
  · rw [if_pos h6, if_pos h6]
    rfl
  rw [if_neg h6, if_neg h6]
  by_cases h7 : q < 55
  · rw [if_pos h7, if_pos h7]
    rfl
  rw [if_neg h7, if_neg h7]
  by_cases h8 : q < 65
  · rw [if_pos h8, if_pos h8]
    rfl
  rw [if_neg h8, if_neg h8]
  by_cases h9 : q < 105
  · rw [if_pos h9, if_pos h9]
    rfl
  rw [if_neg h9, if_neg h9]
  by_cases h11 : q < 129
  · rw [if_pos h11, if_pos h11]
    rfl
  rw [if_neg h11, if_neg h11]
  by_cases h12 : q < 153
  · rw [if_pos h12, if_pos h12]
    rfl
  rw [if_neg h12, if_neg h12]
  by_cases h13 : q < 177
  · rw [if_pos h13, if_pos h13]
    rfl
  rw [if_neg h13, if_neg h13]
  by_cases h14 : q < 201
  · rw [if_pos h14, if_pos h14]
    rfl
  rw [if_neg h14, if_neg h14]
  by_cases h15 : q < 225
  · rw [if_pos h15, if_pos h15]
    rfl
  rw [if_neg h15, if_neg h15]
  by_cases h16 : q < 249
  · rw [if_pos h16, if_pos h16]
    rfl
  rw [if_neg h16, if_neg h16]
  by_cases h18 : q < 255
  · rw [if_pos h18, if_pos h18]
    rfl
  rw [if_neg h18, if_neg h18]
  rfl
set_option maxRecDepth 100000 in
theorem fu_2 {R : Nat → Nat → Int} {j i : Nat} {z : Int} (hj : j = 5 + i) (hi : i < 10) : updZ (flR R) j z = flR (u2 R 2 (updZ (R 2) i z)) := by
  funext q
  unfold updZ
  by_cases e : q = j
  · rw [if_pos e, e, fl_2 hj hi]
    show z = if i = i then z else _
    rw [if_pos rfl]
  rw [if_neg e]
  unfold flR
  by_cases h1 : q < 1
  · rw [if_pos h1, if_pos h1]
    rfl
  rw [if_neg h1, if_neg h1]
  by_cases h4 : q < 2
  · rw [if_pos h4, if_pos h4]
    rfl
  rw [if_neg h4, if_neg h4]
  by_cases h10 : q < 3
  · rw [if_pos h10, if_pos h10]
    rfl
  rw [if_neg h10, if_neg h10]
  by_cases h20 : q < 5
  · rw [if_pos h20, if_pos h20]
    rfl
  rw [if_neg h20, if_neg h20]
  by_cases h2 : q < 15
  · rw [if_pos h2, if_pos h2]
    show R 2 (q - 5) = if q - 5 = i then z else R 2 (q - 5)
    rw [if_neg (by omega)]
  rw [if_neg h2, if_neg h2]
  by_cases h3 : q < 25
  · rw [if_pos h3, if_pos h3]
    rfl
  rw [if_neg h3, if_neg h3]
  by_cases h5 : q < 35
  · rw [if_pos h5, if_pos h5]
    rfl
  rw [if_neg h5, if_neg h5]
  by_cases h6 : q < 45
  · rw [if_pos h6, if_pos h6]
    rfl
  rw [if_neg h6, if_neg h6]
  by_cases h7 : q < 55
  · rw [if_pos h7, if_pos h7]
    rfl
  rw [if_neg h7, if_neg h7]
  by_cases h8 : q < 65
  · rw [if_pos h8, if_pos h8]
    rfl
  rw [if_neg h8, if_neg h8]
  by_cases h9 : q < 105
  · rw [if_pos h9, if_pos h9]
    rfl
  rw [if_neg h9, if_neg h9]
  by_cases h11 : q < 129
  · rw [if_pos h11, if_pos h11]
    rfl
  rw [if_neg h11, if_neg h11]
  by_cases h12 : q < 153
  · rw [if_pos h12, if_pos h12]
    rfl
  rw [if_neg h12, if_neg h12]
  by_cases h13 : q < 177
  · rw [if_pos h13, if_pos h13]
    rfl
  rw [if_neg h13, if_neg h13]
  by_cases h14 : q < 201
  · rw [if_pos h14, if_pos h14]
    rfl
  rw [if_neg h14, if_neg h14]
  by_cases h15 : q < 225
  · rw [if_pos h15, if_pos h15]
    rfl
  rw [if_neg h15, if_neg h15]
  by_cases h16 : q < 249
  · rw [if_pos h16, if_pos h16]
    rfl
  rw [if_neg h16, if_neg h16]
  by_cases h18 : q < 255
  · rw [if_pos h18, if_pos h18]
    rfl
  rw [if_neg h18, if_neg h18]
  rfl
set_option maxRecDepth 100000 in
theorem fu_3 {R : Nat → Nat → Int} {j i : Nat} {z : Int} (hj : j = 15 + i) (hi : i < 10) : updZ (flR R) j z = flR (u2 R 3 (updZ (R 3) i z)) := by
  funext q
  unfold updZ
  by_cases e : q = j
  · rw [if_pos e, e, fl_3 hj hi]
    show z = if i = i then z else _
    rw [if_pos rfl]
  rw [if_neg e]
  unfold flR
  by_cases h1 : q < 1
  · rw [if_pos h1, if_pos h1]
    rfl
  rw [if_neg h1, if_neg h1]
  by_cases h4 : q < 2
  · rw [if_pos h4, if_pos h4]
    rfl
  rw [if_neg h4, if_neg h4]
  by_cases h10 : q < 3
  · rw [if_pos h10, if_pos h10]
    rfl
  rw [if_neg h10, if_neg h10]
  by_cases h20 : q < 5
  · rw [if_pos h20, if_pos h20]
    rfl
  rw [if_neg h20, if_neg h20]
  by_cases h2 : q < 15
  · rw [if_pos h2, if_pos h2]
    rfl
  rw [if_neg h2, if_neg h2]
  by_cases h3 : q < 25
  · rw [if_pos h3, if_pos h3]
    show R 3 (q - 15) = if q - 15 = i then z else R 3 (q - 15)
    rw [if_neg (by omega)]
  rw [if_neg h3, if_neg h3]
  by_cases h5 : q < 35
  · rw [if_pos h5, if_pos h5]
    rfl
  rw [if_neg h5, if_neg h5]
  by_cases h6 : q < 45
  · rw [if_pos h6, if_pos h6]
    rfl
  rw [if_neg h6, if_neg h6]
  by_cases h7 : q < 55
  · rw [if_pos h7, if_pos h7]
    rfl
  rw [if_neg h7, if_neg h7]
  by_cases h8 : q < 65
  · rw [if_pos h8, if_pos h8]
    rfl
  rw [if_neg h8, if_neg h8]
  by_cases h9 : q < 105
  · rw [if_pos h9, if_pos h9]
    rfl
  rw [if_neg h9, if_neg h9]
  by_cases h11 : q < 129
  · rw [if_pos h11, if_pos h11]
    rfl
  rw [if_neg h11, if_neg h11]
  by_cases h12 : q < 153
  · rw [if_pos h12, if_pos h12]
    rfl
  rw [if_neg h12, if_neg h12]
  by_cases h13 : q < 177
  · rw [if_pos h13, if_pos h13]
    rfl
  rw [if_neg h13, if_neg h13]
  by_cases h14 : q < 201
  · rw [if_pos h14, if_pos h14]
    rfl
  rw [if_neg h14, if_neg h14]
  by_cases h15 : q < 225
  · rw [if_pos h15, if_pos h15]
    rfl
  rw [if_neg h15, if_neg h15]
  by_cases h16 : q < 249
  · rw [if_pos h16, if_pos h16]
    rfl
  rw [if_neg h16, if_neg h16]
  by_cases h18 : q < 255
  · rw [if_pos h18, if_pos h18]
    rfl
  rw [if_neg h18, if_neg h18]
  rfl
set_option maxRecDepth 100000 in
theorem fu_5 {R : Nat → Nat → Int} {j i : Nat} {z : Int} (hj : j = 25 + i) (hi : i < 10) : updZ (flR R) j z = flR (u2 R 5 (updZ (R 5) i z)) := by
  funext q
  unfold updZ
  by_cases e : q = j
  · rw [if_pos e, e, fl_5 hj hi]
    show z = if i = i then z else _
    rw [if_pos rfl]
  rw [if_neg e]
  unfold flR
  by_cases h1 : q < 1
  · rw [if_pos h1, if_pos h1]
    rfl
  rw [if_neg h1, if_neg h1]
  by_cases h4 : q < 2
  · rw [if_pos h4, if_pos h4]
    rfl
  rw [if_neg h4, if_neg h4]
  by_cases h10 : q < 3
  · rw [if_pos h10, if_pos h10]
    rfl
  rw [if_neg h10, if_neg h10]
  by_cases h20 : q < 5
  · rw [if_pos h20, if_pos h20]
    rfl
  rw [if_neg h20, if_neg h20]
  by_cases h2 : q < 15
  · rw [if_pos h2, if_pos h2]
    rfl
  rw [if_neg h2, if_neg h2]
  by_cases h3 : q < 25
  · rw [if_pos h3, if_pos h3]
    rfl
  rw [if_neg h3, if_neg h3]
  by_cases h5 : q < 35
  · rw [if_pos h5, if_pos h5]
    show R 5 (q - 25) = if q - 25 = i then z else R 5 (q - 25)
    rw [if_neg (by omega)]
  rw [if_neg h5, if_neg h5]
  by_cases h6 : q < 45
  · rw [if_pos h6, if_pos h6]
    rfl
  rw [if_neg h6, if_neg h6]
  by_cases h7 : q < 55
  · rw [if_pos h7, if_pos h7]
    rfl
  rw [if_neg h7, if_neg h7]
  by_cases h8 : q < 65
  · rw [if_pos h8, if_pos h8]
    rfl
  rw [if_neg h8, if_neg h8]
  by_cases h9 : q < 105
  · rw [if_pos h9, if_pos h9]
    rfl
  rw [if_neg h9, if_neg h9]
  by_cases h11 : q < 129
  · rw [if_pos h11, if_pos h11]
    rfl
  rw [if_neg h11, if_neg h11]
  by_cases h12 : q < 153
  · rw [if_pos h12, if_pos h12]
    rfl
  rw [if_neg h12, if_neg h12]
  by_cases h13 : q < 177
  · rw [if_pos h13, if_pos h13]
    rfl
  rw [if_neg h13, if_neg h13]
  by_cases h14 : q < 201
  · rw [if_pos h14, if_pos h14]
    rfl
  rw [if_neg h14, if_neg h14]
  by_cases h15 : q < 225
  · rw [if_pos h15, if_pos h15]
    rfl
  rw [if_neg h15, if_neg h15]
  by_cases h16 : q < 249
  · rw [if_pos h16, if_pos h16]
    rfl
  rw [if_neg h16, if_neg h16]
  by_cases h18 : q < 255
  · rw [if_pos h18, if_pos h18]
    rfl
  rw [if_neg h18, if_neg h18]
  rfl
set_option maxRecDepth 100000 in
theorem fu_6 {R : Nat → Nat → Int} {j i : Nat} {z : Int} (hj : j = 35 + i) (hi : i < 10) : updZ (flR R) j z = flR (u2 R 6 (updZ (R 6) i z)) := by
  funext q
  unfold updZ
  by_cases e : q = j
  · rw [if_pos e, e, fl_6 hj hi]
    show z = if i = i then z else _
    rw [if_pos rfl]
  rw [if_neg e]
  unfold flR
  by_cases h1 : q < 1
  · rw [if_pos h1, if_pos h1]
    rfl
  rw [if_neg h1, if_neg h1]
  by_cases h4 : q < 2
  · rw [if_pos h4, if_pos h4]
    rfl
  rw [if_neg h4, if_neg h4]
  by_cases h10 : q < 3
  · rw [if_pos h10, if_pos h10]
    rfl
  rw [if_neg h10, if_neg h10]
  by_cases h20 : q < 5
  · rw [if_pos h20, if_pos h20]
    rfl
  rw [if_neg h20, if_neg h20]
  by_cases h2 : q < 15
  · rw [if_pos h2, if_pos h2]
    rfl
  rw [if_neg h2, if_neg h2]
  by_cases h3 : q < 25
  · rw [if_pos h3, if_pos h3]
    rfl
  rw [if_neg h3, if_neg h3]
  by_cases h5 : q < 35
  · rw [if_pos h5, if_pos h5]
    rfl
  rw [if_neg h5, if_neg h5]
  by_cases h6 : q < 45
  · rw [if_pos h6, if_pos h6]
    show R 6 (q - 35) = if q - 35 = i then z else R 6 (q - 35)
    rw [if_neg (by omega)]
  rw [if_neg h6, if_neg h6]
  by_cases h7 : q < 55
  · rw [if_pos h7, if_pos h7]
    rfl
  rw [if_neg h7, if_neg h7]
  by_cases h8 : q < 65
  · rw [if_pos h8, if_pos h8]
    rfl
  rw [if_neg h8, if_neg h8]
  by_cases h9 : q < 105
  · rw [if_pos h9, if_pos h9]
    rfl
  rw [if_neg h9, if_neg h9]
  by_cases h11 : q < 129
  · rw [if_pos h11, if_pos h11]
    rfl
  rw [if_neg h11, if_neg h11]
  by_cases h12 : q < 153
  · rw [if_pos h12, if_pos h12]
    rfl
  rw [if_neg h12, if_neg h12]
  by_cases h13 : q < 177
  · rw [if_pos h13, if_pos h13]
    rfl
  rw [if_neg h13, if_neg h13]
  by_cases h14 : q < 201
  · rw [if_pos h14, if_pos h14]
    rfl
  rw [if_neg h14, if_neg h14]
  by_cases h15 : q < 225
  · rw [if_pos h15, if_pos h15]
    rfl
  rw [if_neg h15, if_neg h15]
  by_cases h16 : q < 249
  · rw [if_pos h16, if_pos h16]
    rfl
  rw [if_neg h16, if_neg h16]
  by_cases h18 : q < 255
  · rw [if_pos h18, if_pos h18]
    rfl
  rw [if_neg h18, if_neg h18]
  rfl
set_option maxRecDepth 100000 in
theorem fu_7 {R : Nat → Nat → Int} {j i : Nat} {z : Int} (hj : j = 45 + i) (hi : i < 10) : updZ (flR R) j z = flR (u2 R 7 (updZ (R 7) i z)) := by
  funext q
  unfold updZ
  by_cases e : q = j
  · rw [if_pos e, e, fl_7 hj hi]
    show z = if i = i then z else _
    rw [if_pos rfl]
  rw [if_neg e]
  unfold flR
  by_cases h1 : q < 1
  · rw [if_pos h1, if_pos h1]
    rfl
  rw [if_neg h1, if_neg h1]
  by_cases h4 : q < 2
  · rw [if_pos h4, if_pos h4]
    rfl
  rw [if_neg h4, if_neg h4]
  by_cases h10 : q < 3
  · rw [if_pos h10, if_pos h10]
    rfl
  rw [if_neg h10, if_neg h10]
  by_cases h20 : q < 5
  · rw [if_pos h20, if_pos h20]
    rfl
  rw [if_neg h20, if_neg h20]
  by_cases h2 : q < 15
  · rw [if_pos h2, if_pos h2]
    rfl
  rw [if_neg h2, if_neg h2]
  by_cases h3 : q < 25
  · rw [if_pos h3, if_pos h3]
    rfl
  rw [if_neg h3, if_neg h3]
  by_cases h5 : q < 35
  · rw [if_pos h5, if_pos h5]
    rfl
  rw [if_neg h5, if_neg h5]
  by_cases h6 : q < 45
  · rw [if_pos h6, if_pos h6]
    rfl
  rw [if_neg h6, if_neg h6]
  by_cases h7 : q < 55
  · rw [if_pos h7, if_pos h7]
    show R 7 (q - 45) = if q - 45 = i then z else R 7 (q - 45)
    rw [if_neg (by omega)]
  rw [if_neg h7, if_neg h7]
  by_cases h8 : q < 65
  · rw [if_pos h8, if_pos h8]
    rfl
  rw [if_neg h8, if_neg h8]
  by_cases h9 : q < 105
  · rw [if_pos h9, if_pos h9]
    rfl
  rw [if_neg h9, if_neg h9]
  by_cases h11 : q < 129
  · rw [if_pos h11, if_pos h11]
    rfl
  rw [if_neg h11, if_neg h11]
  by_cases h12 : q < 153
  · rw [if_pos h12, if_pos h12]
    rfl
  rw [if_neg h12, if_neg h12]
  by_cases h13 : q < 177
  · rw [if_pos h13, if_pos h13]
    rfl
  rw [if_neg h13, if_neg h13]
  by_cases h14 : q < 201
  · rw [if_pos h14, if_pos h14]
    rfl
  rw [if_neg h14, if_neg h14]
  by_cases h15 : q < 225
  · rw [if_pos h15, if_pos h15]
    rfl
  rw [if_neg h15, if_neg h15]
  by_cases h16 : q < 249
  · rw [if_pos h16, if_pos h16]
    rfl
  rw [if_neg h16, if_neg h16]
  by_cases h18 : q < 255
  · rw [if_pos h18, if_pos h18]
    rfl
  rw [if_neg h18, if_neg h18]
  rfl
set_option maxRecDepth 100000 in
theorem fu_8 {R : Nat → Nat → Int} {j i : Nat} {z : Int} (hj : j = 55 + i) (hi : i < 10) : updZ (flR R) j z = flR (u2 R 8 (updZ (R 8) i z)) := by
  funext q
  unfold updZ
  by_cases e : q = j
  · rw [if_pos e, e, fl_8 hj hi]
    show z = if i = i then z else _
    rw [if_pos rfl]
  rw [if_neg e]
  unfold flR
  by_cases h1 : q < 1
  · rw [if_pos h1, if_pos h1]
    rfl
  rw [if_neg h1, if_neg h1]
  by_cases h4 : q < 2
  · rw [if_pos h4, if_pos h4]
    rfl
  rw [if_neg h4, if_neg h4]
  by_cases h10 : q < 3
  · rw [if_pos h10, if_pos h10]
    rfl
  rw [if_neg h10, if_neg h10]
  by_cases h20 : q < 5
  · rw [if_pos h20, if_pos h20]
    rfl
  rw [if_neg h20, if_neg h20]
  by_cases h2 : q < 15
  · rw [if_pos h2, if_pos h2]
    rfl
  rw [if_neg h2, if_neg h2]
  by_cases h3 : q < 25
  · rw [if_pos h3, if_pos h3]
    rfl
  rw [if_neg h3, if_neg h3]
  by_cases h5 : q < 35
  · rw [if_pos h5, if_pos h5]
    rfl
  rw [if_neg h5, if_neg h5]
  by_cases h6 : q < 45
  · rw [if_pos h6, if_pos h6]
    rfl
  rw [if_neg h6, if_neg h6]
  by_cases h7 : q < 55
  · rw [if_pos h7, if_pos h7]
    rfl
  rw [if_neg h7, if_neg h7]
  by_cases h8 : q < 65
  · rw [if_pos h8, if_pos h8]
    show R 8 (q - 55) = if q - 55 = i then z else R 8 (q - 55)
    rw [if_neg (by omega)]
  rw [if_neg h8, if_neg h8]
  by_cases h9 : q < 105
  · rw [if_pos h9, if_pos h9]
    rfl
  rw [if_neg h9, if_neg h9]
  by_cases h11 : q < 129
  · rw [if_pos h11, if_pos h11]
    rfl
  rw [if_neg h11, if_neg h11]
  by_cases h12 : q < 153
  · rw [if_pos h12, if_pos h12]
    rfl
  rw [if_neg h12, if_neg h12]
  by_cases h13 : q < 177
  · rw [if_pos h13, if_pos h13]
    rfl
  rw [if_neg h13, if_neg h13]
  by_cases h14 : q < 201
  · rw [if_pos h14, if_pos h14]
    rfl
  rw [if_neg h14, if_neg h14]
  by_cases h15 : q < 225
  · rw [if_pos h15, if_pos h15]
    rfl
  rw [if_neg h15, if_neg h15]
  by_cases h16 : q < 249
  · rw [if_pos h16, if_pos h16]
    rfl
  rw [if_neg h16, if_neg h16]
  by_cases h18 : q < 255
  · rw [if_pos h18, if_pos h18]
    rfl
  rw [if_neg h18, if_neg h18]
  rfl
set_option maxRecDepth 100000 in
theorem fu_9 {R : Nat → Nat → Int} {j i : Nat} {z : Int} (hj : j = 65 + i) (hi : i < 40) : updZ (flR R) j z = flR (u2 R 9 (updZ (R 9) i z)) := by
  funext q
  unfold updZ
  by_cases e : q = j
  · rw [if_pos e, e, fl_9 hj hi]
    show z = if i = i then z else _
    rw [if_pos rfl]
  rw [if_neg e]
  unfold flR
  by_cases h1 : q < 1
  · rw [if_pos h1, if_pos h1]
    rfl
  rw [if_neg h1, if_neg h1]
  by_cases h4 : q < 2
  · rw [if_pos h4, if_pos h4]
    rfl
  rw [if_neg h4, if_neg h4]
  by_cases h10 : q < 3
  · rw [if_pos h10, if_pos h10]
    rfl
  rw [if_neg h10, if_neg h10]
  by_cases h20 : q < 5
  · rw [if_pos h20, if_pos h20]
    rfl
  rw [if_neg h20, if_neg h20]
  by_cases h2 : q < 15
  · rw [if_pos h2, if_pos h2]
    rfl
  rw [if_neg h2, if_neg h2]
  by_cases h3 : q < 25
  · rw [if_pos h3, if_pos h3]
    rfl
  rw [if_neg h3, if_neg h3]
  by_cases h5 : q < 35
  · rw [if_pos h5, if_pos h5]
    rfl
  rw [if_neg h5, if_neg h5]
  by_cases h6 : q < 45
  · rw [if_pos h6, if_pos h6]
    rfl
  rw [if_neg h6, if_neg h6]
  by_cases h7 : q < 55
  · rw [if_pos h7, if_pos h7]
    rfl
  rw [if_neg h7, if_neg h7]
  by_cases h8 : q < 65
  · rw [if_pos h8, if_pos h8]
    rfl
  rw [if_neg h8, if_neg h8]
  by_cases h9 : q < 105
  · rw [if_pos h9, if_pos h9]
    show R 9 (q - 65) = if q - 65 = i then z else R 9 (q - 65)
    rw [if_neg (by omega)]
  rw [if_neg h9, if_neg h9]
  by_cases h11 : q < 129
  · rw [if_pos h11, if_pos h11]
    rfl
  rw [if_neg h11, if_neg h11]
  by_cases h12 : q < 153
  · rw [if_pos h12, if_pos h12]
    rfl
  rw [if_neg h12, if_neg h12]
  by_cases h13 : q < 177
  · rw [if_pos h13, if_pos h13]
    rfl
  rw [if_neg h13, if_neg h13]
  by_cases h14 : q < 201
  · rw [if_pos h14, if_pos h14]
    rfl
  rw [if_neg h14, if_neg h14]
  by_cases h15 : q < 225
  · rw [if_pos h15, if_pos h15]
    rfl
  rw [if_neg h15, if_neg h15]
  by_cases h16 : q < 249
  · rw [if_pos h16, if_pos h16]
    rfl
  rw [if_neg h16, if_neg h16]
  by_cases h18 : q < 255
  · rw [if_pos h18, if_pos h18]
    rfl
  rw [if_neg h18, if_neg h18]
  rfl
set_option maxRecDepth 100000 in
theorem fu_11 {R : Nat → Nat → Int} {j i : Nat} {z : Int} (hj : j = 105 + i) (hi : i < 24) : updZ (flR R) j z = flR (u2 R 11 (updZ (R 11) i z)) := by
  funext q
  unfold updZ
  by_cases e : q = j
  · rw [if_pos e, e, fl_11 hj hi]
    show z = if i = i then z else _
    rw [if_pos rfl]
  rw [if_neg e]
  unfold flR
  by_cases h1 : q < 1
  · rw [if_pos h1, if_pos h1]
    rfl
  rw [if_neg h1, if_neg h1]
  by_cases h4 : q < 2
  · rw [if_pos h4, if_pos h4]
    rfl
  rw [if_neg h4, if_neg h4]
  by_cases h10 : q < 3
  · rw [if_pos h10, if_pos h10]
    rfl
  rw [if_neg h10, if_neg h10]
  by_cases h20 : q < 5
  · rw [if_pos h20, if_pos h20]
    rfl
  rw [if_neg h20, if_neg h20]
  by_cases h2 : q < 15
  · rw [if_pos h2, if_pos h2]
    rfl
  rw [if_neg h2, if_neg h2]
  by_cases h3 : q < 25
  · rw [if_pos h3, if_pos h3]
    rfl
  rw [if_neg h3, if_neg h3]
  by_cases h5 : q < 35
  · rw [if_pos h5, if_pos h5]
    rfl
  rw [if_neg h5, if_neg h5]
  by_cases h6 : q < 45
  · rw [if_pos h6, if_pos h6]
    rfl
  rw [if_neg h6, if_neg h6]
  by_cases h7 : q < 55
  · rw [if_pos h7, if_pos h7]
    rfl
  rw [if_neg h7, if_neg h7]
  by_cases h8 : q < 65
  · rw [if_pos h8, if_pos h8]
    rfl
  rw [if_neg h8, if_neg h8]
  by_cases h9 : q < 105
  · rw [if_pos h9, if_pos h9]
    rfl
  rw [if_neg h9, if_neg h9]
  by_cases h11 : q < 129
  · rw [if_pos h11, if_pos h11]
    show R 11 (q - 105) = if q - 105 = i then z else R 11 (q - 105)
    rw [if_neg (by omega)]
  rw [if_neg h11, if_neg h11]
  by_cases h12 : q < 153
  · rw [if_pos h12, if_pos h12]
    rfl
  rw [if_neg h12, if_neg h12]
  by_cases h13 : q < 177
  · rw [if_pos h13, if_pos h13]
    rfl
  rw [if_neg h13, if_neg h13]
  by_cases h14 : q < 201
  · rw [if_pos h14, if_pos h14]
    rfl
  rw [if_neg h14, if_neg h14]
  by_cases h15 : q < 225
  · rw [if_pos h15, if_pos h15]
    rfl
  rw [if_neg h15, if_neg h15]
  by_cases h16 : q < 249
  · rw [if_pos h16, if_pos h16]
    rfl
  rw [if_neg h16, if_neg h16]
  by_cases h18 : q < 255
  · rw [if_pos h18, if_pos h18]
    rfl
  rw [if_neg h18, if_neg h18]
  rfl
set_option maxRecDepth 100000 in
theorem fu_12 {R : Nat → Nat → Int} {j i : Nat} {z : Int} (hj : j = 129 + i) (hi : i < 24) : updZ (flR R) j z = flR (u2 R 12 (updZ (R 12) i z)) := by
  funext q
  unfold updZ
  by_cases e : q = j
  · rw [if_pos e, e, fl_12 hj hi]
    show z = if i = i then z else _
    rw [if_pos rfl]
  rw [if_neg e]
  unfold flR
  by_cases h1 : q < 1
  · rw [if_pos h1, if_pos h1]
    rfl
  rw [if_neg h1, if_neg h1]
  by_cases h4 : q < 2
  · rw [if_pos h4, if_pos h4]
    rfl
  rw [if_neg h4, if_neg h4]
  by_cases h10 : q < 3
  · rw [if_pos h10, if_pos h10]
    rfl
  rw [if_neg h10, if_neg h10]
  by_cases h20 : q < 5
  · rw [if_pos h20, if_pos h20]
    rfl
  rw [if_neg h20, if_neg h20]
  by_cases h2 : q < 15
  · rw [if_pos h2, if_pos h2]
    rfl
  rw [if_neg h2, if_neg h2]
  by_cases h3 : q < 25
  · rw [if_pos h3, if_pos h3]
    rfl
  rw [if_neg h3, if_neg h3]
  by_cases h5 : q < 35
  · rw [if_pos h5, if_pos h5]
    rfl
  rw [if_neg h5, if_neg h5]
  by_cases h6 : q < 45
  · rw [if_pos h6, if_pos h6]
    rfl
  rw [if_neg h6, if_neg h6]
  by_cases h7 : q < 55
  · rw [if_pos h7, if_pos h7]
    rfl
  rw [if_neg h7, if_neg h7]
  by_cases h8 : q < 65
  · rw [if_pos h8, if_pos h8]
    rfl
  rw [if_neg h8, if_neg h8]
  by_cases h9 : q < 105
  · rw [if_pos h9, if_pos h9]
    rfl
  rw [if_neg h9, if_neg h9]
  by_cases h11 : q < 129
  · rw [if_pos h11, if_pos h11]
    rfl
  rw [if_neg h11, if_neg h11]
  by_cases h12 : q < 153
  · rw [if_pos h12, if_pos h12]
    show R 12 (q - 129) = if q - 129 = i then z else R 12 (q - 129)
    rw [if_neg (by omega)]
  rw [if_neg h12, if_neg h12]
  by_cases h13 : q < 177
  · rw [if_pos h13, if_pos h13]
    rfl
  rw [if_neg h13, if_neg h13]
  by_cases h14 : q < 201
  · rw [if_pos h14, if_pos h14]
    rfl
  rw [if_neg h14, if_neg h14]
  by_cases h15 : q < 225
  · rw [if_pos h15, if_pos h15]
    rfl
  rw [if_neg h15, if_neg h15]
  by_cases h16 : q < 249
  · rw [if_pos h16, if_pos h16]
    rfl
  rw [if_neg h16, if_neg h16]
  by_cases h18 : q < 255
  · rw [if_pos h18, if_pos h18]
    rfl
  rw [if_neg h18, if_neg h18]
  rfl
set_option maxRecDepth 100000 in
theorem fu_13 {R : Nat → Nat → Int} {j i : Nat} {z : Int} (hj : j = 153 + i) (hi : i < 24) : updZ (flR R) j z = flR (u2 R 13 (updZ (R 13) i z)) := by
  funext q
  unfold updZ
  by_cases e : q = j
  · rw [if_pos e, e, fl_13 hj hi]
    show z = if i = i then z else _
    rw [if_pos rfl]
  rw [if_neg e]
  unfold flR
  by_cases h1 : q < 1
  · rw [if_pos h1, if_pos h1]
    rfl
  rw [if_neg h1, if_neg h1]
  by_cases h4 : q < 2
  · rw [if_pos h4, if_pos h4]
    rfl
  rw [if_neg h4, if_neg h4]
  by_cases h10 : q < 3
  · rw [if_pos h10, if_pos h10]
    rfl
  rw [if_neg h10, if_neg h10]
  by_cases h20 : q < 5
  · rw [if_pos h20, if_pos h20]
    rfl
  rw [if_neg h20, if_neg h20]
  by_cases h2 : q < 15
  · rw [if_pos h2, if_pos h2]
    rfl
  rw [if_neg h2, if_neg h2]
  by_cases h3 : q < 25
  · rw [if_pos h3, if_pos h3]
    rfl
  rw [if_neg h3, if_neg h3]
  by_cases h5 : q < 35
  · rw [if_pos h5, if_pos h5]
    rfl
  rw [if_neg h5, if_neg h5]
  by_cases h6 : q < 45
  · rw [if_pos h6, if_pos h6]
    rfl
  rw [if_neg h6, if_neg h6]
  by_cases h7 : q < 55
  · rw [if_pos h7, if_pos h7]
    rfl
  rw [if_neg h7, if_neg h7]
  by_cases h8 : q < 65
  · rw [if_pos h8, if_pos h8]
    rfl
  rw [if_neg h8, if_neg h8]
  by_cases h9 : q < 105
  · rw [if_pos h9, if_pos h9]
    rfl
  rw [if_neg h9, if_neg h9]
  by_cases h11 : q < 129
  · rw [if_pos h11, if_pos h11]
    rfl
  rw [if_neg h11, if_neg h11]
  by_cases h12 : q < 153
  · rw [if_pos h12, if_pos h12]
    rfl
  rw [if_neg h12, if_neg h12]
  by_cases h13 : q < 177
  · rw [if_pos h13, if_pos h13]
    show R 13 (q - 153) = if q - 153 = i then z else R 13 (q - 153)
    rw [if_neg (by omega)]
  rw [if_neg h13, if_neg h13]
  by_cases h14 : q < 201
  · rw [if_pos h14, if_pos h14]
    rfl
  rw [if_neg h14, if_neg h14]
  by_cases h15 : q < 225
  · rw [if_pos h15, if_pos h15]
    rfl
  rw [if_neg h15, if_neg h15]
  by_cases h16 : q < 249
  · rw [if_pos h16, if_pos h16]
    rfl
  rw [if_neg h16, if_neg h16]
  by_cases h18 : q < 255
  · rw [if_pos h18, if_pos h18]
    rfl
  rw [if_neg h18, if_neg h18]
  rfl
set_option maxRecDepth 100000 in
theorem fu_14 {R : Nat → Nat → Int} {j i : Nat} {z : Int} (hj : j = 177 + i) (hi : i < 24) : updZ (flR R) j z = flR (u2 R 14 (updZ (R 14) i z)) := by
  funext q
  unfold updZ
  by_cases e : q = j
  · rw [if_pos e, e, fl_14 hj hi]
    show z = if i = i then z else _
    rw [if_pos rfl]
  rw [if_neg e]
  unfold flR
  by_cases h1 : q < 1
  · rw [if_pos h1, if_pos h1]
    rfl
  rw [if_neg h1, if_neg h1]
  by_cases h4 : q < 2
  · rw [if_pos h4, if_pos h4]
    rfl
  rw [if_neg h4, if_neg h4]
  by_cases h10 : q < 3
  · rw [if_pos h10, if_pos h10]
    rfl
  rw [if_neg h10, if_neg h10]
  by_cases h20 : q < 5
  · rw [if_pos h20, if_pos h20]
    rfl
  rw [if_neg h20, if_neg h20]
  by_cases h2 : q < 15
  · rw [if_pos h2, if_pos h2]
    rfl
  rw [if_neg h2, if_neg h2]
  by_cases h3 : q < 25
  · rw [if_pos h3, if_pos h3]
    rfl
  rw [if_neg h3, if_neg h3]
  by_cases h5 : q < 35
  · rw [if_pos h5, if_pos h5]
    rfl
  rw [if_neg h5, if_neg h5]
  by_cases h6 : q < 45
  · rw [if_pos h6, if_pos h6]
    rfl
  rw [if_neg h6, if_neg h6]
  by_cases h7 : q < 55
  · rw [if_pos h7, if_pos h7]
    rfl
  rw [if_neg h7, if_neg h7]
  by_cases h8 : q < 65
  · rw [if_pos h8, if_pos h8]
    rfl
  rw [if_neg h8, if_neg h8]
  by_cases h9 : q < 105
  · rw [if_pos h9, if_pos h9]
    rfl
  rw [if_neg h9, if_neg h9]
  by_cases h11 : q < 129
  · rw [if_pos h11, if_pos h11]
    rfl
  rw [if_neg h11, if_neg h11]
  by_cases h12 : q < 153
  · rw [if_pos h12, if_pos h12]
    rfl
  rw [if_neg h12, if_neg h12]
  by_cases h13 : q < 177
  · rw [if_pos h13, if_pos h13]
    rfl
  rw [if_neg h13, if_neg h13]
  by_cases h14 : q < 201
  · rw [if_pos h14, if_pos h14]
    show R 14 (q - 177) = if q - 177 = i then z else R 14 (q - 177)
    rw [if_neg (by omega)]
  rw [if_neg h14, if_neg h14]
  by_cases h15 : q < 225
  · rw [if_pos h15, if_pos h15]
    rfl
  rw [if_neg h15, if_neg h15]
  by_cases h16 : q < 249
  · rw [if_pos h16, if_pos h16]
    rfl
  rw [if_neg h16, if_neg h16]
  by_cases h18 : q < 255
  · rw [if_pos h18, if_pos h18]
    rfl
  rw [if_neg h18, if_neg h18]
  rfl
set_option maxRecDepth 100000 in
theorem fu_15 {R : Nat → Nat → Int} {j i : Nat} {z : Int} (hj : j = 201 + i) (hi : i < 24) : updZ (flR R) j z = flR (u2 R 15 (updZ (R 15) i z)) := by
  funext q
  unfold updZ
  by_cases e : q = j
  · rw [if_pos e, e, fl_15 hj hi]
    show z = if i = i then z else _
    rw [if_pos rfl]
  rw [if_neg e]
  unfold flR
  by_cases h1 : q < 1
  · rw [if_pos h1, if_pos h1]
    rfl
  rw [if_neg h1, if_neg h1]
  by_cases h4 : q < 2
  · rw [if_pos h4, if_pos h4]
    rfl
  rw [if_neg h4, if_neg h4]
  by_cases h10 : q < 3
  · rw [if_pos h10, if_pos h10]
    rfl
  rw [if_neg h10, if_neg h10]
  by_cases h20 : q < 5
  · rw [if_pos h20, if_pos h20]
    rfl
  rw [if_neg h20, if_neg h20]
  by_cases h2 : q < 15
  · rw [if_pos h2, if_pos h2]
    rfl
  rw [if_neg h2, if_neg h2]
  by_cases h3 : q < 25
  · rw [if_pos h3, if_pos h3]
    rfl
  rw [if_neg h3, if_neg h3]
  by_cases h5 : q < 35
  · rw [if_pos h5, if_pos h5]
    rfl
  rw [if_neg h5, if_neg h5]
  by_cases h6 : q < 45
  · rw [if_pos h6, if_pos h6]
    rfl
  rw [if_neg h6, if_neg h6]
  by_cases h7 : q < 55
  · rw [if_pos h7, if_pos h7]
    rfl
  rw [if_neg h7, if_neg h7]
  by_cases h8 : q < 65
  · rw [if_pos h8, if_pos h8]
    rfl
  rw [if_neg h8, if_neg h8]
  by_cases h9 : q < 105
  · rw [if_pos h9, if_pos h9]
    rfl
  rw [if_neg h9, if_neg h9]
  by_cases h11 : q < 129
  · rw [if_pos h11, if_pos h11]
    rfl
  rw [if_neg h11, if_neg h11]
  by_cases h12 : q < 153
  · rw [if_pos h12, if_pos h12]
    rfl
  rw [if_neg h12, if_neg h12]
  by_cases h13 : q < 177
  · rw [if_pos h13, if_pos h13]
    rfl
  rw [if_neg h13, if_neg h13]
  by_cases h14 : q < 201
  · rw [if_pos h14, if_pos h14]
    rfl
  rw [if_neg h14, if_neg h14]
  by_cases h15 : q < 225
  · rw [if_pos h15, if_pos h15]
    show R 15 (q - 201) = if q - 201 = i then z else R 15 (q - 201)
    rw [if_neg (by omega)]
  rw [if_neg h15, if_neg h15]
  by_cases h16 : q < 249
  · rw [if_pos h16, if_pos h16]
    rfl
  rw [if_neg h16, if_neg h16]
  by_cases h18 : q < 255
  · rw [if_pos h18, if_pos h18]
    rfl
  rw [if_neg h18, if_neg h18]
  rfl
set_option maxRecDepth 100000 in
theorem fu_16 {R : Nat → Nat → Int} {j i : Nat} {z : Int} (hj : j = 225 + i) (hi : i < 24) : updZ (flR R) j z = flR (u2 R 16 (updZ (R 16) i z)) := by
  funext q
  unfold updZ
  by_cases e : q = j
  · rw [if_pos e, e, fl_16 hj hi]
    show z = if i = i then z else _
    rw [if_pos rfl]
  rw [if_neg e]
  unfold flR
  by_cases h1 : q < 1
  · rw [if_pos h1, if_pos h1]
    rfl
  rw [if_neg h1, if_neg h1]
  by_cases h4 : q < 2
  · rw [if_pos h4, if_pos h4]
    rfl
  rw [if_neg h4, if_neg h4]
  by_cases h10 : q < 3
  · rw [if_pos h10, if_pos h10]
    rfl
  rw [if_neg h10, if_neg h10]
  by_cases h20 : q < 5
  · rw [if_pos h20, if_pos h20]
    rfl
  rw [if_neg h20, if_neg h20]
  by_cases h2 : q < 15
  · rw [if_pos h2, if_pos h2]
    rfl
  rw [if_neg h2, if_neg h2]
  by_cases h3 : q < 25
  · rw [if_pos h3, if_pos h3]
    rfl
  rw [if_neg h3, if_neg h3]
  by_cases h5 : q < 35
  · rw [if_pos h5, if_pos h5]
    rfl
  rw [if_neg h5, if_neg h5]
  by_cases h6 : q < 45
  · rw [if_pos h6, if_pos h6]
    rfl
  rw [if_neg h6, if_neg h6]
  by_cases h7 : q < 55
  · rw [if_pos h7, if_pos h7]
    rfl
  rw [if_neg h7, if_neg h7]
  by_cases h8 : q < 65
  · rw [if_pos h8, if_pos h8]
    rfl
  rw [if_neg h8, if_neg h8]
  by_cases h9 : q < 105
  · rw [if_pos h9, if_pos h9]
    rfl
  rw [if_neg h9, if_neg h9]
  by_cases h11 : q < 129
  · rw [if_pos h11, if_pos h11]
    rfl
  rw [if_neg h11, if_neg h11]
  by_cases h12 : q < 153
  · rw [if_pos h12, if_pos h12]
    rfl
  rw [if_neg h12, if_neg h12]
  by_cases h13 : q < 177
  · rw [if_pos h13, if_pos h13]
    rfl
  rw [if_neg h13, if_neg h13]
  by_cases h14 : q < 201
  · rw [if_pos h14, if_pos h14]
    rfl
  rw [if_neg h14, if_neg h14]
  by_cases h15 : q < 225
  · rw [if_pos h15, if_pos h15]
    rfl
  rw [if_neg h15, if_neg h15]
  by_cases h16 : q < 249
  · rw [if_pos h16, if_pos h16]
    show R 16 (q - 225) = if q - 225 = i then z else R 16 (q - 225)
    rw [if_neg (by omega)]
  rw [if_neg h16, if_neg h16]
  by_cases h18 : q < 255
  · rw [if_pos h18, if_pos h18]
    rfl
  rw [if_neg h18, if_neg h18]
  rfl
set_option maxRecDepth 100000 in
theorem fu_18 {R : Nat → Nat → Int} {j i : Nat} {z : Int} (hj : j = 249 + i) (hi : i < 6) : updZ (flR R) j z = flR (u2 R 18 (updZ (R 18) i z)) := by
  funext q
  unfold updZ
  by_cases e : q = j
  · rw [if_pos e, e, fl_18 hj hi]
    show z = if i = i then z else _
    rw [if_pos rfl]
  rw [if_neg e]
  unfold flR
  by_cases h1 : q < 1
  · rw [if_pos h1, if_pos h1]
    rfl
  rw [if_neg h1, if_neg h1]
  by_cases h4 : q < 2
  · rw [if_pos h4, if_pos h4]
    rfl
  rw [if_neg h4, if_neg h4]
  by_cases h10 : q < 3
  · rw [if_pos h10, if_pos h10]
    rfl
  rw [if_neg h10, if_neg h10]
  by_cases h20 : q < 5
  · rw [if_pos h20, if_pos h20]
    rfl
  rw [if_neg h20, if_neg h20]
  by_cases h2 : q < 15
  · rw [if_pos h2, if_pos h2]
    rfl
  rw [if_neg h2, if_neg h2]
  by_cases h3 : q < 25
  · rw [if_pos h3, if_pos h3]
    rfl
  rw [if_neg h3, if_neg h3]
  by_cases h5 : q < 35
  · rw [if_pos h5, if_pos h5]
    rfl
  rw [if_neg h5, if_neg h5]
  by_cases h6 : q < 45
  · rw [if_pos h6, if_pos h6]
    rfl
  rw [if_neg h6, if_neg h6]
  by_cases h7 : q < 55
  · rw [if_pos h7, if_pos h7]
    rfl
  rw [if_neg h7, if_neg h7]
  by_cases h8 : q < 65
  · rw [if_pos h8, if_pos h8]
    rfl
  rw [if_neg h8, if_neg h8]
  by_cases h9 : q < 105
  · rw [if_pos h9, if_pos h9]
    rfl
  rw [if_neg h9, if_neg h9]
  by_cases h11 : q < 129
  · rw [if_pos h11, if_pos h11]
    rfl
  rw [if_neg h11, if_neg h11]
  by_cases h12 : q < 153
  · rw [if_pos h12, if_pos h12]
    rfl
  rw [if_neg h12, if_neg h12]
  by_cases h13 : q < 177
  · rw [if_pos h13, if_pos h13]
    rfl
  rw [if_neg h13, if_neg h13]
  by_cases h14 : q < 201
  · rw [if_pos h14, if_pos h14]
    rfl
  rw [if_neg h14, if_neg h14]
  by_cases h15 : q < 225
  · rw [if_pos h15, if_pos h15]
    rfl
  rw [if_neg h15, if_neg h15]
  by_cases h16 : q < 249
  · rw [if_pos h16, if_pos h16]
    rfl
  rw [if_neg h16, if_neg h16]
  by_cases h18 : q < 255
  · rw [if_pos h18, if_pos h18]
    show R 18 (q - 249) = if q - 249 = i then z else R 18 (q - 249)
    rw [if_neg (by omega)]
  rw [if_neg h18, if_neg h18]
  rfl
set_option maxRecDepth 100000 in
theorem fu_19 {R : Nat → Nat → Int} {j i : Nat} {z : Int} (hj : j = 255 + i) (hi : i < 36) : updZ (flR R) j z = flR (u2 R 19 (updZ (R 19) i z)) := by
  funext q
  unfold updZ
  by_cases e : q = j
  · rw [if_pos e, e, fl_19 hj hi]
    show z = if i = i then z else _
    rw [if_pos rfl]
  rw [if_neg e]
  unfold flR
  by_cases h1 : q < 1
  · rw [if_pos h1, if_pos h1]
    rfl
  rw [if_neg h1, if_neg h1]
  by_cases h4 : q < 2
  · rw [if_pos h4, if_pos h4]
    rfl
  rw [if_neg h4, if_neg h4]
  by_cases h10 : q < 3
  · rw [if_pos h10, if_pos h10]
    rfl
  rw [if_neg h10, if_neg h10]
  by_cases h20 : q < 5
  · rw [if_pos h20, if_pos h20]
    rfl
  rw [if_neg h20, if_neg h20]
  by_cases h2 : q < 15
  · rw [if_pos h2, if_pos h2]
    rfl
  rw [if_neg h2, if_neg h2]
  by_cases h3 : q < 25
  · rw [if_pos h3, if_pos h3]
    rfl
  rw [if_neg h3, if_neg h3]
  by_cases h5 : q < 35
  · rw [if_pos h5, if_pos h5]
    rfl
  rw [if_neg h5, if_neg h5]
  by_cases h6 : q < 45
  · rw [if_pos h6, if_pos h6]
    rfl
  rw [if_neg h6, if_neg h6]
  by_cases h7 : q < 55
  · rw [if_pos h7, if_pos h7]
    rfl
  rw [if_neg h7, if_neg h7]
  by_cases h8 : q < 65
  · rw [if_pos h8, if_pos h8]
    rfl
  rw [if_neg h8, if_neg h8]
  by_cases h9 : q < 105
  · rw [if_pos h9, if_pos h9]
    rfl
  rw [if_neg h9, if_neg h9]
  by_cases h11 : q < 129
  · rw [if_pos h11, if_pos h11]
    rfl
  rw [if_neg h11, if_neg h11]
  by_cases h12 : q < 153
  · rw [if_pos h12, if_pos h12]
    rfl
  rw [if_neg h12, if_neg h12]
  by_cases h13 : q < 177
  · rw [if_pos h13, if_pos h13]
    rfl
  rw [if_neg h13, if_neg h13]
  by_cases h14 : q < 201
  · rw [if_pos h14, if_pos h14]
    rfl
  rw [if_neg h14, if_neg h14]
  by_cases h15 : q < 225
  · rw [if_pos h15, if_pos h15]
    rfl
  rw [if_neg h15, if_neg h15]
  by_cases h16 : q < 249
  · rw [if_pos h16, if_pos h16]
    rfl
  rw [if_neg h16, if_neg h16]
  by_cases h18 : q < 255
  · rw [if_pos h18, if_pos h18]
    rfl
  rw [if_neg h18, if_neg h18]
  show R 19 (q - 255) = if q - 255 = i then z else R 19 (q - 255)
  rw [if_neg (by omega)]

theorem cd_X10_goHang : cd yX10_goHang 3 := by decide +kernel
set_option maxHeartbeats 1000000 in
set_option maxRecDepth 100000 in
theorem c_X10_goHang (l : Launch) (g : va_G) (τ : Nat → ClassId) (fa : Nat) (R : Nat → Nat → Int) (hI : SI R) (s1 : Nat) (hs : (s1 : Int) < R 10 0) (z : Int) (hz : -2147483648 ≤ z ∧ z < 2147483648) (hI2 : SI (u2 R 16 (updZ (R 16) s1 z)))  : Met l yX10_goHang wsX10_goHang { frames := 1, cells := 0, slots := 0, locals := 23 } (va_Pc [Value.ref fa, Value.int (iI (s1 : Int)), Value.int (iI z)] (rwW g τ (flW fa R τ))) (rwQ g (fun v w => v = some (Value.int (iI (cnt (fun s => decide (updZ (R 16) s1 z s = z)) (R 10 0).toNat))) ∧ w = flW fa (u2 R 16 (updZ (R 16) s1 z)) τ) (inW (flW fa R τ))) 0 0 (inW (flW fa R τ)) := by
  have hB := hI.hB
  have hr0 := hI.r
  have hd0 := hI.d
  have hs0 := hI.s
  refine rwMet (cc := cX10_goHang) (maxL := 3) (ret := (some .int)) (lv := [(0, Value.ref fa), (1, Value.int (iI (s1 : Int))), (2, Value.int (iI z))]) (by decide) rfl (Nat.le_of_ble_eq_true rfl) rfl ?_
  intro p e s m below meth c hx hb hr hml hts hown hlocks A H hP hD hS hK ls hl
  refine lv_aload_n hx hb dX10_goHang_0 rfl (lv_at hl 0 rfl) ?_
  refine lv_sipush (v := iI 225) hx hb dX10_goHang_1 (by decide) ?_
  refine lv_iload_n hx hb dX10_goHang_4 rfl (lv_at hl 1 rfl) ?_
  refine zi_add hx hb dX10_goHang_5 ?_
  refine lv_iload_n hx hb dX10_goHang_6 rfl (lv_at hl 2 rfl) ?_
  refine zf_ast hx hb hK hP hD hS 0 (f := flR R) (f2 := flR (u2 R 16 (updZ (R 16) s1 z))) rfl (225 + s1) (by omega) (by omega) (by decide) (fu_16 (by omega) (by omega)) dX10_goHang_7 (wo := flW fa (u2 R 16 (updZ (R 16) s1 z)) τ) rfl (fun H locs hP hD hS => ?_)
  refine lv_aload_n hx hb dX10_goHang_8 rfl (lv_at hl 0 rfl) ?_
  refine lv_iload_n hx hb dX10_goHang_9 rfl (lv_at hl 2 rfl) ?_
  refine ro_S (As := [Value.ref fa, Value.int (iI z)]) (rest := []) (v := some (Value.int (iI (cnt (fun s => decide ((u2 R 16 (updZ (R 16) s1 z)) 16 s = z)) ((u2 R 16 (updZ (R 16) s1 z)) 10 0).toNat)))) ⟨hx, hb, hml, hown, hts⟩ (c_X10_onCharter l g τ fa (u2 R 16 (updZ (R 16) s1 z)) hI2 z ⟨by omega, by omega⟩) gX10_goHang_X10_onCharter cd_X10_onCharter rfl ⟨rfl, rfl⟩ ⟨Nat.le_of_ble_eq_true rfl, Nat.le_of_ble_eq_true rfl⟩ hK hP rfl hl rfl (Nat.le_of_ble_eq_true rfl) dX10_goHang_10 ⟨Nat.le_of_ble_eq_true rfl, Nat.le_of_ble_eq_true rfl⟩ ?_
  refine tl_some ?_
  exact rw_iret hx hb hr hlocks hP hS (⟨rfl, rfl⟩) dX10_goHang_13

theorem cd_X10_goShow : cd yX10_goShow 3 := by decide +kernel
set_option maxHeartbeats 1000000 in
set_option maxRecDepth 100000 in
theorem c_X10_goShow (l : Launch) (g : va_G) (τ : Nat → ClassId) (fa : Nat) (R : Nat → Nat → Int) (hI : SI R) (s1 : Nat) (hs : (s1 : Int) < R 10 0) (z : Int) (hz : -2147483648 ≤ z ∧ z < 2147483648)  : Met l yX10_goShow wsX10_goShow { frames := 0, cells := 0, slots := 0, locals := 0 } (va_Pc [Value.ref fa, Value.int (iI (s1 : Int)), Value.int (iI z)] (rwW g τ (flW fa R τ))) (rwQ g (fun v w => v = some (Value.int (iI (R 15 s1))) ∧ w = flW fa (u2 R 15 (updZ (R 15) s1 z)) τ) (inW (flW fa R τ))) 0 0 (inW (flW fa R τ)) := by
  have hB := hI.hB
  have hr0 := hI.r
  have hd0 := hI.d
  have hs0 := hI.s
  refine rwMet (cc := cX10_goShow) (maxL := 4) (ret := (some .int)) (lv := [(0, Value.ref fa), (1, Value.int (iI (s1 : Int))), (2, Value.int (iI z))]) (by decide) rfl (Nat.le_of_ble_eq_true rfl) rfl ?_
  intro p e s m below meth c hx hb hr hml hts hown hlocks A H hP hD hS hK ls hl
  refine lv_aload_n hx hb dX10_goShow_0 rfl (lv_at hl 0 rfl) ?_
  refine lv_sipush (v := iI 201) hx hb dX10_goShow_1 (by decide) ?_
  refine lv_iload_n hx hb dX10_goShow_4 rfl (lv_at hl 1 rfl) ?_
  refine zi_add hx hb dX10_goShow_5 ?_
  refine zf_ald hx hb hK hP 0 (f := flR R) rfl (201 + s1) (by omega) (by omega) (by decide) (z := R 15 s1) (fl_15 (i := s1) (by omega) (by omega)) dX10_goShow_6 ?_
  have hb_1 := hB 15 s1
  refine lv_istore_n (lv' := [(3, Value.int (iI (R 15 s1))), (0, Value.ref fa), (1, Value.int (iI (s1 : Int))), (2, Value.int (iI z))]) hx hb dX10_goShow_7 rfl hl (by decide) rfl (fun ls hl => ?_)
  refine lv_aload_n hx hb dX10_goShow_8 rfl (lv_at hl 1 rfl) ?_
  refine lv_sipush (v := iI 201) hx hb dX10_goShow_9 (by decide) ?_
  refine lv_iload_n hx hb dX10_goShow_12 rfl (lv_at hl 2 rfl) ?_
  refine zi_add hx hb dX10_goShow_13 ?_
  refine lv_iload_n hx hb dX10_goShow_14 rfl (lv_at hl 3 rfl) ?_
  refine zf_ast hx hb hK hP hD hS 0 (f := flR R) (f2 := flR (u2 R 15 (updZ (R 15) s1 z))) rfl (201 + s1) (by omega) (by omega) (by decide) (fu_15 (by omega) (by omega)) dX10_goShow_15 (wo := flW fa (u2 R 15 (updZ (R 15) s1 z)) τ) rfl (fun H locs hP hD hS => ?_)
  refine lv_iload_n hx hb dX10_goShow_16 rfl (lv_at hl 0 rfl) ?_
  exact rw_iret hx hb hr hlocks hP hS (⟨rfl, rfl⟩) dX10_goShow_17

theorem cd_X10_goCut : cd yX10_goCut 2 := by decide +kernel
set_option maxHeartbeats 1000000 in
set_option maxRecDepth 100000 in
theorem c_X10_goCut (l : Launch) (g : va_G) (τ : Nat → ClassId) (fa : Nat) (R : Nat → Nat → Int) (hI : SI R) (s1 : Nat) (hs : (s1 : Int) < R 10 0)  : Met l yX10_goCut wsX10_goCut { frames := 0, cells := 0, slots := 0, locals := 0 } (va_Pc [Value.ref fa, Value.int (iI (s1 : Int))] (rwW g τ (flW fa R τ))) (rwQ g (fun v w => v = some (Value.int (iI (R 16 s1))) ∧ w = flW fa (u2 R 16 (updZ (R 16) s1 (-1))) τ) (inW (flW fa R τ))) 0 0 (inW (flW fa R τ)) := by
  have hB := hI.hB
  have hr0 := hI.r
  have hd0 := hI.d
  have hs0 := hI.s
  refine rwMet (cc := cX10_goCut) (maxL := 3) (ret := (some .int)) (lv := [(0, Value.ref fa), (1, Value.int (iI (s1 : Int)))]) (by decide) rfl (Nat.le_of_ble_eq_true rfl) rfl ?_
  intro p e s m below meth c hx hb hr hml hts hown hlocks A H hP hD hS hK ls hl
  refine lv_aload_n hx hb dX10_goCut_0 rfl (lv_at hl 0 rfl) ?_
  refine lv_sipush (v := iI 225) hx hb dX10_goCut_1 (by decide) ?_
  refine lv_iload_n hx hb dX10_goCut_4 rfl (lv_at hl 1 rfl) ?_
  refine zi_add hx hb dX10_goCut_5 ?_
  refine zf_ald hx hb hK hP 0 (f := flR R) rfl (225 + s1) (by omega) (by omega) (by decide) (z := R 16 s1) (fl_16 (i := s1) (by omega) (by omega)) dX10_goCut_6 ?_
  have hb_1 := hB 16 s1
  refine lv_istore_n (lv' := [(2, Value.int (iI (R 16 s1))), (0, Value.ref fa), (1, Value.int (iI (s1 : Int)))]) hx hb dX10_goCut_7 rfl hl (by decide) rfl (fun ls hl => ?_)
  refine lv_aload_n hx hb dX10_goCut_8 rfl (lv_at hl 1 rfl) ?_
  refine lv_sipush (v := iI 225) hx hb dX10_goCut_9 (by decide) ?_
  refine lv_iload_n hx hb dX10_goCut_12 rfl (lv_at hl 2 rfl) ?_
  refine zi_add hx hb dX10_goCut_13 ?_
  refine lv_iconst (v := iI (-1)) hx hb dX10_goCut_14 (by decide) ?_
  refine zf_ast hx hb hK hP hD hS 0 (f := flR R) (f2 := flR (u2 R 16 (updZ (R 16) s1 (-1)))) rfl (225 + s1) (by omega) (by omega) (by decide) (fu_16 (by omega) (by omega)) dX10_goCut_15 (wo := flW fa (u2 R 16 (updZ (R 16) s1 (-1))) τ) rfl (fun H locs hP hD hS => ?_)
  refine lv_iload_n hx hb dX10_goCut_16 rfl (lv_at hl 0 rfl) ?_
  exact rw_iret hx hb hr hlocks hP hS (⟨rfl, rfl⟩) dX10_goCut_17

theorem cd_X10_goSet : cd yX10_goSet 3 := by decide +kernel
set_option maxHeartbeats 1000000 in
set_option maxRecDepth 100000 in
theorem c_X10_goSet (l : Launch) (g : va_G) (τ : Nat → ClassId) (fa : Nat) (R : Nat → Nat → Int) (hI : SI R) (w1 : Nat) (hw1 : w1 < 2) (z : Int) (hz : -2147483648 ≤ z ∧ z < 2147483648)  : Met l yX10_goSet wsX10_goSet { frames := 0, cells := 0, slots := 0, locals := 0 } (va_Pc [Value.ref fa, Value.int (iI (w1 : Int)), Value.int (iI z)] (rwW g τ (flW fa R τ))) (rwQ g (fun v w => v = some (Value.int (iI (R 20 w1))) ∧ w = flW fa (u2 R 20 (updZ (R 20) w1 z)) τ) (inW (flW fa R τ))) 0 0 (inW (flW fa R τ)) := by
  have hB := hI.hB
  have hr0 := hI.r
  have hd0 := hI.d
  have hs0 := hI.s
  refine rwMet (cc := cX10_goSet) (maxL := 4) (ret := (some .int)) (lv := [(0, Value.ref fa), (1, Value.int (iI (w1 : Int))), (2, Value.int (iI z))]) (by decide) rfl (Nat.le_of_ble_eq_true rfl) rfl ?_
  intro p e s m below meth c hx hb hr hml hts hown hlocks A H hP hD hS hK ls hl
  refine lv_aload_n hx hb dX10_goSet_0 rfl (lv_at hl 0 rfl) ?_
  refine lv_iconst (v := iI 3) hx hb dX10_goSet_1 (by decide) ?_
  refine lv_iload_n hx hb dX10_goSet_2 rfl (lv_at hl 1 rfl) ?_
  refine zi_add hx hb dX10_goSet_3 ?_
  refine zf_ald hx hb hK hP 0 (f := flR R) rfl (3 + w1) (by omega) (by omega) (by decide) (z := R 20 w1) (fl_20 (i := w1) (by omega) (by omega)) dX10_goSet_4 ?_
  have hb_1 := hB 20 w1
  refine lv_istore_n (lv' := [(3, Value.int (iI (R 20 w1))), (0, Value.ref fa), (1, Value.int (iI (w1 : Int))), (2, Value.int (iI z))]) hx hb dX10_goSet_5 rfl hl (by decide) rfl (fun ls hl => ?_)
  refine lv_aload_n hx hb dX10_goSet_6 rfl (lv_at hl 1 rfl) ?_
  refine lv_iconst (v := iI 3) hx hb dX10_goSet_7 (by decide) ?_
  refine lv_iload_n hx hb dX10_goSet_8 rfl (lv_at hl 2 rfl) ?_
  refine zi_add hx hb dX10_goSet_9 ?_
  refine lv_iload_n hx hb dX10_goSet_10 rfl (lv_at hl 3 rfl) ?_
  refine zf_ast hx hb hK hP hD hS 0 (f := flR R) (f2 := flR (u2 R 20 (updZ (R 20) w1 z))) rfl (3 + w1) (by omega) (by omega) (by decide) (fu_20 (by omega) (by omega)) dX10_goSet_11 (wo := flW fa (u2 R 20 (updZ (R 20) w1 z)) τ) rfl (fun H locs hP hD hS => ?_)
  refine lv_iload_n hx hb dX10_goSet_12 rfl (lv_at hl 0 rfl) ?_
  exact rw_iret hx hb hr hlocks hP hS (⟨rfl, rfl⟩) dX10_goSet_13

theorem cd_X10_goReign : cd yX10_goReign 3 := by decide +kernel
set_option maxHeartbeats 1000000 in
set_option maxRecDepth 100000 in
theorem c_X10_goReign (l : Launch) (g : va_G) (τ : Nat → ClassId) (fa : Nat) (R : Nat → Nat → Int) (hI : SI R) (y : Int) (ry : -2147483648 ≤ y ∧ y < 2147483648) (z : Int) (rz : -2147483648 ≤ z ∧ z < 2147483648) (hm : R 1 0 < 10)  : Met l yX10_goReign wsX10_goReign { frames := 0, cells := 0, slots := 0, locals := 0 } (va_Pc [Value.ref fa, Value.int (iI y), Value.int (iI z)] (rwW g τ (flW fa R τ))) (rwQ g (fun v w => v = some (Value.int (iI (R 1 0))) ∧ w = flW fa (u2 (u2 (u2 R 2 (updZ (R 2) (R 1 0).toNat y)) 3 (updZ (R 3) (R 1 0).toNat z)) 1 (fun _ => R 1 0 + 1)) τ) (inW (flW fa R τ))) 0 0 (inW (flW fa R τ)) := by
  have hB := hI.hB
  have hr0 := hI.r
  have hd0 := hI.d
  have hs0 := hI.s
  refine rwMet (cc := cX10_goReign) (maxL := 3) (ret := (some .int)) (lv := [(0, Value.ref fa), (1, Value.int (iI y)), (2, Value.int (iI z))]) (by decide) rfl (Nat.le_of_ble_eq_true rfl) rfl ?_
  intro p e s m below meth c hx hb hr hml hts hown hlocks A H hP hD hS hK ls hl
  refine lv_aload_n hx hb dX10_goReign_0 rfl (lv_at hl 0 rfl) ?_
  refine lv_iconst (v := iI 5) hx hb dX10_goReign_1 (by decide) ?_
  refine lv_aload_n hx hb dX10_goReign_2 rfl (lv_at hl 0 rfl) ?_
  refine lv_iconst (v := iI 0) hx hb dX10_goReign_3 (by decide) ?_
  refine zf_ald hx hb hK hP 0 (f := flR R) rfl (0) (rfl) (by omega) (by decide) (z := R 1 0) (fl_1) dX10_goReign_4 ?_
  have hb_1 := hB 1 0
  refine cv_i (y := iI (((R 1 0).toNat : Nat) : Int)) (congrArg iI (by omega)) ?_
  refine zi_add hx hb dX10_goReign_5 ?_
  refine lv_iload_n hx hb dX10_goReign_6 rfl (lv_at hl 1 rfl) ?_
  refine zf_ast hx hb hK hP hD hS 0 (f := flR R) (f2 := flR (u2 R 2 (updZ (R 2) ((R 1 0).toNat) y))) rfl (5 + ((R 1 0).toNat)) (by omega) (by omega) (by decide) (fu_2 (by omega) (by omega)) dX10_goReign_7 (wo := flW fa (u2 R 2 (updZ (R 2) ((R 1 0).toNat) y)) τ) rfl (fun H locs hP hD hS => ?_)
  refine lv_aload_n hx hb dX10_goReign_8 rfl (lv_at hl 0 rfl) ?_
  refine lv_bipush (v := iI 15) hx hb dX10_goReign_9 (by decide) ?_
  refine lv_aload_n hx hb dX10_goReign_11 rfl (lv_at hl 0 rfl) ?_
  refine lv_iconst (v := iI 0) hx hb dX10_goReign_12 (by decide) ?_
  refine zf_ald hx hb hK hP 0 (f := flR (u2 R 2 (updZ (R 2) ((R 1 0).toNat) y))) rfl (0) (rfl) (by omega) (by decide) (z := (u2 R 2 (updZ (R 2) ((R 1 0).toNat) y)) 1 0) (fl_1) dX10_goReign_13 ?_
  refine cv_i (y := iI (((R 1 0).toNat : Nat) : Int)) (congrArg iI (by show R 1 0 = _; omega)) ?_
  refine zi_add hx hb dX10_goReign_14 ?_
  refine lv_iload_n hx hb dX10_goReign_15 rfl (lv_at hl 2 rfl) ?_
  refine zf_ast hx hb hK hP hD hS 0 (f := flR (u2 R 2 (updZ (R 2) ((R 1 0).toNat) y))) (f2 := flR (u2 (u2 R 2 (updZ (R 2) ((R 1 0).toNat) y)) 3 (updZ ((u2 R 2 (updZ (R 2) ((R 1 0).toNat) y)) 3) ((R 1 0).toNat) z))) rfl (15 + ((R 1 0).toNat)) (by omega) (by omega) (by decide) (fu_3 (by omega) (by omega)) dX10_goReign_16 (wo := flW fa (u2 (u2 R 2 (updZ (R 2) ((R 1 0).toNat) y)) 3 (updZ ((u2 R 2 (updZ (R 2) ((R 1 0).toNat) y)) 3) ((R 1 0).toNat) z)) τ) rfl (fun H locs hP hD hS => ?_)
  refine lv_aload_n hx hb dX10_goReign_17 rfl (lv_at hl 0 rfl) ?_
  refine lv_iconst (v := iI 0) hx hb dX10_goReign_18 (by decide) ?_
  refine lv_dup2_11 hx hb dX10_goReign_19 rfl rfl ?_
  refine zf_ald hx hb hK hP 0 (f := flR (u2 (u2 R 2 (updZ (R 2) ((R 1 0).toNat) y)) 3 (updZ ((u2 R 2 (updZ (R 2) ((R 1 0).toNat) y)) 3) ((R 1 0).toNat) z))) rfl (0) (rfl) (by omega) (by decide) (z := (u2 (u2 R 2 (updZ (R 2) ((R 1 0).toNat) y)) 3 (updZ ((u2 R 2 (updZ (R 2) ((R 1 0).toNat) y)) 3) ((R 1 0).toNat) z)) 1 0) (fl_1) dX10_goReign_20 ?_
  refine lv_iconst (v := iI 1) hx hb dX10_goReign_21 (by decide) ?_
  refine zi_add hx hb dX10_goReign_22 ?_
  refine zf_ast hx hb hK hP hD hS 0 (f := flR (u2 (u2 R 2 (updZ (R 2) ((R 1 0).toNat) y)) 3 (updZ ((u2 R 2 (updZ (R 2) ((R 1 0).toNat) y)) 3) ((R 1 0).toNat) z))) (f2 := flR (u2 (u2 (u2 R 2 (updZ (R 2) ((R 1 0).toNat) y)) 3 (updZ ((u2 R 2 (updZ (R 2) ((R 1 0).toNat) y)) 3) ((R 1 0).toNat) z)) 1 (fun _ => ((u2 (u2 R 2 (updZ (R 2) ((R 1 0).toNat) y)) 3 (updZ ((u2 R 2 (updZ (R 2) ((R 1 0).toNat) y)) 3) ((R 1 0).toNat) z)) 1 0) + 1))) rfl (0) (rfl) (by omega) (by decide) (fu_1) dX10_goReign_23 (wo := flW fa (u2 (u2 (u2 R 2 (updZ (R 2) ((R 1 0).toNat) y)) 3 (updZ ((u2 R 2 (updZ (R 2) ((R 1 0).toNat) y)) 3) ((R 1 0).toNat) z)) 1 (fun _ => ((u2 (u2 R 2 (updZ (R 2) ((R 1 0).toNat) y)) 3 (updZ ((u2 R 2 (updZ (R 2) ((R 1 0).toNat) y)) 3) ((R 1 0).toNat) z)) 1 0) + 1)) τ) rfl (fun H locs hP hD hS => ?_)
  refine lv_aload_n hx hb dX10_goReign_24 rfl (lv_at hl 0 rfl) ?_
  refine lv_iconst (v := iI 0) hx hb dX10_goReign_25 (by decide) ?_
  refine zf_ald hx hb hK hP 0 (f := flR (u2 (u2 (u2 R 2 (updZ (R 2) ((R 1 0).toNat) y)) 3 (updZ ((u2 R 2 (updZ (R 2) ((R 1 0).toNat) y)) 3) ((R 1 0).toNat) z)) 1 (fun _ => ((u2 (u2 R 2 (updZ (R 2) ((R 1 0).toNat) y)) 3 (updZ ((u2 R 2 (updZ (R 2) ((R 1 0).toNat) y)) 3) ((R 1 0).toNat) z)) 1 0) + 1))) rfl (0) (rfl) (by omega) (by decide) (z := (u2 (u2 (u2 R 2 (updZ (R 2) ((R 1 0).toNat) y)) 3 (updZ ((u2 R 2 (updZ (R 2) ((R 1 0).toNat) y)) 3) ((R 1 0).toNat) z)) 1 (fun _ => ((u2 (u2 R 2 (updZ (R 2) ((R 1 0).toNat) y)) 3 (updZ ((u2 R 2 (updZ (R 2) ((R 1 0).toNat) y)) 3) ((R 1 0).toNat) z)) 1 0) + 1)) 1 0) (fl_1) dX10_goReign_26 ?_
  refine lv_iconst (v := iI 1) hx hb dX10_goReign_27 (by decide) ?_
  refine zi_sub hx hb dX10_goReign_28 ?_
  exact rw_iret hx hb hr hlocks hP hS (⟨by show some (Value.int (iI (R 1 0 + 1 - 1))) = _; rw [show R 1 0 + 1 - 1 = R 1 0 from by omega], rfl⟩) dX10_goReign_29

theorem cd_X10_goDie : cd yX10_goDie 4 := by decide +kernel
set_option maxHeartbeats 1000000 in
set_option maxRecDepth 100000 in
theorem c_X10_goDie (l : Launch) (g : va_G) (τ : Nat → ClassId) (fa : Nat) (R : Nat → Nat → Int) (hI : SI R) (y : Int) (ry : -2147483648 ≤ y ∧ y < 2147483648) (z : Int) (rz : -2147483648 ≤ z ∧ z < 2147483648) (q : Int) (rq : -2147483648 ≤ q ∧ q < 2147483648) (hm : R 4 0 < 10)  : Met l yX10_goDie wsX10_goDie { frames := 0, cells := 0, slots := 0, locals := 0 } (va_Pc [Value.ref fa, Value.int (iI y), Value.int (iI z), Value.int (iI q)] (rwW g τ (flW fa R τ))) (rwQ g (fun v w => v = some (Value.int (iI (R 4 0))) ∧ w = flW fa (u2 (u2 (u2 (u2 (u2 R 5 (updZ (R 5) (R 4 0).toNat y)) 6 (updZ (R 6) (R 4 0).toNat z)) 7 (updZ (R 7) (R 4 0).toNat q)) 8 (updZ (R 8) (R 4 0).toNat 0)) 4 (fun _ => R 4 0 + 1)) τ) (inW (flW fa R τ))) 0 0 (inW (flW fa R τ)) := by
  have hB := hI.hB
  have hr0 := hI.r
  have hd0 := hI.d
  have hs0 := hI.s
  refine rwMet (cc := cX10_goDie) (maxL := 5) (ret := (some .int)) (lv := [(0, Value.ref fa), (1, Value.int (iI y)), (2, Value.int (iI z)), (3, Value.int (iI q))]) (by decide) rfl (Nat.le_of_ble_eq_true rfl) rfl ?_
  intro p e s m below meth c hx hb hr hml hts hown hlocks A H hP hD hS hK ls hl
  refine lv_aload_n hx hb dX10_goDie_0 rfl (lv_at hl 0 rfl) ?_
  refine lv_iconst (v := iI 1) hx hb dX10_goDie_1 (by decide) ?_
  refine zf_ald hx hb hK hP 0 (f := flR R) rfl (1) (rfl) (by omega) (by decide) (z := R 4 0) (fl_4) dX10_goDie_2 ?_
  have hb_1 := hB 4 0
  refine cv_i (y := iI (((R 4 0).toNat : Nat) : Int)) (congrArg iI (by omega)) ?_
  refine lv_istore (lv' := [(4, Value.int (iI (((R 4 0).toNat : Nat) : Int))), (0, Value.ref fa), (1, Value.int (iI y)), (2, Value.int (iI z)), (3, Value.int (iI q))]) hx hb dX10_goDie_3 hl (by decide) rfl (fun ls hl => ?_)
  refine lv_aload_n hx hb dX10_goDie_5 rfl (lv_at hl 1 rfl) ?_
  refine lv_bipush (v := iI 25) hx hb dX10_goDie_6 (by decide) ?_
  refine lv_iload hx hb dX10_goDie_8 (lv_at hl 0 rfl) ?_
  refine zi_add hx hb dX10_goDie_10 ?_
  refine lv_iload_n hx hb dX10_goDie_11 rfl (lv_at hl 2 rfl) ?_
  refine zf_ast hx hb hK hP hD hS 0 (f := flR R) (f2 := flR (u2 R 5 (updZ (R 5) ((R 4 0).toNat) y))) rfl (25 + ((R 4 0).toNat)) (by omega) (by omega) (by decide) (fu_5 (by omega) (by omega)) dX10_goDie_12 (wo := flW fa (u2 R 5 (updZ (R 5) ((R 4 0).toNat) y)) τ) rfl (fun H locs hP hD hS => ?_)
  refine lv_aload_n hx hb dX10_goDie_13 rfl (lv_at hl 1 rfl) ?_
  refine lv_bipush (v := iI 35) hx hb dX10_goDie_14 (by decide) ?_
  refine lv_iload hx hb dX10_goDie_16 (lv_at hl 0 rfl) ?_
  refine zi_add hx hb dX10_goDie_18 ?_
  refine lv_iload_n hx hb dX10_goDie_19 rfl (lv_at hl 3 rfl) ?_
  refine zf_ast hx hb hK hP hD hS 0 (f := flR (u2 R 5 (updZ (R 5) ((R 4 0).toNat) y))) (f2 := flR (u2 (u2 R 5 (updZ (R 5) ((R 4 0).toNat) y)) 6 (updZ ((u2 R 5 (updZ (R 5) ((R 4 0).toNat) y)) 6) ((R 4 0).toNat) z))) rfl (35 + ((R 4 0).toNat)) (by omega) (by omega) (by decide) (fu_6 (by omega) (by omega)) dX10_goDie_20 (wo := flW fa (u2 (u2 R 5 (updZ (R 5) ((R 4 0).toNat) y)) 6 (updZ ((u2 R 5 (updZ (R 5) ((R 4 0).toNat) y)) 6) ((R 4 0).toNat) z)) τ) rfl (fun H locs hP hD hS => ?_)
  refine lv_aload_n hx hb dX10_goDie_21 rfl (lv_at hl 1 rfl) ?_
  refine lv_bipush (v := iI 45) hx hb dX10_goDie_22 (by decide) ?_
  refine lv_iload hx hb dX10_goDie_24 (lv_at hl 0 rfl) ?_
  refine zi_add hx hb dX10_goDie_26 ?_
  refine lv_iload_n hx hb dX10_goDie_27 rfl (lv_at hl 4 rfl) ?_
  refine zf_ast hx hb hK hP hD hS 0 (f := flR (u2 (u2 R 5 (updZ (R 5) ((R 4 0).toNat) y)) 6 (updZ ((u2 R 5 (updZ (R 5) ((R 4 0).toNat) y)) 6) ((R 4 0).toNat) z))) (f2 := flR (u2 (u2 (u2 R 5 (updZ (R 5) ((R 4 0).toNat) y)) 6 (updZ ((u2 R 5 (updZ (R 5) ((R 4 0).toNat) y)) 6) ((R 4 0).toNat) z)) 7 (updZ ((u2 (u2 R 5 (updZ (R 5) ((R 4 0).toNat) y)) 6 (updZ ((u2 R 5 (updZ (R 5) ((R 4 0).toNat) y)) 6) ((R 4 0).toNat) z)) 7) ((R 4 0).toNat) q))) rfl (45 + ((R 4 0).toNat)) (by omega) (by omega) (by decide) (fu_7 (by omega) (by omega)) dX10_goDie_28 (wo := flW fa (u2 (u2 (u2 R 5 (updZ (R 5) ((R 4 0).toNat) y)) 6 (updZ ((u2 R 5 (updZ (R 5) ((R 4 0).toNat) y)) 6) ((R 4 0).toNat) z)) 7 (updZ ((u2 (u2 R 5 (updZ (R 5) ((R 4 0).toNat) y)) 6 (updZ ((u2 R 5 (updZ (R 5) ((R 4 0).toNat) y)) 6) ((R 4 0).toNat) z)) 7) ((R 4 0).toNat) q)) τ) rfl (fun H locs hP hD hS => ?_)
  refine lv_aload_n hx hb dX10_goDie_29 rfl (lv_at hl 1 rfl) ?_
  refine lv_bipush (v := iI 55) hx hb dX10_goDie_30 (by decide) ?_
  refine lv_iload hx hb dX10_goDie_32 (lv_at hl 0 rfl) ?_
  refine zi_add hx hb dX10_goDie_34 ?_
  refine lv_iconst (v := iI 0) hx hb dX10_goDie_35 (by decide) ?_
  refine zf_ast hx hb hK hP hD hS 0 (f := flR (u2 (u2 (u2 R 5 (updZ (R 5) ((R 4 0).toNat) y)) 6 (updZ ((u2 R 5 (updZ (R 5) ((R 4 0).toNat) y)) 6) ((R 4 0).toNat) z)) 7 (updZ ((u2 (u2 R 5 (updZ (R 5) ((R 4 0).toNat) y)) 6 (updZ ((u2 R 5 (updZ (R 5) ((R 4 0).toNat) y)) 6) ((R 4 0).toNat) z)) 7) ((R 4 0).toNat) q))) (f2 := flR (u2 (u2 (u2 (u2 R 5 (updZ (R 5) ((R 4 0).toNat) y)) 6 (updZ ((u2 R 5 (updZ (R 5) ((R 4 0).toNat) y)) 6) ((R 4 0).toNat) z)) 7 (updZ ((u2 (u2 R 5 (updZ (R 5) ((R 4 0).toNat) y)) 6 (updZ ((u2 R 5 (updZ (R 5) ((R 4 0).toNat) y)) 6) ((R 4 0).toNat) z)) 7) ((R 4 0).toNat) q)) 8 (updZ ((u2 (u2 (u2 R 5 (updZ (R 5) ((R 4 0).toNat) y)) 6 (updZ ((u2 R 5 (updZ (R 5) ((R 4 0).toNat) y)) 6) ((R 4 0).toNat) z)) 7 (updZ ((u2 (u2 R 5 (updZ (R 5) ((R 4 0).toNat) y)) 6 (updZ ((u2 R 5 (updZ (R 5) ((R 4 0).toNat) y)) 6) ((R 4 0).toNat) z)) 7) ((R 4 0).toNat) q)) 8) ((R 4 0).toNat) 0))) rfl (55 + ((R 4 0).toNat)) (by omega) (by omega) (by decide) (fu_8 (by omega) (by omega)) dX10_goDie_36 (wo := flW fa (u2 (u2 (u2 (u2 R 5 (updZ (R 5) ((R 4 0).toNat) y)) 6 (updZ ((u2 R 5 (updZ (R 5) ((R 4 0).toNat) y)) 6) ((R 4 0).toNat) z)) 7 (updZ ((u2 (u2 R 5 (updZ (R 5) ((R 4 0).toNat) y)) 6 (updZ ((u2 R 5 (updZ (R 5) ((R 4 0).toNat) y)) 6) ((R 4 0).toNat) z)) 7) ((R 4 0).toNat) q)) 8 (updZ ((u2 (u2 (u2 R 5 (updZ (R 5) ((R 4 0).toNat) y)) 6 (updZ ((u2 R 5 (updZ (R 5) ((R 4 0).toNat) y)) 6) ((R 4 0).toNat) z)) 7 (updZ ((u2 (u2 R 5 (updZ (R 5) ((R 4 0).toNat) y)) 6 (updZ ((u2 R 5 (updZ (R 5) ((R 4 0).toNat) y)) 6) ((R 4 0).toNat) z)) 7) ((R 4 0).toNat) q)) 8) ((R 4 0).toNat) 0)) τ) rfl (fun H locs hP hD hS => ?_)
  refine lv_aload_n hx hb dX10_goDie_37 rfl (lv_at hl 1 rfl) ?_
  refine lv_iconst (v := iI 1) hx hb dX10_goDie_38 (by decide) ?_
  refine lv_dup2_11 hx hb dX10_goDie_39 rfl rfl ?_
  refine zf_ald hx hb hK hP 0 (f := flR (u2 (u2 (u2 (u2 R 5 (updZ (R 5) ((R 4 0).toNat) y)) 6 (updZ ((u2 R 5 (updZ (R 5) ((R 4 0).toNat) y)) 6) ((R 4 0).toNat) z)) 7 (updZ ((u2 (u2 R 5 (updZ (R 5) ((R 4 0).toNat) y)) 6 (updZ ((u2 R 5 (updZ (R 5) ((R 4 0).toNat) y)) 6) ((R 4 0).toNat) z)) 7) ((R 4 0).toNat) q)) 8 (updZ ((u2 (u2 (u2 R 5 (updZ (R 5) ((R 4 0).toNat) y)) 6 (updZ ((u2 R 5 (updZ (R 5) ((R 4 0).toNat) y)) 6) ((R 4 0).toNat) z)) 7 (updZ ((u2 (u2 R 5 (updZ (R 5) ((R 4 0).toNat) y)) 6 (updZ ((u2 R 5 (updZ (R 5) ((R 4 0).toNat) y)) 6) ((R 4 0).toNat) z)) 7) ((R 4 0).toNat) q)) 8) ((R 4 0).toNat) 0))) rfl (1) (rfl) (by omega) (by decide) (z := (u2 (u2 (u2 (u2 R 5 (updZ (R 5) ((R 4 0).toNat) y)) 6 (updZ ((u2 R 5 (updZ (R 5) ((R 4 0).toNat) y)) 6) ((R 4 0).toNat) z)) 7 (updZ ((u2 (u2 R 5 (updZ (R 5) ((R 4 0).toNat) y)) 6 (updZ ((u2 R 5 (updZ (R 5) ((R 4 0).toNat) y)) 6) ((R 4 0).toNat) z)) 7) ((R 4 0).toNat) q)) 8 (updZ ((u2 (u2 (u2 R 5 (updZ (R 5) ((R 4 0).toNat) y)) 6 (updZ ((u2 R 5 (updZ (R 5) ((R 4 0).toNat) y)) 6) ((R 4 0).toNat) z)) 7 (updZ ((u2 (u2 R 5 (updZ (R 5) ((R 4 0).toNat) y)) 6 (updZ ((u2 R 5 (updZ (R 5) ((R 4 0).toNat) y)) 6) ((R 4 0).toNat) z)) 7) ((R 4 0).toNat) q)) 8) ((R 4 0).toNat) 0)) 4 0) (fl_4) dX10_goDie_40 ?_
  refine lv_iconst (v := iI 1) hx hb dX10_goDie_41 (by decide) ?_
  refine zi_add hx hb dX10_goDie_42 ?_
  refine zf_ast hx hb hK hP hD hS 0 (f := flR (u2 (u2 (u2 (u2 R 5 (updZ (R 5) ((R 4 0).toNat) y)) 6 (updZ ((u2 R 5 (updZ (R 5) ((R 4 0).toNat) y)) 6) ((R 4 0).toNat) z)) 7 (updZ ((u2 (u2 R 5 (updZ (R 5) ((R 4 0).toNat) y)) 6 (updZ ((u2 R 5 (updZ (R 5) ((R 4 0).toNat) y)) 6) ((R 4 0).toNat) z)) 7) ((R 4 0).toNat) q)) 8 (updZ ((u2 (u2 (u2 R 5 (updZ (R 5) ((R 4 0).toNat) y)) 6 (updZ ((u2 R 5 (updZ (R 5) ((R 4 0).toNat) y)) 6) ((R 4 0).toNat) z)) 7 (updZ ((u2 (u2 R 5 (updZ (R 5) ((R 4 0).toNat) y)) 6 (updZ ((u2 R 5 (updZ (R 5) ((R 4 0).toNat) y)) 6) ((R 4 0).toNat) z)) 7) ((R 4 0).toNat) q)) 8) ((R 4 0).toNat) 0))) (f2 := flR (u2 (u2 (u2 (u2 (u2 R 5 (updZ (R 5) ((R 4 0).toNat) y)) 6 (updZ ((u2 R 5 (updZ (R 5) ((R 4 0).toNat) y)) 6) ((R 4 0).toNat) z)) 7 (updZ ((u2 (u2 R 5 (updZ (R 5) ((R 4 0).toNat) y)) 6 (updZ ((u2 R 5 (updZ (R 5) ((R 4 0).toNat) y)) 6) ((R 4 0).toNat) z)) 7) ((R 4 0).toNat) q)) 8 (updZ ((u2 (u2 (u2 R 5 (updZ (R 5) ((R 4 0).toNat) y)) 6 (updZ ((u2 R 5 (updZ (R 5) ((R 4 0).toNat) y)) 6) ((R 4 0).toNat) z)) 7 (updZ ((u2 (u2 R 5 (updZ (R 5) ((R 4 0).toNat) y)) 6 (updZ ((u2 R 5 (updZ (R 5) ((R 4 0).toNat) y)) 6) ((R 4 0).toNat) z)) 7) ((R 4 0).toNat) q)) 8) ((R 4 0).toNat) 0)) 4 (fun _ => ((u2 (u2 (u2 (u2 R 5 (updZ (R 5) ((R 4 0).toNat) y)) 6 (updZ ((u2 R 5 (updZ (R 5) ((R 4 0).toNat) y)) 6) ((R 4 0).toNat) z)) 7 (updZ ((u2 (u2 R 5 (updZ (R 5) ((R 4 0).toNat) y)) 6 (updZ ((u2 R 5 (updZ (R 5) ((R 4 0).toNat) y)) 6) ((R 4 0).toNat) z)) 7) ((R 4 0).toNat) q)) 8 (updZ ((u2 (u2 (u2 R 5 (updZ (R 5) ((R 4 0).toNat) y)) 6 (updZ ((u2 R 5 (updZ (R 5) ((R 4 0).toNat) y)) 6) ((R 4 0).toNat) z)) 7 (updZ ((u2 (u2 R 5 (updZ (R 5) ((R 4 0).toNat) y)) 6 (updZ ((u2 R 5 (updZ (R 5) ((R 4 0).toNat) y)) 6) ((R 4 0).toNat) z)) 7) ((R 4 0).toNat) q)) 8) ((R 4 0).toNat) 0)) 4 0) + 1))) rfl (1) (rfl) (by omega) (by decide) (fu_4) dX10_goDie_43 (wo := flW fa (u2 (u2 (u2 (u2 (u2 R 5 (updZ (R 5) ((R 4 0).toNat) y)) 6 (updZ ((u2 R 5 (updZ (R 5) ((R 4 0).toNat) y)) 6) ((R 4 0).toNat) z)) 7 (updZ ((u2 (u2 R 5 (updZ (R 5) ((R 4 0).toNat) y)) 6 (updZ ((u2 R 5 (updZ (R 5) ((R 4 0).toNat) y)) 6) ((R 4 0).toNat) z)) 7) ((R 4 0).toNat) q)) 8 (updZ ((u2 (u2 (u2 R 5 (updZ (R 5) ((R 4 0).toNat) y)) 6 (updZ ((u2 R 5 (updZ (R 5) ((R 4 0).toNat) y)) 6) ((R 4 0).toNat) z)) 7 (updZ ((u2 (u2 R 5 (updZ (R 5) ((R 4 0).toNat) y)) 6 (updZ ((u2 R 5 (updZ (R 5) ((R 4 0).toNat) y)) 6) ((R 4 0).toNat) z)) 7) ((R 4 0).toNat) q)) 8) ((R 4 0).toNat) 0)) 4 (fun _ => ((u2 (u2 (u2 (u2 R 5 (updZ (R 5) ((R 4 0).toNat) y)) 6 (updZ ((u2 R 5 (updZ (R 5) ((R 4 0).toNat) y)) 6) ((R 4 0).toNat) z)) 7 (updZ ((u2 (u2 R 5 (updZ (R 5) ((R 4 0).toNat) y)) 6 (updZ ((u2 R 5 (updZ (R 5) ((R 4 0).toNat) y)) 6) ((R 4 0).toNat) z)) 7) ((R 4 0).toNat) q)) 8 (updZ ((u2 (u2 (u2 R 5 (updZ (R 5) ((R 4 0).toNat) y)) 6 (updZ ((u2 R 5 (updZ (R 5) ((R 4 0).toNat) y)) 6) ((R 4 0).toNat) z)) 7 (updZ ((u2 (u2 R 5 (updZ (R 5) ((R 4 0).toNat) y)) 6 (updZ ((u2 R 5 (updZ (R 5) ((R 4 0).toNat) y)) 6) ((R 4 0).toNat) z)) 7) ((R 4 0).toNat) q)) 8) ((R 4 0).toNat) 0)) 4 0) + 1)) τ) rfl (fun H locs hP hD hS => ?_)
  refine lv_iload hx hb dX10_goDie_44 (lv_at hl 0 rfl) ?_
  exact rw_iret hx hb hr hlocks hP hS (⟨by rw [show (((R 4 0).toNat : Nat) : Int) = R 4 0 from by omega], rfl⟩) dX10_goDie_46

theorem cd_X10_goSeal : cd yX10_goSeal 6 := by decide +kernel
set_option maxHeartbeats 1000000 in
set_option maxRecDepth 100000 in
theorem c_X10_goSeal (l : Launch) (g : va_G) (τ : Nat → ClassId) (fa : Nat) (R : Nat → Nat → Int) (hI : SI R) (y : Int) (ry : -2147483648 ≤ y ∧ y < 2147483648) (z : Int) (rz : -2147483648 ≤ z ∧ z < 2147483648) (q : Int) (rq : -2147483648 ≤ q ∧ q < 2147483648) (x : Int) (rx : -2147483648 ≤ x ∧ x < 2147483648) (b : Int) (rb : -2147483648 ≤ b ∧ b < 2147483648) (hm : R 10 0 < 24)  : Met l yX10_goSeal wsX10_goSeal { frames := 0, cells := 0, slots := 0, locals := 0 } (va_Pc [Value.ref fa, Value.int (iI y), Value.int (iI z), Value.int (iI q), Value.int (iI x), Value.int (iI b)] (rwW g τ (flW fa R τ))) (rwQ g (fun v w => v = some (Value.int (iI (R 10 0))) ∧ w = flW fa (u2 (u2 (u2 (u2 (u2 (u2 (u2 R 11 (updZ (R 11) (R 10 0).toNat y)) 12 (updZ (R 12) (R 10 0).toNat z)) 13 (updZ (R 13) (R 10 0).toNat q)) 14 (updZ (R 14) (R 10 0).toNat x)) 15 (updZ (R 15) (R 10 0).toNat b)) 16 (updZ (R 16) (R 10 0).toNat (-1))) 10 (fun _ => R 10 0 + 1)) τ) (inW (flW fa R τ))) 0 0 (inW (flW fa R τ)) := by
  have hB := hI.hB
  have hr0 := hI.r
  have hd0 := hI.d
  have hs0 := hI.s
  refine rwMet (cc := cX10_goSeal) (maxL := 7) (ret := (some .int)) (lv := [(0, Value.ref fa), (1, Value.int (iI y)), (2, Value.int (iI z)), (3, Value.int (iI q)), (4, Value.int (iI x)), (5, Value.int (iI b))]) (by decide) rfl (Nat.le_of_ble_eq_true rfl) rfl ?_
  intro p e s m below meth c hx hb hr hml hts hown hlocks A H hP hD hS hK ls hl
  refine lv_aload_n hx hb dX10_goSeal_0 rfl (lv_at hl 0 rfl) ?_
  refine lv_iconst (v := iI 2) hx hb dX10_goSeal_1 (by decide) ?_
  refine zf_ald hx hb hK hP 0 (f := flR R) rfl (2) (rfl) (by omega) (by decide) (z := R 10 0) (fl_10) dX10_goSeal_2 ?_
  have hb_1 := hB 10 0
  refine cv_i (y := iI (((R 10 0).toNat : Nat) : Int)) (congrArg iI (by omega)) ?_
  refine lv_istore (lv' := [(6, Value.int (iI (((R 10 0).toNat : Nat) : Int))), (0, Value.ref fa), (1, Value.int (iI y)), (2, Value.int (iI z)), (3, Value.int (iI q)), (4, Value.int (iI x)), (5, Value.int (iI b))]) hx hb dX10_goSeal_3 hl (by decide) rfl (fun ls hl => ?_)
  refine lv_aload_n hx hb dX10_goSeal_5 rfl (lv_at hl 1 rfl) ?_
  refine lv_bipush (v := iI 105) hx hb dX10_goSeal_6 (by decide) ?_
  refine lv_iload hx hb dX10_goSeal_8 (lv_at hl 0 rfl) ?_
  refine zi_add hx hb dX10_goSeal_10 ?_
  refine lv_iload_n hx hb dX10_goSeal_11 rfl (lv_at hl 2 rfl) ?_
  refine zf_ast hx hb hK hP hD hS 0 (f := flR R) (f2 := flR (u2 R 11 (updZ (R 11) ((R 10 0).toNat) y))) rfl (105 + ((R 10 0).toNat)) (by omega) (by omega) (by decide) (fu_11 (by omega) (by omega)) dX10_goSeal_12 (wo := flW fa (u2 R 11 (updZ (R 11) ((R 10 0).toNat) y)) τ) rfl (fun H locs hP hD hS => ?_)
  refine lv_aload_n hx hb dX10_goSeal_13 rfl (lv_at hl 1 rfl) ?_
  refine lv_sipush (v := iI 129) hx hb dX10_goSeal_14 (by decide) ?_
  refine lv_iload hx hb dX10_goSeal_17 (lv_at hl 0 rfl) ?_
  refine zi_add hx hb dX10_goSeal_19 ?_
  refine lv_iload_n hx hb dX10_goSeal_20 rfl (lv_at hl 3 rfl) ?_
  refine zf_ast hx hb hK hP hD hS 0 (f := flR (u2 R 11 (updZ (R 11) ((R 10 0).toNat) y))) (f2 := flR (u2 (u2 R 11 (updZ (R 11) ((R 10 0).toNat) y)) 12 (updZ ((u2 R 11 (updZ (R 11) ((R 10 0).toNat) y)) 12) ((R 10 0).toNat) z))) rfl (129 + ((R 10 0).toNat)) (by omega) (by omega) (by decide) (fu_12 (by omega) (by omega)) dX10_goSeal_21 (wo := flW fa (u2 (u2 R 11 (updZ (R 11) ((R 10 0).toNat) y)) 12 (updZ ((u2 R 11 (updZ (R 11) ((R 10 0).toNat) y)) 12) ((R 10 0).toNat) z)) τ) rfl (fun H locs hP hD hS => ?_)
  refine lv_aload_n hx hb dX10_goSeal_22 rfl (lv_at hl 1 rfl) ?_
  refine lv_sipush (v := iI 153) hx hb dX10_goSeal_23 (by decide) ?_
  refine lv_iload hx hb dX10_goSeal_26 (lv_at hl 0 rfl) ?_
  refine zi_add hx hb dX10_goSeal_28 ?_
  refine lv_iload_n hx hb dX10_goSeal_29 rfl (lv_at hl 4 rfl) ?_
  refine zf_ast hx hb hK hP hD hS 0 (f := flR (u2 (u2 R 11 (updZ (R 11) ((R 10 0).toNat) y)) 12 (updZ ((u2 R 11 (updZ (R 11) ((R 10 0).toNat) y)) 12) ((R 10 0).toNat) z))) (f2 := flR (u2 (u2 (u2 R 11 (updZ (R 11) ((R 10 0).toNat) y)) 12 (updZ ((u2 R 11 (updZ (R 11) ((R 10 0).toNat) y)) 12) ((R 10 0).toNat) z)) 13 (updZ ((u2 (u2 R 11 (updZ (R 11) ((R 10 0).toNat) y)) 12 (updZ ((u2 R 11 (updZ (R 11) ((R 10 0).toNat) y)) 12) ((R 10 0).toNat) z)) 13) ((R 10 0).toNat) q))) rfl (153 + ((R 10 0).toNat)) (by omega) (by omega) (by decide) (fu_13 (by omega) (by omega)) dX10_goSeal_30 (wo := flW fa (u2 (u2 (u2 R 11 (updZ (R 11) ((R 10 0).toNat) y)) 12 (updZ ((u2 R 11 (updZ (R 11) ((R 10 0).toNat) y)) 12) ((R 10 0).toNat) z)) 13 (updZ ((u2 (u2 R 11 (updZ (R 11) ((R 10 0).toNat) y)) 12 (updZ ((u2 R 11 (updZ (R 11) ((R 10 0).toNat) y)) 12) ((R 10 0).toNat) z)) 13) ((R 10 0).toNat) q)) τ) rfl (fun H locs hP hD hS => ?_)
  refine lv_aload_n hx hb dX10_goSeal_31 rfl (lv_at hl 1 rfl) ?_
  refine lv_sipush (v := iI 177) hx hb dX10_goSeal_32 (by decide) ?_
  refine lv_iload hx hb dX10_goSeal_35 (lv_at hl 0 rfl) ?_
  refine zi_add hx hb dX10_goSeal_37 ?_
  refine lv_iload hx hb dX10_goSeal_38 (lv_at hl 5 rfl) ?_
  refine zf_ast hx hb hK hP hD hS 0 (f := flR (u2 (u2 (u2 R 11 (updZ (R 11) ((R 10 0).toNat) y)) 12 (updZ ((u2 R 11 (updZ (R 11) ((R 10 0).toNat) y)) 12) ((R 10 0).toNat) z)) 13 (updZ ((u2 (u2 R 11 (updZ (R 11) ((R 10 0).toNat) y)) 12 (updZ ((u2 R 11 (updZ (R 11) ((R 10 0).toNat) y)) 12) ((R 10 0).toNat) z)) 13) ((R 10 0).toNat) q))) (f2 := flR (u2 (u2 (u2 (u2 R 11 (updZ (R 11) ((R 10 0).toNat) y)) 12 (updZ ((u2 R 11 (updZ (R 11) ((R 10 0).toNat) y)) 12) ((R 10 0).toNat) z)) 13 (updZ ((u2 (u2 R 11 (updZ (R 11) ((R 10 0).toNat) y)) 12 (updZ ((u2 R 11 (updZ (R 11) ((R 10 0).toNat) y)) 12) ((R 10 0).toNat) z)) 13) ((R 10 0).toNat) q)) 14 (updZ ((u2 (u2 (u2 R 11 (updZ (R 11) ((R 10 0).toNat) y)) 12 (updZ ((u2 R 11 (updZ (R 11) ((R 10 0).toNat) y)) 12) ((R 10 0).toNat) z)) 13 (updZ ((u2 (u2 R 11 (updZ (R 11) ((R 10 0).toNat) y)) 12 (updZ ((u2 R 11 (updZ (R 11) ((R 10 0).toNat) y)) 12) ((R 10 0).toNat) z)) 13) ((R 10 0).toNat) q)) 14) ((R 10 0).toNat) x))) rfl (177 + ((R 10 0).toNat)) (by omega) (by omega) (by decide) (fu_14 (by omega) (by omega)) dX10_goSeal_40 (wo := flW fa (u2 (u2 (u2 (u2 R 11 (updZ (R 11) ((R 10 0).toNat) y)) 12 (updZ ((u2 R 11 (updZ (R 11) ((R 10 0).toNat) y)) 12) ((R 10 0).toNat) z)) 13 (updZ ((u2 (u2 R 11 (updZ (R 11) ((R 10 0).toNat) y)) 12 (updZ ((u2 R 11 (updZ (R 11) ((R 10 0).toNat) y)) 12) ((R 10 0).toNat) z)) 13) ((R 10 0).toNat) q)) 14 (updZ ((u2 (u2 (u2 R 11 (updZ (R 11) ((R 10 0).toNat) y)) 12 (updZ ((u2 R 11 (updZ (R 11) ((R 10 0).toNat) y)) 12) ((R 10 0).toNat) z)) 13 (updZ ((u2 (u2 R 11 (updZ (R 11) ((R 10 0).toNat) y)) 12 (updZ ((u2 R 11 (updZ (R 11) ((R 10 0).toNat) y)) 12) ((R 10 0).toNat) z)) 13) ((R 10 0).toNat) q)) 14) ((R 10 0).toNat) x)) τ) rfl (fun H locs hP hD hS => ?_)
  refine lv_aload_n hx hb dX10_goSeal_41 rfl (lv_at hl 1 rfl) ?_
  refine lv_sipush (v := iI 201) hx hb dX10_goSeal_42 (by decide) ?_
  refine lv_iload hx hb dX10_goSeal_45 (lv_at hl 0 rfl) ?_
  refine zi_add hx hb dX10_goSeal_47 ?_
  refine lv_iload hx hb dX10_goSeal_48 (lv_at hl 6 rfl) ?_
  refine zf_ast hx hb hK hP hD hS 0 (f := flR (u2 (u2 (u2 (u2 R 11 (updZ (R 11) ((R 10 0).toNat) y)) 12 (updZ ((u2 R 11 (updZ (R 11) ((R 10 0).toNat) y)) 12) ((R 10 0).toNat) z)) 13 (updZ ((u2 (u2 R 11 (updZ (R 11) ((R 10 0).toNat) y)) 12 (updZ ((u2 R 11 (updZ (R 11) ((R 10 0).toNat) y)) 12) ((R 10 0).toNat) z)) 13) ((R 10 0).toNat) q)) 14 (updZ ((u2 (u2 (u2 R 11 (updZ (R 11) ((R 10 0).toNat) y)) 12 (updZ ((u2 R 11 (updZ (R 11) ((R 10 0).toNat) y)) 12) ((R 10 0).toNat) z)) 13 (updZ ((u2 (u2 R 11 (updZ (R 11) ((R 10 0).toNat) y)) 12 (updZ ((u2 R 11 (updZ (R 11) ((R 10 0).toNat) y)) 12) ((R 10 0).toNat) z)) 13) ((R 10 0).toNat) q)) 14) ((R 10 0).toNat) x))) (f2 := flR (u2 (u2 (u2 (u2 (u2 R 11 (updZ (R 11) ((R 10 0).toNat) y)) 12 (updZ ((u2 R 11 (updZ (R 11) ((R 10 0).toNat) y)) 12) ((R 10 0).toNat) z)) 13 (updZ ((u2 (u2 R 11 (updZ (R 11) ((R 10 0).toNat) y)) 12 (updZ ((u2 R 11 (updZ (R 11) ((R 10 0).toNat) y)) 12) ((R 10 0).toNat) z)) 13) ((R 10 0).toNat) q)) 14 (updZ ((u2 (u2 (u2 R 11 (updZ (R 11) ((R 10 0).toNat) y)) 12 (updZ ((u2 R 11 (updZ (R 11) ((R 10 0).toNat) y)) 12) ((R 10 0).toNat) z)) 13 (updZ ((u2 (u2 R 11 (updZ (R 11) ((R 10 0).toNat) y)) 12 (updZ ((u2 R 11 (updZ (R 11) ((R 10 0).toNat) y)) 12) ((R 10 0).toNat) z)) 13) ((R 10 0).toNat) q)) 14) ((R 10 0).toNat) x)) 15 (updZ ((u2 (u2 (u2 (u2 R 11 (updZ (R 11) ((R 10 0).toNat) y)) 12 (updZ ((u2 R 11 (updZ (R 11) ((R 10 0).toNat) y)) 12) ((R 10 0).toNat) z)) 13 (updZ ((u2 (u2 R 11 (updZ (R 11) ((R 10 0).toNat) y)) 12 (updZ ((u2 R 11 (updZ (R 11) ((R 10 0).toNat) y)) 12) ((R 10 0).toNat) z)) 13) ((R 10 0).toNat) q)) 14 (updZ ((u2 (u2 (u2 R 11 (updZ (R 11) ((R 10 0).toNat) y)) 12 (updZ ((u2 R 11 (updZ (R 11) ((R 10 0).toNat) y)) 12) ((R 10 0).toNat) z)) 13 (updZ ((u2 (u2 R 11 (updZ (R 11) ((R 10 0).toNat) y)) 12 (updZ ((u2 R 11 (updZ (R 11) ((R 10 0).toNat) y)) 12) ((R 10 0).toNat) z)) 13) ((R 10 0).toNat) q)) 14) ((R 10 0).toNat) x)) 15) ((R 10 0).toNat) b))) rfl (201 + ((R 10 0).toNat)) (by omega) (by omega) (by decide) (fu_15 (by omega) (by omega)) dX10_goSeal_50 (wo := flW fa (u2 (u2 (u2 (u2 (u2 R 11 (updZ (R 11) ((R 10 0).toNat) y)) 12 (updZ ((u2 R 11 (updZ (R 11) ((R 10 0).toNat) y)) 12) ((R 10 0).toNat) z)) 13 (updZ ((u2 (u2 R 11 (updZ (R 11) ((R 10 0).toNat) y)) 12 (updZ ((u2 R 11 (updZ (R 11) ((R 10 0).toNat) y)) 12) ((R 10 0).toNat) z)) 13) ((R 10 0).toNat) q)) 14 (updZ ((u2 (u2 (u2 R 11 (updZ (R 11) ((R 10 0).toNat) y)) 12 (updZ ((u2 R 11 (updZ (R 11) ((R 10 0).toNat) y)) 12) ((R 10 0).toNat) z)) 13 (updZ ((u2 (u2 R 11 (updZ (R 11) ((R 10 0).toNat) y)) 12 (updZ ((u2 R 11 (updZ (R 11) ((R 10 0).toNat) y)) 12) ((R 10 0).toNat) z)) 13) ((R 10 0).toNat) q)) 14) ((R 10 0).toNat) x)) 15 (updZ ((u2 (u2 (u2 (u2 R 11 (updZ (R 11) ((R 10 0).toNat) y)) 12 (updZ ((u2 R 11 (updZ (R 11) ((R 10 0).toNat) y)) 12) ((R 10 0).toNat) z)) 13 (updZ ((u2 (u2 R 11 (updZ (R 11) ((R 10 0).toNat) y)) 12 (updZ ((u2 R 11 (updZ (R 11) ((R 10 0).toNat) y)) 12) ((R 10 0).toNat) z)) 13) ((R 10 0).toNat) q)) 14 (updZ ((u2 (u2 (u2 R 11 (updZ (R 11) ((R 10 0).toNat) y)) 12 (updZ ((u2 R 11 (updZ (R 11) ((R 10 0).toNat) y)) 12) ((R 10 0).toNat) z)) 13 (updZ ((u2 (u2 R 11 (updZ (R 11) ((R 10 0).toNat) y)) 12 (updZ ((u2 R 11 (updZ (R 11) ((R 10 0).toNat) y)) 12) ((R 10 0).toNat) z)) 13) ((R 10 0).toNat) q)) 14) ((R 10 0).toNat) x)) 15) ((R 10 0).toNat) b)) τ) rfl (fun H locs hP hD hS => ?_)
  refine lv_aload_n hx hb dX10_goSeal_51 rfl (lv_at hl 1 rfl) ?_
  refine lv_sipush (v := iI 225) hx hb dX10_goSeal_52 (by decide) ?_
  refine lv_iload hx hb dX10_goSeal_55 (lv_at hl 0 rfl) ?_
  refine zi_add hx hb dX10_goSeal_57 ?_
  refine lv_iconst (v := iI (-1)) hx hb dX10_goSeal_58 (by decide) ?_
  refine zf_ast hx hb hK hP hD hS 0 (f := flR (u2 (u2 (u2 (u2 (u2 R 11 (updZ (R 11) ((R 10 0).toNat) y)) 12 (updZ ((u2 R 11 (updZ (R 11) ((R 10 0).toNat) y)) 12) ((R 10 0).toNat) z)) 13 (updZ ((u2 (u2 R 11 (updZ (R 11) ((R 10 0).toNat) y)) 12 (updZ ((u2 R 11 (updZ (R 11) ((R 10 0).toNat) y)) 12) ((R 10 0).toNat) z)) 13) ((R 10 0).toNat) q)) 14 (updZ ((u2 (u2 (u2 R 11 (updZ (R 11) ((R 10 0).toNat) y)) 12 (updZ ((u2 R 11 (updZ (R 11) ((R 10 0).toNat) y)) 12) ((R 10 0).toNat) z)) 13 (updZ ((u2 (u2 R 11 (updZ (R 11) ((R 10 0).toNat) y)) 12 (updZ ((u2 R 11 (updZ (R 11) ((R 10 0).toNat) y)) 12) ((R 10 0).toNat) z)) 13) ((R 10 0).toNat) q)) 14) ((R 10 0).toNat) x)) 15 (updZ ((u2 (u2 (u2 (u2 R 11 (updZ (R 11) ((R 10 0).toNat) y)) 12 (updZ ((u2 R 11 (updZ (R 11) ((R 10 0).toNat) y)) 12) ((R 10 0).toNat) z)) 13 (updZ ((u2 (u2 R 11 (updZ (R 11) ((R 10 0).toNat) y)) 12 (updZ ((u2 R 11 (updZ (R 11) ((R 10 0).toNat) y)) 12) ((R 10 0).toNat) z)) 13) ((R 10 0).toNat) q)) 14 (updZ ((u2 (u2 (u2 R 11 (updZ (R 11) ((R 10 0).toNat) y)) 12 (updZ ((u2 R 11 (updZ (R 11) ((R 10 0).toNat) y)) 12) ((R 10 0).toNat) z)) 13 (updZ ((u2 (u2 R 11 (updZ (R 11) ((R 10 0).toNat) y)) 12 (updZ ((u2 R 11 (updZ (R 11) ((R 10 0).toNat) y)) 12) ((R 10 0).toNat) z)) 13) ((R 10 0).toNat) q)) 14) ((R 10 0).toNat) x)) 15) ((R 10 0).toNat) b))) (f2 := flR (u2 (u2 (u2 (u2 (u2 (u2 R 11 (updZ (R 11) ((R 10 0).toNat) y)) 12 (updZ ((u2 R 11 (updZ (R 11) ((R 10 0).toNat) y)) 12) ((R 10 0).toNat) z)) 13 (updZ ((u2 (u2 R 11 (updZ (R 11) ((R 10 0).toNat) y)) 12 (updZ ((u2 R 11 (updZ (R 11) ((R 10 0).toNat) y)) 12) ((R 10 0).toNat) z)) 13) ((R 10 0).toNat) q)) 14 (updZ ((u2 (u2 (u2 R 11 (updZ (R 11) ((R 10 0).toNat) y)) 12 (updZ ((u2 R 11 (updZ (R 11) ((R 10 0).toNat) y)) 12) ((R 10 0).toNat) z)) 13 (updZ ((u2 (u2 R 11 (updZ (R 11) ((R 10 0).toNat) y)) 12 (updZ ((u2 R 11 (updZ (R 11) ((R 10 0).toNat) y)) 12) ((R 10 0).toNat) z)) 13) ((R 10 0).toNat) q)) 14) ((R 10 0).toNat) x)) 15 (updZ ((u2 (u2 (u2 (u2 R 11 (updZ (R 11) ((R 10 0).toNat) y)) 12 (updZ ((u2 R 11 (updZ (R 11) ((R 10 0).toNat) y)) 12) ((R 10 0).toNat) z)) 13 (updZ ((u2 (u2 R 11 (updZ (R 11) ((R 10 0).toNat) y)) 12 (updZ ((u2 R 11 (updZ (R 11) ((R 10 0).toNat) y)) 12) ((R 10 0).toNat) z)) 13) ((R 10 0).toNat) q)) 14 (updZ ((u2 (u2 (u2 R 11 (updZ (R 11) ((R 10 0).toNat) y)) 12 (updZ ((u2 R 11 (updZ (R 11) ((R 10 0).toNat) y)) 12) ((R 10 0).toNat) z)) 13 (updZ ((u2 (u2 R 11 (updZ (R 11) ((R 10 0).toNat) y)) 12 (updZ ((u2 R 11 (updZ (R 11) ((R 10 0).toNat) y)) 12) ((R 10 0).toNat) z)) 13) ((R 10 0).toNat) q)) 14) ((R 10 0).toNat) x)) 15) ((R 10 0).toNat) b)) 16 (updZ ((u2 (u2 (u2 (u2 (u2 R 11 (updZ (R 11) ((R 10 0).toNat) y)) 12 (updZ ((u2 R 11 (updZ (R 11) ((R 10 0).toNat) y)) 12) ((R 10 0).toNat) z)) 13 (updZ ((u2 (u2 R 11 (updZ (R 11) ((R 10 0).toNat) y)) 12 (updZ ((u2 R 11 (updZ (R 11) ((R 10 0).toNat) y)) 12) ((R 10 0).toNat) z)) 13) ((R 10 0).toNat) q)) 14 (updZ ((u2 (u2 (u2 R 11 (updZ (R 11) ((R 10 0).toNat) y)) 12 (updZ ((u2 R 11 (updZ (R 11) ((R 10 0).toNat) y)) 12) ((R 10 0).toNat) z)) 13 (updZ ((u2 (u2 R 11 (updZ (R 11) ((R 10 0).toNat) y)) 12 (updZ ((u2 R 11 (updZ (R 11) ((R 10 0).toNat) y)) 12) ((R 10 0).toNat) z)) 13) ((R 10 0).toNat) q)) 14) ((R 10 0).toNat) x)) 15 (updZ ((u2 (u2 (u2 (u2 R 11 (updZ (R 11) ((R 10 0).toNat) y)) 12 (updZ ((u2 R 11 (updZ (R 11) ((R 10 0).toNat) y)) 12) ((R 10 0).toNat) z)) 13 (updZ ((u2 (u2 R 11 (updZ (R 11) ((R 10 0).toNat) y)) 12 (updZ ((u2 R 11 (updZ (R 11) ((R 10 0).toNat) y)) 12) ((R 10 0).toNat) z)) 13) ((R 10 0).toNat) q)) 14 (updZ ((u2 (u2 (u2 R 11 (updZ (R 11) ((R 10 0).toNat) y)) 12 (updZ ((u2 R 11 (updZ (R 11) ((R 10 0).toNat) y)) 12) ((R 10 0).toNat) z)) 13 (updZ ((u2 (u2 R 11 (updZ (R 11) ((R 10 0).toNat) y)) 12 (updZ ((u2 R 11 (updZ (R 11) ((R 10 0).toNat) y)) 12) ((R 10 0).toNat) z)) 13) ((R 10 0).toNat) q)) 14) ((R 10 0).toNat) x)) 15) ((R 10 0).toNat) b)) 16) ((R 10 0).toNat) (-1)))) rfl (225 + ((R 10 0).toNat)) (by omega) (by omega) (by decide) (fu_16 (by omega) (by omega)) dX10_goSeal_59 (wo := flW fa (u2 (u2 (u2 (u2 (u2 (u2 R 11 (updZ (R 11) ((R 10 0).toNat) y)) 12 (updZ ((u2 R 11 (updZ (R 11) ((R 10 0).toNat) y)) 12) ((R 10 0).toNat) z)) 13 (updZ ((u2 (u2 R 11 (updZ (R 11) ((R 10 0).toNat) y)) 12 (updZ ((u2 R 11 (updZ (R 11) ((R 10 0).toNat) y)) 12) ((R 10 0).toNat) z)) 13) ((R 10 0).toNat) q)) 14 (updZ ((u2 (u2 (u2 R 11 (updZ (R 11) ((R 10 0).toNat) y)) 12 (updZ ((u2 R 11 (updZ (R 11) ((R 10 0).toNat) y)) 12) ((R 10 0).toNat) z)) 13 (updZ ((u2 (u2 R 11 (updZ (R 11) ((R 10 0).toNat) y)) 12 (updZ ((u2 R 11 (updZ (R 11) ((R 10 0).toNat) y)) 12) ((R 10 0).toNat) z)) 13) ((R 10 0).toNat) q)) 14) ((R 10 0).toNat) x)) 15 (updZ ((u2 (u2 (u2 (u2 R 11 (updZ (R 11) ((R 10 0).toNat) y)) 12 (updZ ((u2 R 11 (updZ (R 11) ((R 10 0).toNat) y)) 12) ((R 10 0).toNat) z)) 13 (updZ ((u2 (u2 R 11 (updZ (R 11) ((R 10 0).toNat) y)) 12 (updZ ((u2 R 11 (updZ (R 11) ((R 10 0).toNat) y)) 12) ((R 10 0).toNat) z)) 13) ((R 10 0).toNat) q)) 14 (updZ ((u2 (u2 (u2 R 11 (updZ (R 11) ((R 10 0).toNat) y)) 12 (updZ ((u2 R 11 (updZ (R 11) ((R 10 0).toNat) y)) 12) ((R 10 0).toNat) z)) 13 (updZ ((u2 (u2 R 11 (updZ (R 11) ((R 10 0).toNat) y)) 12 (updZ ((u2 R 11 (updZ (R 11) ((R 10 0).toNat) y)) 12) ((R 10 0).toNat) z)) 13) ((R 10 0).toNat) q)) 14) ((R 10 0).toNat) x)) 15) ((R 10 0).toNat) b)) 16 (updZ ((u2 (u2 (u2 (u2 (u2 R 11 (updZ (R 11) ((R 10 0).toNat) y)) 12 (updZ ((u2 R 11 (updZ (R 11) ((R 10 0).toNat) y)) 12) ((R 10 0).toNat) z)) 13 (updZ ((u2 (u2 R 11 (updZ (R 11) ((R 10 0).toNat) y)) 12 (updZ ((u2 R 11 (updZ (R 11) ((R 10 0).toNat) y)) 12) ((R 10 0).toNat) z)) 13) ((R 10 0).toNat) q)) 14 (updZ ((u2 (u2 (u2 R 11 (updZ (R 11) ((R 10 0).toNat) y)) 12 (updZ ((u2 R 11 (updZ (R 11) ((R 10 0).toNat) y)) 12) ((R 10 0).toNat) z)) 13 (updZ ((u2 (u2 R 11 (updZ (R 11) ((R 10 0).toNat) y)) 12 (updZ ((u2 R 11 (updZ (R 11) ((R 10 0).toNat) y)) 12) ((R 10 0).toNat) z)) 13) ((R 10 0).toNat) q)) 14) ((R 10 0).toNat) x)) 15 (updZ ((u2 (u2 (u2 (u2 R 11 (updZ (R 11) ((R 10 0).toNat) y)) 12 (updZ ((u2 R 11 (updZ (R 11) ((R 10 0).toNat) y)) 12) ((R 10 0).toNat) z)) 13 (updZ ((u2 (u2 R 11 (updZ (R 11) ((R 10 0).toNat) y)) 12 (updZ ((u2 R 11 (updZ (R 11) ((R 10 0).toNat) y)) 12) ((R 10 0).toNat) z)) 13) ((R 10 0).toNat) q)) 14 (updZ ((u2 (u2 (u2 R 11 (updZ (R 11) ((R 10 0).toNat) y)) 12 (updZ ((u2 R 11 (updZ (R 11) ((R 10 0).toNat) y)) 12) ((R 10 0).toNat) z)) 13 (updZ ((u2 (u2 R 11 (updZ (R 11) ((R 10 0).toNat) y)) 12 (updZ ((u2 R 11 (updZ (R 11) ((R 10 0).toNat) y)) 12) ((R 10 0).toNat) z)) 13) ((R 10 0).toNat) q)) 14) ((R 10 0).toNat) x)) 15) ((R 10 0).toNat) b)) 16) ((R 10 0).toNat) (-1))) τ) rfl (fun H locs hP hD hS => ?_)
  refine lv_aload_n hx hb dX10_goSeal_60 rfl (lv_at hl 1 rfl) ?_
  refine lv_iconst (v := iI 2) hx hb dX10_goSeal_61 (by decide) ?_
  refine lv_dup2_11 hx hb dX10_goSeal_62 rfl rfl ?_
  refine zf_ald hx hb hK hP 0 (f := flR (u2 (u2 (u2 (u2 (u2 (u2 R 11 (updZ (R 11) ((R 10 0).toNat) y)) 12 (updZ ((u2 R 11 (updZ (R 11) ((R 10 0).toNat) y)) 12) ((R 10 0).toNat) z)) 13 (updZ ((u2 (u2 R 11 (updZ (R 11) ((R 10 0).toNat) y)) 12 (updZ ((u2 R 11 (updZ (R 11) ((R 10 0).toNat) y)) 12) ((R 10 0).toNat) z)) 13) ((R 10 0).toNat) q)) 14 (updZ ((u2 (u2 (u2 R 11 (updZ (R 11) ((R 10 0).toNat) y)) 12 (updZ ((u2 R 11 (updZ (R 11) ((R 10 0).toNat) y)) 12) ((R 10 0).toNat) z)) 13 (updZ ((u2 (u2 R 11 (updZ (R 11) ((R 10 0).toNat) y)) 12 (updZ ((u2 R 11 (updZ (R 11) ((R 10 0).toNat) y)) 12) ((R 10 0).toNat) z)) 13) ((R 10 0).toNat) q)) 14) ((R 10 0).toNat) x)) 15 (updZ ((u2 (u2 (u2 (u2 R 11 (updZ (R 11) ((R 10 0).toNat) y)) 12 (updZ ((u2 R 11 (updZ (R 11) ((R 10 0).toNat) y)) 12) ((R 10 0).toNat) z)) 13 (updZ ((u2 (u2 R 11 (updZ (R 11) ((R 10 0).toNat) y)) 12 (updZ ((u2 R 11 (updZ (R 11) ((R 10 0).toNat) y)) 12) ((R 10 0).toNat) z)) 13) ((R 10 0).toNat) q)) 14 (updZ ((u2 (u2 (u2 R 11 (updZ (R 11) ((R 10 0).toNat) y)) 12 (updZ ((u2 R 11 (updZ (R 11) ((R 10 0).toNat) y)) 12) ((R 10 0).toNat) z)) 13 (updZ ((u2 (u2 R 11 (updZ (R 11) ((R 10 0).toNat) y)) 12 (updZ ((u2 R 11 (updZ (R 11) ((R 10 0).toNat) y)) 12) ((R 10 0).toNat) z)) 13) ((R 10 0).toNat) q)) 14) ((R 10 0).toNat) x)) 15) ((R 10 0).toNat) b)) 16 (updZ ((u2 (u2 (u2 (u2 (u2 R 11 (updZ (R 11) ((R 10 0).toNat) y)) 12 (updZ ((u2 R 11 (updZ (R 11) ((R 10 0).toNat) y)) 12) ((R 10 0).toNat) z)) 13 (updZ ((u2 (u2 R 11 (updZ (R 11) ((R 10 0).toNat) y)) 12 (updZ ((u2 R 11 (updZ (R 11) ((R 10 0).toNat) y)) 12) ((R 10 0).toNat) z)) 13) ((R 10 0).toNat) q)) 14 (updZ ((u2 (u2 (u2 R 11 (updZ (R 11) ((R 10 0).toNat) y)) 12 (updZ ((u2 R 11 (updZ (R 11) ((R 10 0).toNat) y)) 12) ((R 10 0).toNat) z)) 13 (updZ ((u2 (u2 R 11 (updZ (R 11) ((R 10 0).toNat) y)) 12 (updZ ((u2 R 11 (updZ (R 11) ((R 10 0).toNat) y)) 12) ((R 10 0).toNat) z)) 13) ((R 10 0).toNat) q)) 14) ((R 10 0).toNat) x)) 15 (updZ ((u2 (u2 (u2 (u2 R 11 (updZ (R 11) ((R 10 0).toNat) y)) 12 (updZ ((u2 R 11 (updZ (R 11) ((R 10 0).toNat) y)) 12) ((R 10 0).toNat) z)) 13 (updZ ((u2 (u2 R 11 (updZ (R 11) ((R 10 0).toNat) y)) 12 (updZ ((u2 R 11 (updZ (R 11) ((R 10 0).toNat) y)) 12) ((R 10 0).toNat) z)) 13) ((R 10 0).toNat) q)) 14 (updZ ((u2 (u2 (u2 R 11 (updZ (R 11) ((R 10 0).toNat) y)) 12 (updZ ((u2 R 11 (updZ (R 11) ((R 10 0).toNat) y)) 12) ((R 10 0).toNat) z)) 13 (updZ ((u2 (u2 R 11 (updZ (R 11) ((R 10 0).toNat) y)) 12 (updZ ((u2 R 11 (updZ (R 11) ((R 10 0).toNat) y)) 12) ((R 10 0).toNat) z)) 13) ((R 10 0).toNat) q)) 14) ((R 10 0).toNat) x)) 15) ((R 10 0).toNat) b)) 16) ((R 10 0).toNat) (-1)))) rfl (2) (rfl) (by omega) (by decide) (z := (u2 (u2 (u2 (u2 (u2 (u2 R 11 (updZ (R 11) ((R 10 0).toNat) y)) 12 (updZ ((u2 R 11 (updZ (R 11) ((R 10 0).toNat) y)) 12) ((R 10 0).toNat) z)) 13 (updZ ((u2 (u2 R 11 (updZ (R 11) ((R 10 0).toNat) y)) 12 (updZ ((u2 R 11 (updZ (R 11) ((R 10 0).toNat) y)) 12) ((R 10 0).toNat) z)) 13) ((R 10 0).toNat) q)) 14 (updZ ((u2 (u2 (u2 R 11 (updZ (R 11) ((R 10 0).toNat) y)) 12 (updZ ((u2 R 11 (updZ (R 11) ((R 10 0).toNat) y)) 12) ((R 10 0).toNat) z)) 13 (updZ ((u2 (u2 R 11 (updZ (R 11) ((R 10 0).toNat) y)) 12 (updZ ((u2 R 11 (updZ (R 11) ((R 10 0).toNat) y)) 12) ((R 10 0).toNat) z)) 13) ((R 10 0).toNat) q)) 14) ((R 10 0).toNat) x)) 15 (updZ ((u2 (u2 (u2 (u2 R 11 (updZ (R 11) ((R 10 0).toNat) y)) 12 (updZ ((u2 R 11 (updZ (R 11) ((R 10 0).toNat) y)) 12) ((R 10 0).toNat) z)) 13 (updZ ((u2 (u2 R 11 (updZ (R 11) ((R 10 0).toNat) y)) 12 (updZ ((u2 R 11 (updZ (R 11) ((R 10 0).toNat) y)) 12) ((R 10 0).toNat) z)) 13) ((R 10 0).toNat) q)) 14 (updZ ((u2 (u2 (u2 R 11 (updZ (R 11) ((R 10 0).toNat) y)) 12 (updZ ((u2 R 11 (updZ (R 11) ((R 10 0).toNat) y)) 12) ((R 10 0).toNat) z)) 13 (updZ ((u2 (u2 R 11 (updZ (R 11) ((R 10 0).toNat) y)) 12 (updZ ((u2 R 11 (updZ (R 11) ((R 10 0).toNat) y)) 12) ((R 10 0).toNat) z)) 13) ((R 10 0).toNat) q)) 14) ((R 10 0).toNat) x)) 15) ((R 10 0).toNat) b)) 16 (updZ ((u2 (u2 (u2 (u2 (u2 R 11 (updZ (R 11) ((R 10 0).toNat) y)) 12 (updZ ((u2 R 11 (updZ (R 11) ((R 10 0).toNat) y)) 12) ((R 10 0).toNat) z)) 13 (updZ ((u2 (u2 R 11 (updZ (R 11) ((R 10 0).toNat) y)) 12 (updZ ((u2 R 11 (updZ (R 11) ((R 10 0).toNat) y)) 12) ((R 10 0).toNat) z)) 13) ((R 10 0).toNat) q)) 14 (updZ ((u2 (u2 (u2 R 11 (updZ (R 11) ((R 10 0).toNat) y)) 12 (updZ ((u2 R 11 (updZ (R 11) ((R 10 0).toNat) y)) 12) ((R 10 0).toNat) z)) 13 (updZ ((u2 (u2 R 11 (updZ (R 11) ((R 10 0).toNat) y)) 12 (updZ ((u2 R 11 (updZ (R 11) ((R 10 0).toNat) y)) 12) ((R 10 0).toNat) z)) 13) ((R 10 0).toNat) q)) 14) ((R 10 0).toNat) x)) 15 (updZ ((u2 (u2 (u2 (u2 R 11 (updZ (R 11) ((R 10 0).toNat) y)) 12 (updZ ((u2 R 11 (updZ (R 11) ((R 10 0).toNat) y)) 12) ((R 10 0).toNat) z)) 13 (updZ ((u2 (u2 R 11 (updZ (R 11) ((R 10 0).toNat) y)) 12 (updZ ((u2 R 11 (updZ (R 11) ((R 10 0).toNat) y)) 12) ((R 10 0).toNat) z)) 13) ((R 10 0).toNat) q)) 14 (updZ ((u2 (u2 (u2 R 11 (updZ (R 11) ((R 10 0).toNat) y)) 12 (updZ ((u2 R 11 (updZ (R 11) ((R 10 0).toNat) y)) 12) ((R 10 0).toNat) z)) 13 (updZ ((u2 (u2 R 11 (updZ (R 11) ((R 10 0).toNat) y)) 12 (updZ ((u2 R 11 (updZ (R 11) ((R 10 0).toNat) y)) 12) ((R 10 0).toNat) z)) 13) ((R 10 0).toNat) q)) 14) ((R 10 0).toNat) x)) 15) ((R 10 0).toNat) b)) 16) ((R 10 0).toNat) (-1))) 10 0) (fl_10) dX10_goSeal_63 ?_
  refine lv_iconst (v := iI 1) hx hb dX10_goSeal_64 (by decide) ?_
  refine zi_add hx hb dX10_goSeal_65 ?_
  refine zf_ast hx hb hK hP hD hS 0 (f := flR (u2 (u2 (u2 (u2 (u2 (u2 R 11 (updZ (R 11) ((R 10 0).toNat) y)) 12 (updZ ((u2 R 11 (updZ (R 11) ((R 10 0).toNat) y)) 12) ((R 10 0).toNat) z)) 13 (updZ ((u2 (u2 R 11 (updZ (R 11) ((R 10 0).toNat) y)) 12 (updZ ((u2 R 11 (updZ (R 11) ((R 10 0).toNat) y)) 12) ((R 10 0).toNat) z)) 13) ((R 10 0).toNat) q)) 14 (updZ ((u2 (u2 (u2 R 11 (updZ (R 11) ((R 10 0).toNat) y)) 12 (updZ ((u2 R 11 (updZ (R 11) ((R 10 0).toNat) y)) 12) ((R 10 0).toNat) z)) 13 (updZ ((u2 (u2 R 11 (updZ (R 11) ((R 10 0).toNat) y)) 12 (updZ ((u2 R 11 (updZ (R 11) ((R 10 0).toNat) y)) 12) ((R 10 0).toNat) z)) 13) ((R 10 0).toNat) q)) 14) ((R 10 0).toNat) x)) 15 (updZ ((u2 (u2 (u2 (u2 R 11 (updZ (R 11) ((R 10 0).toNat) y)) 12 (updZ ((u2 R 11 (updZ (R 11) ((R 10 0).toNat) y)) 12) ((R 10 0).toNat) z)) 13 (updZ ((u2 (u2 R 11 (updZ (R 11) ((R 10 0).toNat) y)) 12 (updZ ((u2 R 11 (updZ (R 11) ((R 10 0).toNat) y)) 12) ((R 10 0).toNat) z)) 13) ((R 10 0).toNat) q)) 14 (updZ ((u2 (u2 (u2 R 11 (updZ (R 11) ((R 10 0).toNat) y)) 12 (updZ ((u2 R 11 (updZ (R 11) ((R 10 0).toNat) y)) 12) ((R 10 0).toNat) z)) 13 (updZ ((u2 (u2 R 11 (updZ (R 11) ((R 10 0).toNat) y)) 12 (updZ ((u2 R 11 (updZ (R 11) ((R 10 0).toNat) y)) 12) ((R 10 0).toNat) z)) 13) ((R 10 0).toNat) q)) 14) ((R 10 0).toNat) x)) 15) ((R 10 0).toNat) b)) 16 (updZ ((u2 (u2 (u2 (u2 (u2 R 11 (updZ (R 11) ((R 10 0).toNat) y)) 12 (updZ ((u2 R 11 (updZ (R 11) ((R 10 0).toNat) y)) 12) ((R 10 0).toNat) z)) 13 (updZ ((u2 (u2 R 11 (updZ (R 11) ((R 10 0).toNat) y)) 12 (updZ ((u2 R 11 (updZ (R 11) ((R 10 0).toNat) y)) 12) ((R 10 0).toNat) z)) 13) ((R 10 0).toNat) q)) 14 (updZ ((u2 (u2 (u2 R 11 (updZ (R 11) ((R 10 0).toNat) y)) 12 (updZ ((u2 R 11 (updZ (R 11) ((R 10 0).toNat) y)) 12) ((R 10 0).toNat) z)) 13 (updZ ((u2 (u2 R 11 (updZ (R 11) ((R 10 0).toNat) y)) 12 (updZ ((u2 R 11 (updZ (R 11) ((R 10 0).toNat) y)) 12) ((R 10 0).toNat) z)) 13) ((R 10 0).toNat) q)) 14) ((R 10 0).toNat) x)) 15 (updZ ((u2 (u2 (u2 (u2 R 11 (updZ (R 11) ((R 10 0).toNat) y)) 12 (updZ ((u2 R 11 (updZ (R 11) ((R 10 0).toNat) y)) 12) ((R 10 0).toNat) z)) 13 (updZ ((u2 (u2 R 11 (updZ (R 11) ((R 10 0).toNat) y)) 12 (updZ ((u2 R 11 (updZ (R 11) ((R 10 0).toNat) y)) 12) ((R 10 0).toNat) z)) 13) ((R 10 0).toNat) q)) 14 (updZ ((u2 (u2 (u2 R 11 (updZ (R 11) ((R 10 0).toNat) y)) 12 (updZ ((u2 R 11 (updZ (R 11) ((R 10 0).toNat) y)) 12) ((R 10 0).toNat) z)) 13 (updZ ((u2 (u2 R 11 (updZ (R 11) ((R 10 0).toNat) y)) 12 (updZ ((u2 R 11 (updZ (R 11) ((R 10 0).toNat) y)) 12) ((R 10 0).toNat) z)) 13) ((R 10 0).toNat) q)) 14) ((R 10 0).toNat) x)) 15) ((R 10 0).toNat) b)) 16) ((R 10 0).toNat) (-1)))) (f2 := flR (u2 (u2 (u2 (u2 (u2 (u2 (u2 R 11 (updZ (R 11) ((R 10 0).toNat) y)) 12 (updZ ((u2 R 11 (updZ (R 11) ((R 10 0).toNat) y)) 12) ((R 10 0).toNat) z)) 13 (updZ ((u2 (u2 R 11 (updZ (R 11) ((R 10 0).toNat) y)) 12 (updZ ((u2 R 11 (updZ (R 11) ((R 10 0).toNat) y)) 12) ((R 10 0).toNat) z)) 13) ((R 10 0).toNat) q)) 14 (updZ ((u2 (u2 (u2 R 11 (updZ (R 11) ((R 10 0).toNat) y)) 12 (updZ ((u2 R 11 (updZ (R 11) ((R 10 0).toNat) y)) 12) ((R 10 0).toNat) z)) 13 (updZ ((u2 (u2 R 11 (updZ (R 11) ((R 10 0).toNat) y)) 12 (updZ ((u2 R 11 (updZ (R 11) ((R 10 0).toNat) y)) 12) ((R 10 0).toNat) z)) 13) ((R 10 0).toNat) q)) 14) ((R 10 0).toNat) x)) 15 (updZ ((u2 (u2 (u2 (u2 R 11 (updZ (R 11) ((R 10 0).toNat) y)) 12 (updZ ((u2 R 11 (updZ (R 11) ((R 10 0).toNat) y)) 12) ((R 10 0).toNat) z)) 13 (updZ ((u2 (u2 R 11 (updZ (R 11) ((R 10 0).toNat) y)) 12 (updZ ((u2 R 11 (updZ (R 11) ((R 10 0).toNat) y)) 12) ((R 10 0).toNat) z)) 13) ((R 10 0).toNat) q)) 14 (updZ ((u2 (u2 (u2 R 11 (updZ (R 11) ((R 10 0).toNat) y)) 12 (updZ ((u2 R 11 (updZ (R 11) ((R 10 0).toNat) y)) 12) ((R 10 0).toNat) z)) 13 (updZ ((u2 (u2 R 11 (updZ (R 11) ((R 10 0).toNat) y)) 12 (updZ ((u2 R 11 (updZ (R 11) ((R 10 0).toNat) y)) 12) ((R 10 0).toNat) z)) 13) ((R 10 0).toNat) q)) 14) ((R 10 0).toNat) x)) 15) ((R 10 0).toNat) b)) 16 (updZ ((u2 (u2 (u2 (u2 (u2 R 11 (updZ (R 11) ((R 10 0).toNat) y)) 12 (updZ ((u2 R 11 (updZ (R 11) ((R 10 0).toNat) y)) 12) ((R 10 0).toNat) z)) 13 (updZ ((u2 (u2 R 11 (updZ (R 11) ((R 10 0).toNat) y)) 12 (updZ ((u2 R 11 (updZ (R 11) ((R 10 0).toNat) y)) 12) ((R 10 0).toNat) z)) 13) ((R 10 0).toNat) q)) 14 (updZ ((u2 (u2 (u2 R 11 (updZ (R 11) ((R 10 0).toNat) y)) 12 (updZ ((u2 R 11 (updZ (R 11) ((R 10 0).toNat) y)) 12) ((R 10 0).toNat) z)) 13 (updZ ((u2 (u2 R 11 (updZ (R 11) ((R 10 0).toNat) y)) 12 (updZ ((u2 R 11 (updZ (R 11) ((R 10 0).toNat) y)) 12) ((R 10 0).toNat) z)) 13) ((R 10 0).toNat) q)) 14) ((R 10 0).toNat) x)) 15 (updZ ((u2 (u2 (u2 (u2 R 11 (updZ (R 11) ((R 10 0).toNat) y)) 12 (updZ ((u2 R 11 (updZ (R 11) ((R 10 0).toNat) y)) 12) ((R 10 0).toNat) z)) 13 (updZ ((u2 (u2 R 11 (updZ (R 11) ((R 10 0).toNat) y)) 12 (updZ ((u2 R 11 (updZ (R 11) ((R 10 0).toNat) y)) 12) ((R 10 0).toNat) z)) 13) ((R 10 0).toNat) q)) 14 (updZ ((u2 (u2 (u2 R 11 (updZ (R 11) ((R 10 0).toNat) y)) 12 (updZ ((u2 R 11 (updZ (R 11) ((R 10 0).toNat) y)) 12) ((R 10 0).toNat) z)) 13 (updZ ((u2 (u2 R 11 (updZ (R 11) ((R 10 0).toNat) y)) 12 (updZ ((u2 R 11 (updZ (R 11) ((R 10 0).toNat) y)) 12) ((R 10 0).toNat) z)) 13) ((R 10 0).toNat) q)) 14) ((R 10 0).toNat) x)) 15) ((R 10 0).toNat) b)) 16) ((R 10 0).toNat) (-1))) 10 (fun _ => ((u2 (u2 (u2 (u2 (u2 (u2 R 11 (updZ (R 11) ((R 10 0).toNat) y)) 12 (updZ ((u2 R 11 (updZ (R 11) ((R 10 0).toNat) y)) 12) ((R 10 0).toNat) z)) 13 (updZ ((u2 (u2 R 11 (updZ (R 11) ((R 10 0).toNat) y)) 12 (updZ ((u2 R 11 (updZ (R 11) ((R 10 0).toNat) y)) 12) ((R 10 0).toNat) z)) 13) ((R 10 0).toNat) q)) 14 (updZ ((u2 (u2 (u2 R 11 (updZ (R 11) ((R 10 0).toNat) y)) 12 (updZ ((u2 R 11 (updZ (R 11) ((R 10 0).toNat) y)) 12) ((R 10 0).toNat) z)) 13 (updZ ((u2 (u2 R 11 (updZ (R 11) ((R 10 0).toNat) y)) 12 (updZ ((u2 R 11 (updZ (R 11) ((R 10 0).toNat) y)) 12) ((R 10 0).toNat) z)) 13) ((R 10 0).toNat) q)) 14) ((R 10 0).toNat) x)) 15 (updZ ((u2 (u2 (u2 (u2 R 11 (updZ (R 11) ((R 10 0).toNat) y)) 12 (updZ ((u2 R 11 (updZ (R 11) ((R 10 0).toNat) y)) 12) ((R 10 0).toNat) z)) 13 (updZ ((u2 (u2 R 11 (updZ (R 11) ((R 10 0).toNat) y)) 12 (updZ ((u2 R 11 (updZ (R 11) ((R 10 0).toNat) y)) 12) ((R 10 0).toNat) z)) 13) ((R 10 0).toNat) q)) 14 (updZ ((u2 (u2 (u2 R 11 (updZ (R 11) ((R 10 0).toNat) y)) 12 (updZ ((u2 R 11 (updZ (R 11) ((R 10 0).toNat) y)) 12) ((R 10 0).toNat) z)) 13 (updZ ((u2 (u2 R 11 (updZ (R 11) ((R 10 0).toNat) y)) 12 (updZ ((u2 R 11 (updZ (R 11) ((R 10 0).toNat) y)) 12) ((R 10 0).toNat) z)) 13) ((R 10 0).toNat) q)) 14) ((R 10 0).toNat) x)) 15) ((R 10 0).toNat) b)) 16 (updZ ((u2 (u2 (u2 (u2 (u2 R 11 (updZ (R 11) ((R 10 0).toNat) y)) 12 (updZ ((u2 R 11 (updZ (R 11) ((R 10 0).toNat) y)) 12) ((R 10 0).toNat) z)) 13 (updZ ((u2 (u2 R 11 (updZ (R 11) ((R 10 0).toNat) y)) 12 (updZ ((u2 R 11 (updZ (R 11) ((R 10 0).toNat) y)) 12) ((R 10 0).toNat) z)) 13) ((R 10 0).toNat) q)) 14 (updZ ((u2 (u2 (u2 R 11 (updZ (R 11) ((R 10 0).toNat) y)) 12 (updZ ((u2 R 11 (updZ (R 11) ((R 10 0).toNat) y)) 12) ((R 10 0).toNat) z)) 13 (updZ ((u2 (u2 R 11 (updZ (R 11) ((R 10 0).toNat) y)) 12 (updZ ((u2 R 11 (updZ (R 11) ((R 10 0).toNat) y)) 12) ((R 10 0).toNat) z)) 13) ((R 10 0).toNat) q)) 14) ((R 10 0).toNat) x)) 15 (updZ ((u2 (u2 (u2 (u2 R 11 (updZ (R 11) ((R 10 0).toNat) y)) 12 (updZ ((u2 R 11 (updZ (R 11) ((R 10 0).toNat) y)) 12) ((R 10 0).toNat) z)) 13 (updZ ((u2 (u2 R 11 (updZ (R 11) ((R 10 0).toNat) y)) 12 (updZ ((u2 R 11 (updZ (R 11) ((R 10 0).toNat) y)) 12) ((R 10 0).toNat) z)) 13) ((R 10 0).toNat) q)) 14 (updZ ((u2 (u2 (u2 R 11 (updZ (R 11) ((R 10 0).toNat) y)) 12 (updZ ((u2 R 11 (updZ (R 11) ((R 10 0).toNat) y)) 12) ((R 10 0).toNat) z)) 13 (updZ ((u2 (u2 R 11 (updZ (R 11) ((R 10 0).toNat) y)) 12 (updZ ((u2 R 11 (updZ (R 11) ((R 10 0).toNat) y)) 12) ((R 10 0).toNat) z)) 13) ((R 10 0).toNat) q)) 14) ((R 10 0).toNat) x)) 15) ((R 10 0).toNat) b)) 16) ((R 10 0).toNat) (-1))) 10 0) + 1))) rfl (2) (rfl) (by omega) (by decide) (fu_10) dX10_goSeal_66 (wo := flW fa (u2 (u2 (u2 (u2 (u2 (u2 (u2 R 11 (updZ (R 11) ((R 10 0).toNat) y)) 12 (updZ ((u2 R 11 (updZ (R 11) ((R 10 0).toNat) y)) 12) ((R 10 0).toNat) z)) 13 (updZ ((u2 (u2 R 11 (updZ (R 11) ((R 10 0).toNat) y)) 12 (updZ ((u2 R 11 (updZ (R 11) ((R 10 0).toNat) y)) 12) ((R 10 0).toNat) z)) 13) ((R 10 0).toNat) q)) 14 (updZ ((u2 (u2 (u2 R 11 (updZ (R 11) ((R 10 0).toNat) y)) 12 (updZ ((u2 R 11 (updZ (R 11) ((R 10 0).toNat) y)) 12) ((R 10 0).toNat) z)) 13 (updZ ((u2 (u2 R 11 (updZ (R 11) ((R 10 0).toNat) y)) 12 (updZ ((u2 R 11 (updZ (R 11) ((R 10 0).toNat) y)) 12) ((R 10 0).toNat) z)) 13) ((R 10 0).toNat) q)) 14) ((R 10 0).toNat) x)) 15 (updZ ((u2 (u2 (u2 (u2 R 11 (updZ (R 11) ((R 10 0).toNat) y)) 12 (updZ ((u2 R 11 (updZ (R 11) ((R 10 0).toNat) y)) 12) ((R 10 0).toNat) z)) 13 (updZ ((u2 (u2 R 11 (updZ (R 11) ((R 10 0).toNat) y)) 12 (updZ ((u2 R 11 (updZ (R 11) ((R 10 0).toNat) y)) 12) ((R 10 0).toNat) z)) 13) ((R 10 0).toNat) q)) 14 (updZ ((u2 (u2 (u2 R 11 (updZ (R 11) ((R 10 0).toNat) y)) 12 (updZ ((u2 R 11 (updZ (R 11) ((R 10 0).toNat) y)) 12) ((R 10 0).toNat) z)) 13 (updZ ((u2 (u2 R 11 (updZ (R 11) ((R 10 0).toNat) y)) 12 (updZ ((u2 R 11 (updZ (R 11) ((R 10 0).toNat) y)) 12) ((R 10 0).toNat) z)) 13) ((R 10 0).toNat) q)) 14) ((R 10 0).toNat) x)) 15) ((R 10 0).toNat) b)) 16 (updZ ((u2 (u2 (u2 (u2 (u2 R 11 (updZ (R 11) ((R 10 0).toNat) y)) 12 (updZ ((u2 R 11 (updZ (R 11) ((R 10 0).toNat) y)) 12) ((R 10 0).toNat) z)) 13 (updZ ((u2 (u2 R 11 (updZ (R 11) ((R 10 0).toNat) y)) 12 (updZ ((u2 R 11 (updZ (R 11) ((R 10 0).toNat) y)) 12) ((R 10 0).toNat) z)) 13) ((R 10 0).toNat) q)) 14 (updZ ((u2 (u2 (u2 R 11 (updZ (R 11) ((R 10 0).toNat) y)) 12 (updZ ((u2 R 11 (updZ (R 11) ((R 10 0).toNat) y)) 12) ((R 10 0).toNat) z)) 13 (updZ ((u2 (u2 R 11 (updZ (R 11) ((R 10 0).toNat) y)) 12 (updZ ((u2 R 11 (updZ (R 11) ((R 10 0).toNat) y)) 12) ((R 10 0).toNat) z)) 13) ((R 10 0).toNat) q)) 14) ((R 10 0).toNat) x)) 15 (updZ ((u2 (u2 (u2 (u2 R 11 (updZ (R 11) ((R 10 0).toNat) y)) 12 (updZ ((u2 R 11 (updZ (R 11) ((R 10 0).toNat) y)) 12) ((R 10 0).toNat) z)) 13 (updZ ((u2 (u2 R 11 (updZ (R 11) ((R 10 0).toNat) y)) 12 (updZ ((u2 R 11 (updZ (R 11) ((R 10 0).toNat) y)) 12) ((R 10 0).toNat) z)) 13) ((R 10 0).toNat) q)) 14 (updZ ((u2 (u2 (u2 R 11 (updZ (R 11) ((R 10 0).toNat) y)) 12 (updZ ((u2 R 11 (updZ (R 11) ((R 10 0).toNat) y)) 12) ((R 10 0).toNat) z)) 13 (updZ ((u2 (u2 R 11 (updZ (R 11) ((R 10 0).toNat) y)) 12 (updZ ((u2 R 11 (updZ (R 11) ((R 10 0).toNat) y)) 12) ((R 10 0).toNat) z)) 13) ((R 10 0).toNat) q)) 14) ((R 10 0).toNat) x)) 15) ((R 10 0).toNat) b)) 16) ((R 10 0).toNat) (-1))) 10 (fun _ => ((u2 (u2 (u2 (u2 (u2 (u2 R 11 (updZ (R 11) ((R 10 0).toNat) y)) 12 (updZ ((u2 R 11 (updZ (R 11) ((R 10 0).toNat) y)) 12) ((R 10 0).toNat) z)) 13 (updZ ((u2 (u2 R 11 (updZ (R 11) ((R 10 0).toNat) y)) 12 (updZ ((u2 R 11 (updZ (R 11) ((R 10 0).toNat) y)) 12) ((R 10 0).toNat) z)) 13) ((R 10 0).toNat) q)) 14 (updZ ((u2 (u2 (u2 R 11 (updZ (R 11) ((R 10 0).toNat) y)) 12 (updZ ((u2 R 11 (updZ (R 11) ((R 10 0).toNat) y)) 12) ((R 10 0).toNat) z)) 13 (updZ ((u2 (u2 R 11 (updZ (R 11) ((R 10 0).toNat) y)) 12 (updZ ((u2 R 11 (updZ (R 11) ((R 10 0).toNat) y)) 12) ((R 10 0).toNat) z)) 13) ((R 10 0).toNat) q)) 14) ((R 10 0).toNat) x)) 15 (updZ ((u2 (u2 (u2 (u2 R 11 (updZ (R 11) ((R 10 0).toNat) y)) 12 (updZ ((u2 R 11 (updZ (R 11) ((R 10 0).toNat) y)) 12) ((R 10 0).toNat) z)) 13 (updZ ((u2 (u2 R 11 (updZ (R 11) ((R 10 0).toNat) y)) 12 (updZ ((u2 R 11 (updZ (R 11) ((R 10 0).toNat) y)) 12) ((R 10 0).toNat) z)) 13) ((R 10 0).toNat) q)) 14 (updZ ((u2 (u2 (u2 R 11 (updZ (R 11) ((R 10 0).toNat) y)) 12 (updZ ((u2 R 11 (updZ (R 11) ((R 10 0).toNat) y)) 12) ((R 10 0).toNat) z)) 13 (updZ ((u2 (u2 R 11 (updZ (R 11) ((R 10 0).toNat) y)) 12 (updZ ((u2 R 11 (updZ (R 11) ((R 10 0).toNat) y)) 12) ((R 10 0).toNat) z)) 13) ((R 10 0).toNat) q)) 14) ((R 10 0).toNat) x)) 15) ((R 10 0).toNat) b)) 16 (updZ ((u2 (u2 (u2 (u2 (u2 R 11 (updZ (R 11) ((R 10 0).toNat) y)) 12 (updZ ((u2 R 11 (updZ (R 11) ((R 10 0).toNat) y)) 12) ((R 10 0).toNat) z)) 13 (updZ ((u2 (u2 R 11 (updZ (R 11) ((R 10 0).toNat) y)) 12 (updZ ((u2 R 11 (updZ (R 11) ((R 10 0).toNat) y)) 12) ((R 10 0).toNat) z)) 13) ((R 10 0).toNat) q)) 14 (updZ ((u2 (u2 (u2 R 11 (updZ (R 11) ((R 10 0).toNat) y)) 12 (updZ ((u2 R 11 (updZ (R 11) ((R 10 0).toNat) y)) 12) ((R 10 0).toNat) z)) 13 (updZ ((u2 (u2 R 11 (updZ (R 11) ((R 10 0).toNat) y)) 12 (updZ ((u2 R 11 (updZ (R 11) ((R 10 0).toNat) y)) 12) ((R 10 0).toNat) z)) 13) ((R 10 0).toNat) q)) 14) ((R 10 0).toNat) x)) 15 (updZ ((u2 (u2 (u2 (u2 R 11 (updZ (R 11) ((R 10 0).toNat) y)) 12 (updZ ((u2 R 11 (updZ (R 11) ((R 10 0).toNat) y)) 12) ((R 10 0).toNat) z)) 13 (updZ ((u2 (u2 R 11 (updZ (R 11) ((R 10 0).toNat) y)) 12 (updZ ((u2 R 11 (updZ (R 11) ((R 10 0).toNat) y)) 12) ((R 10 0).toNat) z)) 13) ((R 10 0).toNat) q)) 14 (updZ ((u2 (u2 (u2 R 11 (updZ (R 11) ((R 10 0).toNat) y)) 12 (updZ ((u2 R 11 (updZ (R 11) ((R 10 0).toNat) y)) 12) ((R 10 0).toNat) z)) 13 (updZ ((u2 (u2 R 11 (updZ (R 11) ((R 10 0).toNat) y)) 12 (updZ ((u2 R 11 (updZ (R 11) ((R 10 0).toNat) y)) 12) ((R 10 0).toNat) z)) 13) ((R 10 0).toNat) q)) 14) ((R 10 0).toNat) x)) 15) ((R 10 0).toNat) b)) 16) ((R 10 0).toNat) (-1))) 10 0) + 1)) τ) rfl (fun H locs hP hD hS => ?_)
  refine lv_iload hx hb dX10_goSeal_67 (lv_at hl 0 rfl) ?_
  exact rw_iret hx hb hr hlocks hP hS (⟨by rw [show (((R 10 0).toNat : Nat) : Int) = R 10 0 from by omega], rfl⟩) dX10_goSeal_69

theorem cd_X10_goCrack : cd yX10_goCrack 3 := by decide +kernel
set_option maxHeartbeats 1000000 in
set_option maxRecDepth 100000 in
theorem c_X10_goCrack (l : Launch) (g : va_G) (τ : Nat → ClassId) (fa : Nat) (R : Nat → Nat → Int) (hI : SI R) (d1 : Nat) (hd1 : (d1 : Int) < R 4 0) (z : Int) (hz : -2147483648 ≤ z ∧ z < 2147483648) (hm : R 8 d1 < 4)  : Met l yX10_goCrack wsX10_goCrack { frames := 0, cells := 0, slots := 0, locals := 0 } (va_Pc [Value.ref fa, Value.int (iI (d1 : Int)), Value.int (iI z)] (rwW g τ (flW fa R τ))) (rwQ g (fun v w => v = some (Value.int (iI (R 8 d1))) ∧ w = flW fa (u2 (u2 R 9 (updZ (R 9) (d1 * 4 + (R 8 d1).toNat) z)) 8 (updZ (R 8) d1 (R 8 d1 + 1))) τ) (inW (flW fa R τ))) 0 0 (inW (flW fa R τ)) := by
  have hB := hI.hB
  have hr0 := hI.r
  have hd0 := hI.d
  have hs0 := hI.s
  have hdl := hI.ds d1 hd1
  refine rwMet (cc := cX10_goCrack) (maxL := 3) (ret := (some .int)) (lv := [(0, Value.ref fa), (1, Value.int (iI (d1 : Int))), (2, Value.int (iI z))]) (by decide) rfl (Nat.le_of_ble_eq_true rfl) rfl ?_
  intro p e s m below meth c hx hb hr hml hts hown hlocks A H hP hD hS hK ls hl
  refine lv_aload_n hx hb dX10_goCrack_0 rfl (lv_at hl 0 rfl) ?_
  refine lv_bipush (v := iI 65) hx hb dX10_goCrack_1 (by decide) ?_
  refine lv_iconst (v := iI 4) hx hb dX10_goCrack_3 (by decide) ?_
  refine lv_iload_n hx hb dX10_goCrack_4 rfl (lv_at hl 1 rfl) ?_
  refine zi_mul hx hb dX10_goCrack_5 ?_
  refine zi_add hx hb dX10_goCrack_6 ?_
  refine lv_aload_n hx hb dX10_goCrack_7 rfl (lv_at hl 0 rfl) ?_
  refine lv_bipush (v := iI 55) hx hb dX10_goCrack_8 (by decide) ?_
  refine lv_iload_n hx hb dX10_goCrack_10 rfl (lv_at hl 1 rfl) ?_
  refine zi_add hx hb dX10_goCrack_11 ?_
  refine zf_ald hx hb hK hP 0 (f := flR R) rfl (55 + d1) (by omega) (by omega) (by decide) (z := R 8 d1) (fl_8 (i := d1) (by omega) (by omega)) dX10_goCrack_12 ?_
  have hb_1 := hB 8 d1
  refine cv_i (y := iI (((R 8 d1).toNat : Nat) : Int)) (congrArg iI (by omega)) ?_
  refine zi_add hx hb dX10_goCrack_13 ?_
  refine lv_iload_n hx hb dX10_goCrack_14 rfl (lv_at hl 2 rfl) ?_
  refine zf_ast hx hb hK hP hD hS 0 (f := flR R) (f2 := flR (u2 R 9 (updZ (R 9) (d1 * 4 + (R 8 d1).toNat) z))) rfl ((65 + (4 * d1)) + ((R 8 d1).toNat)) (by omega) (by omega) (by decide) (fu_9 (by omega) (by omega)) dX10_goCrack_15 (wo := flW fa (u2 R 9 (updZ (R 9) (d1 * 4 + (R 8 d1).toNat) z)) τ) rfl (fun H locs hP hD hS => ?_)
  refine lv_aload_n hx hb dX10_goCrack_16 rfl (lv_at hl 0 rfl) ?_
  refine lv_bipush (v := iI 55) hx hb dX10_goCrack_17 (by decide) ?_
  refine lv_iload_n hx hb dX10_goCrack_19 rfl (lv_at hl 1 rfl) ?_
  refine zi_add hx hb dX10_goCrack_20 ?_
  refine lv_dup2_11 hx hb dX10_goCrack_21 rfl rfl ?_
  refine zf_ald hx hb hK hP 0 (f := flR (u2 R 9 (updZ (R 9) (d1 * 4 + (R 8 d1).toNat) z))) rfl (55 + d1) (by omega) (by omega) (by decide) (z := (u2 R 9 (updZ (R 9) (d1 * 4 + (R 8 d1).toNat) z)) 8 d1) (fl_8 (i := d1) (by omega) (by omega)) dX10_goCrack_22 ?_
  refine lv_iconst (v := iI 1) hx hb dX10_goCrack_23 (by decide) ?_
  refine zi_add hx hb dX10_goCrack_24 ?_
  refine zf_ast hx hb hK hP hD hS 0 (f := flR (u2 R 9 (updZ (R 9) (d1 * 4 + (R 8 d1).toNat) z))) (f2 := flR (u2 (u2 R 9 (updZ (R 9) (d1 * 4 + (R 8 d1).toNat) z)) 8 (updZ ((u2 R 9 (updZ (R 9) (d1 * 4 + (R 8 d1).toNat) z)) 8) d1 (((u2 R 9 (updZ (R 9) (d1 * 4 + (R 8 d1).toNat) z)) 8 d1) + 1)))) rfl (55 + d1) (by omega) (by omega) (by decide) (fu_8 (by omega) (by omega)) dX10_goCrack_25 (wo := flW fa (u2 (u2 R 9 (updZ (R 9) (d1 * 4 + (R 8 d1).toNat) z)) 8 (updZ ((u2 R 9 (updZ (R 9) (d1 * 4 + (R 8 d1).toNat) z)) 8) d1 (((u2 R 9 (updZ (R 9) (d1 * 4 + (R 8 d1).toNat) z)) 8 d1) + 1))) τ) rfl (fun H locs hP hD hS => ?_)
  refine lv_aload_n hx hb dX10_goCrack_26 rfl (lv_at hl 0 rfl) ?_
  refine lv_bipush (v := iI 55) hx hb dX10_goCrack_27 (by decide) ?_
  refine lv_iload_n hx hb dX10_goCrack_29 rfl (lv_at hl 1 rfl) ?_
  refine zi_add hx hb dX10_goCrack_30 ?_
  refine zf_ald hx hb hK hP 0 (f := flR (u2 (u2 R 9 (updZ (R 9) (d1 * 4 + (R 8 d1).toNat) z)) 8 (updZ ((u2 R 9 (updZ (R 9) (d1 * 4 + (R 8 d1).toNat) z)) 8) d1 (((u2 R 9 (updZ (R 9) (d1 * 4 + (R 8 d1).toNat) z)) 8 d1) + 1)))) rfl (55 + d1) (by omega) (by omega) (by decide) (z := (u2 (u2 R 9 (updZ (R 9) (d1 * 4 + (R 8 d1).toNat) z)) 8 (updZ ((u2 R 9 (updZ (R 9) (d1 * 4 + (R 8 d1).toNat) z)) 8) d1 (((u2 R 9 (updZ (R 9) (d1 * 4 + (R 8 d1).toNat) z)) 8 d1) + 1))) 8 d1) (fl_8 (i := d1) (by omega) (by omega)) dX10_goCrack_31 ?_
  refine lv_iconst (v := iI 1) hx hb dX10_goCrack_32 (by decide) ?_
  refine zi_sub hx hb dX10_goCrack_33 ?_
  exact rw_iret hx hb hr hlocks hP hS (⟨by show some (Value.int (iI ((if d1 = d1 then R 8 d1 + 1 else _) - 1))) = _; rw [if_pos rfl, show R 8 d1 + 1 - 1 = R 8 d1 from by omega], rfl⟩) dX10_goCrack_34
