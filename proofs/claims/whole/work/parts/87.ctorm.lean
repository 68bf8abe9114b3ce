set_option maxRecDepth 100000 in
theorem mw1159 : Cond.methodLink RX11 1 Lib.objectInit ∈ gwl := gwl_tb 1183 rfl rfl
theorem addC_add {κ : K} {a b c d : Nat} : addC (addC κ a b) c d = addC κ (a + c) (b + d) := by
  unfold addC
  simp only [Nat.add_assoc]
def mF0 (n : Nat) : Nat → AV := fun j => dv (tyX11 j)
def mT0 : List RC := []
theorem len_0 : mT0.length = 0 := rfl
theorem okF0 {n m : Nat} (h : n + 38 < m) : ∀ j, clA m (mF0 n j) := fun j => dv_cl _ _
theorem okT0 {m : Nat} : aok m mT0 := aok_nil
def mF1 (n : Nat) : Nat → AV := updf (mF0 n) 1 (.inr (some (8, n + 1, 0)))
def mT1 : List RC := mT0 ++ [.inr (0, 275, .inl fun _ => 0)]
theorem len_1 : mT1.length = 1 := by
  show (mT0 ++ [_]).length = 1
  rw [List.length_append, len_0]
  rfl
theorem okF1 {n m : Nat} (h : n + 38 < m) : ∀ j, clA m (mF1 n j) := updf_ok (okF0 h) (fun _ => by show n + 1 < m; omega)
theorem okT1 {m : Nat} : aok m mT1 := aok_app okT0 (aok_cons trivial aok_nil)
def mF2 (n : Nat) : Nat → AV := updf (mF1 n) 2 (.inr (some (8, n + 2, 0)))
def mT2 : List RC := mT1 ++ [.inr (0, 2560, .inl fun _ => 0)]
theorem len_2 : mT2.length = 2 := by
  show (mT1 ++ [_]).length = 2
  rw [List.length_append, len_1]
  rfl
theorem okF2 {n m : Nat} (h : n + 38 < m) : ∀ j, clA m (mF2 n j) := updf_ok (okF1 h) (fun _ => by show n + 2 < m; omega)
theorem okT2 {m : Nat} : aok m mT2 := aok_app okT1 (aok_cons trivial aok_nil)
def mF3 (n : Nat) : Nat → AV := updf (mF2 n) 3 (.inr (some (8, n + 3, 0)))
def mT3 : List RC := mT2 ++ [.inr (0, 275, .inl fun _ => 0)]
theorem len_3 : mT3.length = 3 := by
  show (mT2 ++ [_]).length = 3
  rw [List.length_append, len_2]
  rfl
theorem okF3 {n m : Nat} (h : n + 38 < m) : ∀ j, clA m (mF3 n j) := updf_ok (okF2 h) (fun _ => by show n + 3 < m; omega)
theorem okT3 {m : Nat} : aok m mT3 := aok_app okT2 (aok_cons trivial aok_nil)
def mF4 (n : Nat) : Nat → AV := updf (mF3 n) 4 (.inr (some (8, n + 4, 0)))
def mT4 : List RC := mT3 ++ [.inr (0, 2560, .inl fun _ => 0)]
theorem len_4 : mT4.length = 4 := by
  show (mT3 ++ [_]).length = 4
  rw [List.length_append, len_3]
  rfl
theorem okF4 {n m : Nat} (h : n + 38 < m) : ∀ j, clA m (mF4 n j) := updf_ok (okF3 h) (fun _ => by show n + 4 < m; omega)
theorem okT4 {m : Nat} : aok m mT4 := aok_app okT3 (aok_cons trivial aok_nil)
def mF5 (n : Nat) : Nat → AV := updf (mF4 n) 5 (.inr (some (8, n + 5, 0)))
def mT5 : List RC := mT4 ++ [.inr (0, 2560, .inl fun _ => 0)]
theorem len_5 : mT5.length = 5 := by
  show (mT4 ++ [_]).length = 5
  rw [List.length_append, len_4]
  rfl
theorem okF5 {n m : Nat} (h : n + 38 < m) : ∀ j, clA m (mF5 n j) := updf_ok (okF4 h) (fun _ => by show n + 5 < m; omega)
theorem okT5 {m : Nat} : aok m mT5 := aok_app okT4 (aok_cons trivial aok_nil)
def mF6 (n : Nat) : Nat → AV := updf (mF5 n) 6 (.inr (some (8, n + 6, 0)))
def mT6 : List RC := mT5 ++ [.inr (0, 5, .inl fun _ => 0)]
theorem len_6 : mT6.length = 6 := by
  show (mT5 ++ [_]).length = 6
  rw [List.length_append, len_5]
  rfl
theorem okF6 {n m : Nat} (h : n + 38 < m) : ∀ j, clA m (mF6 n j) := updf_ok (okF5 h) (fun _ => by show n + 6 < m; omega)
theorem okT6 {m : Nat} : aok m mT6 := aok_app okT5 (aok_cons trivial aok_nil)
def mF7 (n : Nat) : Nat → AV := updf (mF6 n) 7 (.inr (some (8, n + 7, 0)))
def mT7 : List RC := mT6 ++ [.inr (0, 550, .inl fun _ => 0)]
theorem len_7 : mT7.length = 7 := by
  show (mT6 ++ [_]).length = 7
  rw [List.length_append, len_6]
  rfl
theorem okF7 {n m : Nat} (h : n + 38 < m) : ∀ j, clA m (mF7 n j) := updf_ok (okF6 h) (fun _ => by show n + 7 < m; omega)
theorem okT7 {m : Nat} : aok m mT7 := aok_app okT6 (aok_cons trivial aok_nil)
def mF8 (n : Nat) : Nat → AV := updf (mF7 n) 8 (.inr (some (8, n + 8, 0)))
def mT8 : List RC := mT7 ++ [.inr (0, 5120, .inl fun _ => 0)]
theorem len_8 : mT8.length = 8 := by
  show (mT7 ++ [_]).length = 8
  rw [List.length_append, len_7]
  rfl
theorem okF8 {n m : Nat} (h : n + 38 < m) : ∀ j, clA m (mF8 n j) := updf_ok (okF7 h) (fun _ => by show n + 8 < m; omega)
theorem okT8 {m : Nat} : aok m mT8 := aok_app okT7 (aok_cons trivial aok_nil)
def mF9 (n : Nat) : Nat → AV := updf (mF8 n) 9 (.inr (some (8, n + 9, 0)))
def mT9 : List RC := mT8 ++ [.inr (0, 10, .inl fun _ => 0)]
theorem len_9 : mT9.length = 9 := by
  show (mT8 ++ [_]).length = 9
  rw [List.length_append, len_8]
  rfl
theorem okF9 {n m : Nat} (h : n + 38 < m) : ∀ j, clA m (mF9 n j) := updf_ok (okF8 h) (fun _ => by show n + 9 < m; omega)
theorem okT9 {m : Nat} : aok m mT9 := aok_app okT8 (aok_cons trivial aok_nil)
def mF10 (n : Nat) : Nat → AV := updf (mF9 n) 10 (.inr (some (8, n + 10, 0)))
def mT10 : List RC := mT9 ++ [.inr (0, 10, .inl fun _ => 0)]
theorem len_10 : mT10.length = 10 := by
  show (mT9 ++ [_]).length = 10
  rw [List.length_append, len_9]
  rfl
theorem okF10 {n m : Nat} (h : n + 38 < m) : ∀ j, clA m (mF10 n j) := updf_ok (okF9 h) (fun _ => by show n + 10 < m; omega)
theorem okT10 {m : Nat} : aok m mT10 := aok_app okT9 (aok_cons trivial aok_nil)
def mF11 (n : Nat) : Nat → AV := updf (mF10 n) 12 (.inr (some (8, n + 11, 0)))
def mT11 : List RC := mT10 ++ [.inr (0, 5, .inl fun _ => 0)]
theorem len_11 : mT11.length = 11 := by
  show (mT10 ++ [_]).length = 11
  rw [List.length_append, len_10]
  rfl
theorem okF11 {n m : Nat} (h : n + 38 < m) : ∀ j, clA m (mF11 n j) := updf_ok (okF10 h) (fun _ => by show n + 11 < m; omega)
theorem okT11 {m : Nat} : aok m mT11 := aok_app okT10 (aok_cons trivial aok_nil)
def mF12 (n : Nat) : Nat → AV := updf (mF11 n) 13 (.inr (some (8, n + 12, 0)))
def mT12 : List RC := mT11 ++ [.inr (0, 360, .inl fun _ => 0)]
theorem len_12 : mT12.length = 12 := by
  show (mT11 ++ [_]).length = 12
  rw [List.length_append, len_11]
  rfl
theorem okF12 {n m : Nat} (h : n + 38 < m) : ∀ j, clA m (mF12 n j) := updf_ok (okF11 h) (fun _ => by show n + 12 < m; omega)
theorem okT12 {m : Nat} : aok m mT12 := aok_app okT11 (aok_cons trivial aok_nil)
def mF13 (n : Nat) : Nat → AV := updf (mF12 n) 14 (.inr (some (8, n + 13, 0)))
def mT13 : List RC := mT12 ++ [.inr (0, 5, .inl fun _ => 0)]
theorem len_13 : mT13.length = 13 := by
  show (mT12 ++ [_]).length = 13
  rw [List.length_append, len_12]
  rfl
theorem okF13 {n m : Nat} (h : n + 38 < m) : ∀ j, clA m (mF13 n j) := updf_ok (okF12 h) (fun _ => by show n + 13 < m; omega)
theorem okT13 {m : Nat} : aok m mT13 := aok_app okT12 (aok_cons trivial aok_nil)
def mF14 (n : Nat) : Nat → AV := updf (mF13 n) 15 (.inr (some (8, n + 14, 0)))
def mT14 : List RC := mT13 ++ [.inr (0, 5, .inl fun _ => 0)]
theorem len_14 : mT14.length = 14 := by
  show (mT13 ++ [_]).length = 14
  rw [List.length_append, len_13]
  rfl
theorem okF14 {n m : Nat} (h : n + 38 < m) : ∀ j, clA m (mF14 n j) := updf_ok (okF13 h) (fun _ => by show n + 14 < m; omega)
theorem okT14 {m : Nat} : aok m mT14 := aok_app okT13 (aok_cons trivial aok_nil)
def mF15 (n : Nat) : Nat → AV := updf (mF14 n) 16 (.inr (some (8, n + 15, 0)))
def mT15 : List RC := mT14 ++ [.inr (0, 5, .inl fun _ => 0)]
theorem len_15 : mT15.length = 15 := by
  show (mT14 ++ [_]).length = 15
  rw [List.length_append, len_14]
  rfl
theorem okF15 {n m : Nat} (h : n + 38 < m) : ∀ j, clA m (mF15 n j) := updf_ok (okF14 h) (fun _ => by show n + 15 < m; omega)
theorem okT15 {m : Nat} : aok m mT15 := aok_app okT14 (aok_cons trivial aok_nil)
def mF16 (n : Nat) : Nat → AV := updf (mF15 n) 17 (.inr (some (8, n + 16, 0)))
def mT16 : List RC := mT15 ++ [.inr (1, 5, .inl fun _ => 0)]
theorem len_16 : mT16.length = 16 := by
  show (mT15 ++ [_]).length = 16
  rw [List.length_append, len_15]
  rfl
theorem okF16 {n m : Nat} (h : n + 38 < m) : ∀ j, clA m (mF16 n j) := updf_ok (okF15 h) (fun _ => by show n + 16 < m; omega)
theorem okT16 {m : Nat} : aok m mT16 := aok_app okT15 (aok_cons trivial aok_nil)
def mF17 (n : Nat) : Nat → AV := updf (mF16 n) 18 (.inr (some (8, n + 17, 0)))
def mT17 : List RC := mT16 ++ [.inr (1, 5, .inl fun _ => 0)]
theorem len_17 : mT17.length = 17 := by
  show (mT16 ++ [_]).length = 17
  rw [List.length_append, len_16]
  rfl
theorem okF17 {n m : Nat} (h : n + 38 < m) : ∀ j, clA m (mF17 n j) := updf_ok (okF16 h) (fun _ => by show n + 17 < m; omega)
theorem okT17 {m : Nat} : aok m mT17 := aok_app okT16 (aok_cons trivial aok_nil)
def mF18 (n : Nat) : Nat → AV := updf (mF17 n) 19 (.inr (some (8, n + 18, 0)))
def mT18 : List RC := mT17 ++ [.inr (1, 5, .inl fun _ => 0)]
theorem len_18 : mT18.length = 18 := by
  show (mT17 ++ [_]).length = 18
  rw [List.length_append, len_17]
  rfl
theorem okF18 {n m : Nat} (h : n + 38 < m) : ∀ j, clA m (mF18 n j) := updf_ok (okF17 h) (fun _ => by show n + 18 < m; omega)
theorem okT18 {m : Nat} : aok m mT18 := aok_app okT17 (aok_cons trivial aok_nil)
def mF19 (n : Nat) : Nat → AV := updf (mF18 n) 20 (.inr (some (8, n + 19, 0)))
def mT19 : List RC := mT18 ++ [.inr (0, 5, .inl fun _ => 0)]
theorem len_19 : mT19.length = 19 := by
  show (mT18 ++ [_]).length = 19
  rw [List.length_append, len_18]
  rfl
theorem okF19 {n m : Nat} (h : n + 38 < m) : ∀ j, clA m (mF19 n j) := updf_ok (okF18 h) (fun _ => by show n + 19 < m; omega)
theorem okT19 {m : Nat} : aok m mT19 := aok_app okT18 (aok_cons trivial aok_nil)
def mF20 (n : Nat) : Nat → AV := updf (mF19 n) 21 (.inr (some (8, n + 20, 0)))
def mT20 : List RC := mT19 ++ [.inr (0, 5, .inl fun _ => 0)]
theorem len_20 : mT20.length = 20 := by
  show (mT19 ++ [_]).length = 20
  rw [List.length_append, len_19]
  rfl
theorem okF20 {n m : Nat} (h : n + 38 < m) : ∀ j, clA m (mF20 n j) := updf_ok (okF19 h) (fun _ => by show n + 20 < m; omega)
theorem okT20 {m : Nat} : aok m mT20 := aok_app okT19 (aok_cons trivial aok_nil)
def mF21 (n : Nat) : Nat → AV := updf (mF20 n) 22 (.inr (some (8, n + 21, 0)))
def mT21 : List RC := mT20 ++ [.inr (0, 5, .inl fun _ => 0)]
theorem len_21 : mT21.length = 21 := by
  show (mT20 ++ [_]).length = 21
  rw [List.length_append, len_20]
  rfl
theorem okF21 {n m : Nat} (h : n + 38 < m) : ∀ j, clA m (mF21 n j) := updf_ok (okF20 h) (fun _ => by show n + 21 < m; omega)
theorem okT21 {m : Nat} : aok m mT21 := aok_app okT20 (aok_cons trivial aok_nil)
def mF22 (n : Nat) : Nat → AV := updf (mF21 n) 23 (.inr (some (8, n + 22, 0)))
def mT22 : List RC := mT21 ++ [.inr (0, 5, .inl fun _ => 0)]
theorem len_22 : mT22.length = 22 := by
  show (mT21 ++ [_]).length = 22
  rw [List.length_append, len_21]
  rfl
theorem okF22 {n m : Nat} (h : n + 38 < m) : ∀ j, clA m (mF22 n j) := updf_ok (okF21 h) (fun _ => by show n + 22 < m; omega)
theorem okT22 {m : Nat} : aok m mT22 := aok_app okT21 (aok_cons trivial aok_nil)
def mF23 (n : Nat) : Nat → AV := updf (mF22 n) 24 (.inr (some (8, n + 23, 0)))
def mT23 : List RC := mT22 ++ [.inr (0, 5, .inl fun _ => 0)]
theorem len_23 : mT23.length = 23 := by
  show (mT22 ++ [_]).length = 23
  rw [List.length_append, len_22]
  rfl
theorem okF23 {n m : Nat} (h : n + 38 < m) : ∀ j, clA m (mF23 n j) := updf_ok (okF22 h) (fun _ => by show n + 23 < m; omega)
theorem okT23 {m : Nat} : aok m mT23 := aok_app okT22 (aok_cons trivial aok_nil)
def mF24 (n : Nat) : Nat → AV := updf (mF23 n) 25 (.inr (some (8, n + 24, 0)))
def mT24 : List RC := mT23 ++ [.inr (0, 30, .inl fun _ => 0)]
theorem len_24 : mT24.length = 24 := by
  show (mT23 ++ [_]).length = 24
  rw [List.length_append, len_23]
  rfl
theorem okF24 {n m : Nat} (h : n + 38 < m) : ∀ j, clA m (mF24 n j) := updf_ok (okF23 h) (fun _ => by show n + 24 < m; omega)
theorem okT24 {m : Nat} : aok m mT24 := aok_app okT23 (aok_cons trivial aok_nil)
def mF25 (n : Nat) : Nat → AV := updf (mF24 n) 27 (.inr (some (8, n + 25, 0)))
def mT25 : List RC := mT24 ++ [.inr (0, 40, .inl fun _ => 0)]
theorem len_25 : mT25.length = 25 := by
  show (mT24 ++ [_]).length = 25
  rw [List.length_append, len_24]
  rfl
theorem okF25 {n m : Nat} (h : n + 38 < m) : ∀ j, clA m (mF25 n j) := updf_ok (okF24 h) (fun _ => by show n + 25 < m; omega)
theorem okT25 {m : Nat} : aok m mT25 := aok_app okT24 (aok_cons trivial aok_nil)
def mF26 (n : Nat) : Nat → AV := updf (mF25 n) 28 (.inr (some (8, n + 26, 0)))
def mT26 : List RC := mT25 ++ [.inr (0, 40, .inl fun _ => 0)]
theorem len_26 : mT26.length = 26 := by
  show (mT25 ++ [_]).length = 26
  rw [List.length_append, len_25]
  rfl
theorem okF26 {n m : Nat} (h : n + 38 < m) : ∀ j, clA m (mF26 n j) := updf_ok (okF25 h) (fun _ => by show n + 26 < m; omega)
theorem okT26 {m : Nat} : aok m mT26 := aok_app okT25 (aok_cons trivial aok_nil)
def mF27 (n : Nat) : Nat → AV := updf (mF26 n) 29 (.inr (some (8, n + 27, 0)))
def mT27 : List RC := mT26 ++ [.inr (0, 32, .inl fun _ => 0)]
theorem len_27 : mT27.length = 27 := by
  show (mT26 ++ [_]).length = 27
  rw [List.length_append, len_26]
  rfl
theorem okF27 {n m : Nat} (h : n + 38 < m) : ∀ j, clA m (mF27 n j) := updf_ok (okF26 h) (fun _ => by show n + 27 < m; omega)
theorem okT27 {m : Nat} : aok m mT27 := aok_app okT26 (aok_cons trivial aok_nil)
def mF28 (n : Nat) : Nat → AV := updf (mF27 n) 30 (.inr (some (8, n + 28, 0)))
def mT28 : List RC := mT27 ++ [.inr (1, 5, .inl fun _ => 0)]
theorem len_28 : mT28.length = 28 := by
  show (mT27 ++ [_]).length = 28
  rw [List.length_append, len_27]
  rfl
theorem okF28 {n m : Nat} (h : n + 38 < m) : ∀ j, clA m (mF28 n j) := updf_ok (okF27 h) (fun _ => by show n + 28 < m; omega)
theorem okT28 {m : Nat} : aok m mT28 := aok_app okT27 (aok_cons trivial aok_nil)
def mF29 (n : Nat) : Nat → AV := updf (mF28 n) 31 (.inr (some (8, n + 29, 0)))
def mT29 : List RC := mT28 ++ [.inr (0, 5, .inl fun _ => 0)]
theorem len_29 : mT29.length = 29 := by
  show (mT28 ++ [_]).length = 29
  rw [List.length_append, len_28]
  rfl
theorem okF29 {n m : Nat} (h : n + 38 < m) : ∀ j, clA m (mF29 n j) := updf_ok (okF28 h) (fun _ => by show n + 29 < m; omega)
theorem okT29 {m : Nat} : aok m mT29 := aok_app okT28 (aok_cons trivial aok_nil)
def mF30 (n : Nat) : Nat → AV := updf (mF29 n) 32 (.inr (some (8, n + 30, 0)))
def mT30 : List RC := mT29 ++ [.inr (0, 5, .inl fun _ => 0)]
theorem len_30 : mT30.length = 30 := by
  show (mT29 ++ [_]).length = 30
  rw [List.length_append, len_29]
  rfl
theorem okF30 {n m : Nat} (h : n + 38 < m) : ∀ j, clA m (mF30 n j) := updf_ok (okF29 h) (fun _ => by show n + 30 < m; omega)
theorem okT30 {m : Nat} : aok m mT30 := aok_app okT29 (aok_cons trivial aok_nil)
def mF31 (n : Nat) : Nat → AV := updf (mF30 n) 33 (.inr (some (8, n + 31, 0)))
def mT31 : List RC := mT30 ++ [.inr (1, 5, .inl fun _ => 0)]
theorem len_31 : mT31.length = 31 := by
  show (mT30 ++ [_]).length = 31
  rw [List.length_append, len_30]
  rfl
theorem okF31 {n m : Nat} (h : n + 38 < m) : ∀ j, clA m (mF31 n j) := updf_ok (okF30 h) (fun _ => by show n + 31 < m; omega)
theorem okT31 {m : Nat} : aok m mT31 := aok_app okT30 (aok_cons trivial aok_nil)
def mF32 (n : Nat) : Nat → AV := updf (mF31 n) 34 (.inr (some (8, n + 32, 0)))
def mT32 : List RC := mT31 ++ [.inr (0, 15000, .inl fun _ => 0)]
theorem len_32 : mT32.length = 32 := by
  show (mT31 ++ [_]).length = 32
  rw [List.length_append, len_31]
  rfl
theorem okF32 {n m : Nat} (h : n + 38 < m) : ∀ j, clA m (mF32 n j) := updf_ok (okF31 h) (fun _ => by show n + 32 < m; omega)
theorem okT32 {m : Nat} : aok m mT32 := aok_app okT31 (aok_cons trivial aok_nil)
def mF33 (n : Nat) : Nat → AV := updf (mF32 n) 35 (.inr (some (8, n + 33, 0)))
def mT33 : List RC := mT32 ++ [.inr (0, 5, .inl fun _ => 0)]
theorem len_33 : mT33.length = 33 := by
  show (mT32 ++ [_]).length = 33
  rw [List.length_append, len_32]
  rfl
theorem okF33 {n m : Nat} (h : n + 38 < m) : ∀ j, clA m (mF33 n j) := updf_ok (okF32 h) (fun _ => by show n + 33 < m; omega)
theorem okT33 {m : Nat} : aok m mT33 := aok_app okT32 (aok_cons trivial aok_nil)
def mF34 (n : Nat) : Nat → AV := updf (mF33 n) 36 (.inr (some (8, n + 34, 0)))
def mT34 : List RC := mT33 ++ [.inr (0, 15000, .inl fun _ => 0)]
theorem len_34 : mT34.length = 34 := by
  show (mT33 ++ [_]).length = 34
  rw [List.length_append, len_33]
  rfl
theorem okF34 {n m : Nat} (h : n + 38 < m) : ∀ j, clA m (mF34 n j) := updf_ok (okF33 h) (fun _ => by show n + 34 < m; omega)
theorem okT34 {m : Nat} : aok m mT34 := aok_app okT33 (aok_cons trivial aok_nil)
def mF35 (n : Nat) : Nat → AV := updf (mF34 n) 37 (.inr (some (8, n + 35, 0)))
def mT35 : List RC := mT34 ++ [.inr (0, 5, .inl fun _ => 0)]
theorem len_35 : mT35.length = 35 := by
  show (mT34 ++ [_]).length = 35
  rw [List.length_append, len_34]
  rfl
theorem okF35 {n m : Nat} (h : n + 38 < m) : ∀ j, clA m (mF35 n j) := updf_ok (okF34 h) (fun _ => by show n + 35 < m; omega)
theorem okT35 {m : Nat} : aok m mT35 := aok_app okT34 (aok_cons trivial aok_nil)
def mF36 (n : Nat) : Nat → AV := updf (mF35 n) 38 (.inr (some (8, n + 36, 0)))
def mT36 : List RC := mT35 ++ [.inr (1, 2, .inl fun _ => 0)]
theorem len_36 : mT36.length = 36 := by
  show (mT35 ++ [_]).length = 36
  rw [List.length_append, len_35]
  rfl
theorem okF36 {n m : Nat} (h : n + 38 < m) : ∀ j, clA m (mF36 n j) := updf_ok (okF35 h) (fun _ => by show n + 36 < m; omega)
theorem okT36 {m : Nat} : aok m mT36 := aok_app okT35 (aok_cons trivial aok_nil)
def mF37 (n : Nat) : Nat → AV := updf (mF36 n) 39 (.inr (some (8, n + 37, 0)))
def mT37 : List RC := mT36 ++ [.inr (0, 2, .inl (upd (upd (fun _ => 0) 0 (-1)) 1 (-1)))]
theorem len_37 : mT37.length = 37 := by
  show (mT36 ++ [_]).length = 37
  rw [List.length_append, len_36]
  rfl
theorem okF37 {n m : Nat} (h : n + 38 < m) : ∀ j, clA m (mF37 n j) := updf_ok (okF36 h) (fun _ => by show n + 37 < m; omega)
theorem okT37 {m : Nat} : aok m mT37 := aok_app okT36 (aok_cons trivial aok_nil)
def mF38 (n : Nat) : Nat → AV := updf (mF37 n) 40 (.inr (some (8, n + 38, 0)))
def mT38 : List RC := mT37 ++ [.inr (0, 2, .inl fun _ => 0)]
theorem len_38 : mT38.length = 38 := by
  show (mT37 ++ [_]).length = 38
  rw [List.length_append, len_37]
  rfl
theorem okF38 {n m : Nat} (h : n + 38 < m) : ∀ j, clA m (mF38 n j) := updf_ok (okF37 h) (fun _ => by show n + 38 < m; omega)
theorem okT38 {m : Nat} : aok m mT38 := aok_app okT37 (aok_cons trivial aok_nil)
set_option maxHeartbeats 4000000 in
set_option maxRecDepth 100000 in
theorem stepM_0 {l : Launch} {X : MX} {B : BX (EE × K)} {g : GP} {E0 : EE} {L : List RC} {κ : K} (O : CK l X B g cX11_init RX11 1 12) (hKP : KPok B (cst E0 L 11 (mF0 L.length) mT0)) (hname : B.2.2.2.2.2.2.2.2 X → MXn X = "<init>") (hR : rawOK (cst E0 L 11 (mF0 L.length) mT0)) (kk : rawOK (cst E0 L 11 (mF1 L.length) mT1) → J X B (cst E0 L 11 (mF1 L.length) mT1, addC κ 1 275) 13 [(0, .inr (some (8, L.length, 0)))] []) : J X B (cst E0 L 11 (mF0 L.length) mT0, addC κ 0 0) 4 [(0, .inr (some (8, L.length, 0)))] [] := by
  refine J_aload_n O.mo dX11_init_4 0 rfl ?_
  refine J_sipush O.mo (v := 275) dX11_init_5 (by decide) ?_
  refine J_cNewa O (KPc hKP) hR (d := 1) (congrArg (· + 1) len_0) (atype := .int) (ty := .int) (ai := 0) (ct := .inl fun _ => 0) (N := 275) rfl (fun _ => rfl) (fun _ _ _ => ⟨_, rfl, rfl⟩) (fun _ => trivial) mw_arrI (by decide) (by decide) (Nat.le_of_ble_eq_true rfl) (sl_p (stL2 (t := 0) len_0 (by omega)) sl_0) (st_p (stL2 (t := 0) len_0 (by omega)) st_0) dX11_init_8 (fun hR => ?_)
  rw [addC_add]
  change J X B (cst E0 L 11 (mF0 L.length) mT1, addC κ 1 275) 10 [(0, .inr (some (8, L.length, 0)))] [.inr (some (8, L.length + 1, 0)), .inr (some (8, L.length, 0))]
  change rawOK (cst E0 L 11 (mF0 L.length) mT1) at hR
  refine J_cPut O hname hR (C := RX11) (Tt := TX11) (N := 42) rfl rfl in_X11 tyX11 tyX11_ok nmX11 1 (by decide) (v := .inr (some (8, L.length + 1, 0))) (v' := .inr (some (8, L.length + 1, 0))) (clL (t := 1) len_1 (by omega)) rfl (fun _ => ⟨rfl, rfl⟩) (Or.inr rfl) mw545 rfl dX11_init_10 (fun hR => kk hR)
set_option maxHeartbeats 4000000 in
set_option maxRecDepth 100000 in
theorem stepM_1 {l : Launch} {X : MX} {B : BX (EE × K)} {g : GP} {E0 : EE} {L : List RC} {κ : K} (O : CK l X B g cX11_init RX11 1 12) (hKP : KPok B (cst E0 L 11 (mF0 L.length) mT0)) (hname : B.2.2.2.2.2.2.2.2 X → MXn X = "<init>") (hR : rawOK (cst E0 L 11 (mF1 L.length) mT1)) (kk : rawOK (cst E0 L 11 (mF2 L.length) mT2) → J X B (cst E0 L 11 (mF2 L.length) mT2, addC κ 2 2835) 22 [(0, .inr (some (8, L.length, 0)))] []) : J X B (cst E0 L 11 (mF1 L.length) mT1, addC κ 1 275) 13 [(0, .inr (some (8, L.length, 0)))] [] := by
  refine J_aload_n O.mo dX11_init_13 0 rfl ?_
  refine J_sipush O.mo (v := 2560) dX11_init_14 (by decide) ?_
  refine J_cNewa O (KPc hKP) hR (d := 2) (congrArg (· + 1) len_1) (atype := .int) (ty := .int) (ai := 0) (ct := .inl fun _ => 0) (N := 2560) rfl (fun _ => rfl) (fun _ _ _ => ⟨_, rfl, rfl⟩) (fun _ => trivial) mw_arrI (by decide) (by decide) (Nat.le_of_ble_eq_true rfl) (sl_p (stL2 (t := 1) len_1 (by omega)) sl_0) (st_p (stL2 (t := 1) len_1 (by omega)) st_0) dX11_init_17 (fun hR => ?_)
  rw [addC_add]
  change J X B (cst E0 L 11 (mF1 L.length) mT2, addC κ 2 2835) 19 [(0, .inr (some (8, L.length, 0)))] [.inr (some (8, L.length + 2, 0)), .inr (some (8, L.length, 0))]
  change rawOK (cst E0 L 11 (mF1 L.length) mT2) at hR
  refine J_cPut O hname hR (C := RX11) (Tt := TX11) (N := 42) rfl rfl in_X11 tyX11 tyX11_ok nmX11 2 (by decide) (v := .inr (some (8, L.length + 2, 0))) (v' := .inr (some (8, L.length + 2, 0))) (clL (t := 2) len_2 (by omega)) rfl (fun _ => ⟨rfl, rfl⟩) (Or.inr rfl) mw555 rfl dX11_init_19 (fun hR => kk hR)
set_option maxHeartbeats 4000000 in
set_option maxRecDepth 100000 in
theorem stepM_2 {l : Launch} {X : MX} {B : BX (EE × K)} {g : GP} {E0 : EE} {L : List RC} {κ : K} (O : CK l X B g cX11_init RX11 1 12) (hKP : KPok B (cst E0 L 11 (mF0 L.length) mT0)) (hname : B.2.2.2.2.2.2.2.2 X → MXn X = "<init>") (hR : rawOK (cst E0 L 11 (mF2 L.length) mT2)) (kk : rawOK (cst E0 L 11 (mF3 L.length) mT3) → J X B (cst E0 L 11 (mF3 L.length) mT3, addC κ 3 3110) 31 [(0, .inr (some (8, L.length, 0)))] []) : J X B (cst E0 L 11 (mF2 L.length) mT2, addC κ 2 2835) 22 [(0, .inr (some (8, L.length, 0)))] [] := by
  refine J_aload_n O.mo dX11_init_22 0 rfl ?_
  refine J_sipush O.mo (v := 275) dX11_init_23 (by decide) ?_
  refine J_cNewa O (KPc hKP) hR (d := 3) (congrArg (· + 1) len_2) (atype := .int) (ty := .int) (ai := 0) (ct := .inl fun _ => 0) (N := 275) rfl (fun _ => rfl) (fun _ _ _ => ⟨_, rfl, rfl⟩) (fun _ => trivial) mw_arrI (by decide) (by decide) (Nat.le_of_ble_eq_true rfl) (sl_p (stL2 (t := 2) len_2 (by omega)) sl_0) (st_p (stL2 (t := 2) len_2 (by omega)) st_0) dX11_init_26 (fun hR => ?_)
  rw [addC_add]
  change J X B (cst E0 L 11 (mF2 L.length) mT3, addC κ 3 3110) 28 [(0, .inr (some (8, L.length, 0)))] [.inr (some (8, L.length + 3, 0)), .inr (some (8, L.length, 0))]
  change rawOK (cst E0 L 11 (mF2 L.length) mT3) at hR
  refine J_cPut O hname hR (C := RX11) (Tt := TX11) (N := 42) rfl rfl in_X11 tyX11 tyX11_ok nmX11 3 (by decide) (v := .inr (some (8, L.length + 3, 0))) (v' := .inr (some (8, L.length + 3, 0))) (clL (t := 3) len_3 (by omega)) rfl (fun _ => ⟨rfl, rfl⟩) (Or.inr rfl) mw665 rfl dX11_init_28 (fun hR => kk hR)
set_option maxHeartbeats 4000000 in
set_option maxRecDepth 100000 in
theorem stepM_3 {l : Launch} {X : MX} {B : BX (EE × K)} {g : GP} {E0 : EE} {L : List RC} {κ : K} (O : CK l X B g cX11_init RX11 1 12) (hKP : KPok B (cst E0 L 11 (mF0 L.length) mT0)) (hname : B.2.2.2.2.2.2.2.2 X → MXn X = "<init>") (hR : rawOK (cst E0 L 11 (mF3 L.length) mT3)) (kk : rawOK (cst E0 L 11 (mF4 L.length) mT4) → J X B (cst E0 L 11 (mF4 L.length) mT4, addC κ 4 5670) 40 [(0, .inr (some (8, L.length, 0)))] []) : J X B (cst E0 L 11 (mF3 L.length) mT3, addC κ 3 3110) 31 [(0, .inr (some (8, L.length, 0)))] [] := by
  refine J_aload_n O.mo dX11_init_31 0 rfl ?_
  refine J_sipush O.mo (v := 2560) dX11_init_32 (by decide) ?_
  refine J_cNewa O (KPc hKP) hR (d := 4) (congrArg (· + 1) len_3) (atype := .int) (ty := .int) (ai := 0) (ct := .inl fun _ => 0) (N := 2560) rfl (fun _ => rfl) (fun _ _ _ => ⟨_, rfl, rfl⟩) (fun _ => trivial) mw_arrI (by decide) (by decide) (Nat.le_of_ble_eq_true rfl) (sl_p (stL2 (t := 3) len_3 (by omega)) sl_0) (st_p (stL2 (t := 3) len_3 (by omega)) st_0) dX11_init_35 (fun hR => ?_)
  rw [addC_add]
  change J X B (cst E0 L 11 (mF3 L.length) mT4, addC κ 4 5670) 37 [(0, .inr (some (8, L.length, 0)))] [.inr (some (8, L.length + 4, 0)), .inr (some (8, L.length, 0))]
  change rawOK (cst E0 L 11 (mF3 L.length) mT4) at hR
  refine J_cPut O hname hR (C := RX11) (Tt := TX11) (N := 42) rfl rfl in_X11 tyX11 tyX11_ok nmX11 4 (by decide) (v := .inr (some (8, L.length + 4, 0))) (v' := .inr (some (8, L.length + 4, 0))) (clL (t := 4) len_4 (by omega)) rfl (fun _ => ⟨rfl, rfl⟩) (Or.inr rfl) mw666 rfl dX11_init_37 (fun hR => kk hR)
set_option maxHeartbeats 4000000 in
set_option maxRecDepth 100000 in
theorem stepM_4 {l : Launch} {X : MX} {B : BX (EE × K)} {g : GP} {E0 : EE} {L : List RC} {κ : K} (O : CK l X B g cX11_init RX11 1 12) (hKP : KPok B (cst E0 L 11 (mF0 L.length) mT0)) (hname : B.2.2.2.2.2.2.2.2 X → MXn X = "<init>") (hR : rawOK (cst E0 L 11 (mF4 L.length) mT4)) (kk : rawOK (cst E0 L 11 (mF5 L.length) mT5) → J X B (cst E0 L 11 (mF5 L.length) mT5, addC κ 5 8230) 49 [(0, .inr (some (8, L.length, 0)))] []) : J X B (cst E0 L 11 (mF4 L.length) mT4, addC κ 4 5670) 40 [(0, .inr (some (8, L.length, 0)))] [] := by
  refine J_aload_n O.mo dX11_init_40 0 rfl ?_
  refine J_sipush O.mo (v := 2560) dX11_init_41 (by decide) ?_
  refine J_cNewa O (KPc hKP) hR (d := 5) (congrArg (· + 1) len_4) (atype := .int) (ty := .int) (ai := 0) (ct := .inl fun _ => 0) (N := 2560) rfl (fun _ => rfl) (fun _ _ _ => ⟨_, rfl, rfl⟩) (fun _ => trivial) mw_arrI (by decide) (by decide) (Nat.le_of_ble_eq_true rfl) (sl_p (stL2 (t := 4) len_4 (by omega)) sl_0) (st_p (stL2 (t := 4) len_4 (by omega)) st_0) dX11_init_44 (fun hR => ?_)
  rw [addC_add]
  change J X B (cst E0 L 11 (mF4 L.length) mT5, addC κ 5 8230) 46 [(0, .inr (some (8, L.length, 0)))] [.inr (some (8, L.length + 5, 0)), .inr (some (8, L.length, 0))]
  change rawOK (cst E0 L 11 (mF4 L.length) mT5) at hR
  refine J_cPut O hname hR (C := RX11) (Tt := TX11) (N := 42) rfl rfl in_X11 tyX11 tyX11_ok nmX11 5 (by decide) (v := .inr (some (8, L.length + 5, 0))) (v' := .inr (some (8, L.length + 5, 0))) (clL (t := 5) len_5 (by omega)) rfl (fun _ => ⟨rfl, rfl⟩) (Or.inr rfl) mw626 rfl dX11_init_46 (fun hR => kk hR)
set_option maxHeartbeats 4000000 in
set_option maxRecDepth 100000 in
theorem stepM_5 {l : Launch} {X : MX} {B : BX (EE × K)} {g : GP} {E0 : EE} {L : List RC} {κ : K} (O : CK l X B g cX11_init RX11 1 12) (hKP : KPok B (cst E0 L 11 (mF0 L.length) mT0)) (hname : B.2.2.2.2.2.2.2.2 X → MXn X = "<init>") (hR : rawOK (cst E0 L 11 (mF5 L.length) mT5)) (kk : rawOK (cst E0 L 11 (mF6 L.length) mT6) → J X B (cst E0 L 11 (mF6 L.length) mT6, addC κ 6 8235) 56 [(0, .inr (some (8, L.length, 0)))] []) : J X B (cst E0 L 11 (mF5 L.length) mT5, addC κ 5 8230) 49 [(0, .inr (some (8, L.length, 0)))] [] := by
  refine J_aload_n O.mo dX11_init_49 0 rfl ?_
  refine J_iconst O.mo (v := 5) dX11_init_50 (by decide) ?_
  refine J_cNewa O (KPc hKP) hR (d := 6) (congrArg (· + 1) len_5) (atype := .int) (ty := .int) (ai := 0) (ct := .inl fun _ => 0) (N := 5) rfl (fun _ => rfl) (fun _ _ _ => ⟨_, rfl, rfl⟩) (fun _ => trivial) mw_arrI (by decide) (by decide) (Nat.le_of_ble_eq_true rfl) (sl_p (stL2 (t := 5) len_5 (by omega)) sl_0) (st_p (stL2 (t := 5) len_5 (by omega)) st_0) dX11_init_51 (fun hR => ?_)
  rw [addC_add]
  change J X B (cst E0 L 11 (mF5 L.length) mT6, addC κ 6 8235) 53 [(0, .inr (some (8, L.length, 0)))] [.inr (some (8, L.length + 6, 0)), .inr (some (8, L.length, 0))]
  change rawOK (cst E0 L 11 (mF5 L.length) mT6) at hR
  refine J_cPut O hname hR (C := RX11) (Tt := TX11) (N := 42) rfl rfl in_X11 tyX11 tyX11_ok nmX11 6 (by decide) (v := .inr (some (8, L.length + 6, 0))) (v' := .inr (some (8, L.length + 6, 0))) (clL (t := 6) len_6 (by omega)) rfl (fun _ => ⟨rfl, rfl⟩) (Or.inr rfl) mw627 rfl dX11_init_53 (fun hR => kk hR)
set_option maxHeartbeats 4000000 in
set_option maxRecDepth 100000 in
theorem stepM_6 {l : Launch} {X : MX} {B : BX (EE × K)} {g : GP} {E0 : EE} {L : List RC} {κ : K} (O : CK l X B g cX11_init RX11 1 12) (hKP : KPok B (cst E0 L 11 (mF0 L.length) mT0)) (hname : B.2.2.2.2.2.2.2.2 X → MXn X = "<init>") (hR : rawOK (cst E0 L 11 (mF6 L.length) mT6)) (kk : rawOK (cst E0 L 11 (mF7 L.length) mT7) → J X B (cst E0 L 11 (mF7 L.length) mT7, addC κ 7 8785) 65 [(0, .inr (some (8, L.length, 0)))] []) : J X B (cst E0 L 11 (mF6 L.length) mT6, addC κ 6 8235) 56 [(0, .inr (some (8, L.length, 0)))] [] := by
  refine J_aload_n O.mo dX11_init_56 0 rfl ?_
  refine J_sipush O.mo (v := 550) dX11_init_57 (by decide) ?_
  refine J_cNewa O (KPc hKP) hR (d := 7) (congrArg (· + 1) len_6) (atype := .int) (ty := .int) (ai := 0) (ct := .inl fun _ => 0) (N := 550) rfl (fun _ => rfl) (fun _ _ _ => ⟨_, rfl, rfl⟩) (fun _ => trivial) mw_arrI (by decide) (by decide) (Nat.le_of_ble_eq_true rfl) (sl_p (stL2 (t := 6) len_6 (by omega)) sl_0) (st_p (stL2 (t := 6) len_6 (by omega)) st_0) dX11_init_60 (fun hR => ?_)
  rw [addC_add]
  change J X B (cst E0 L 11 (mF6 L.length) mT7, addC κ 7 8785) 62 [(0, .inr (some (8, L.length, 0)))] [.inr (some (8, L.length + 7, 0)), .inr (some (8, L.length, 0))]
  change rawOK (cst E0 L 11 (mF6 L.length) mT7) at hR
  refine J_cPut O hname hR (C := RX11) (Tt := TX11) (N := 42) rfl rfl in_X11 tyX11 tyX11_ok nmX11 7 (by decide) (v := .inr (some (8, L.length + 7, 0))) (v' := .inr (some (8, L.length + 7, 0))) (clL (t := 7) len_7 (by omega)) rfl (fun _ => ⟨rfl, rfl⟩) (Or.inr rfl) mw653 rfl dX11_init_62 (fun hR => kk hR)
set_option maxHeartbeats 4000000 in
set_option maxRecDepth 100000 in
theorem stepM_7 {l : Launch} {X : MX} {B : BX (EE × K)} {g : GP} {E0 : EE} {L : List RC} {κ : K} (O : CK l X B g cX11_init RX11 1 12) (hKP : KPok B (cst E0 L 11 (mF0 L.length) mT0)) (hname : B.2.2.2.2.2.2.2.2 X → MXn X = "<init>") (hR : rawOK (cst E0 L 11 (mF7 L.length) mT7)) (kk : rawOK (cst E0 L 11 (mF8 L.length) mT8) → J X B (cst E0 L 11 (mF8 L.length) mT8, addC κ 8 13905) 74 [(0, .inr (some (8, L.length, 0)))] []) : J X B (cst E0 L 11 (mF7 L.length) mT7, addC κ 7 8785) 65 [(0, .inr (some (8, L.length, 0)))] [] := by
  refine J_aload_n O.mo dX11_init_65 0 rfl ?_
  refine J_sipush O.mo (v := 5120) dX11_init_66 (by decide) ?_
  refine J_cNewa O (KPc hKP) hR (d := 8) (congrArg (· + 1) len_7) (atype := .int) (ty := .int) (ai := 0) (ct := .inl fun _ => 0) (N := 5120) rfl (fun _ => rfl) (fun _ _ _ => ⟨_, rfl, rfl⟩) (fun _ => trivial) mw_arrI (by decide) (by decide) (Nat.le_of_ble_eq_true rfl) (sl_p (stL2 (t := 7) len_7 (by omega)) sl_0) (st_p (stL2 (t := 7) len_7 (by omega)) st_0) dX11_init_69 (fun hR => ?_)
  rw [addC_add]
  change J X B (cst E0 L 11 (mF7 L.length) mT8, addC κ 8 13905) 71 [(0, .inr (some (8, L.length, 0)))] [.inr (some (8, L.length + 8, 0)), .inr (some (8, L.length, 0))]
  change rawOK (cst E0 L 11 (mF7 L.length) mT8) at hR
  refine J_cPut O hname hR (C := RX11) (Tt := TX11) (N := 42) rfl rfl in_X11 tyX11 tyX11_ok nmX11 8 (by decide) (v := .inr (some (8, L.length + 8, 0))) (v' := .inr (some (8, L.length + 8, 0))) (clL (t := 8) len_8 (by omega)) rfl (fun _ => ⟨rfl, rfl⟩) (Or.inr rfl) mw654 rfl dX11_init_71 (fun hR => kk hR)
set_option maxHeartbeats 4000000 in
set_option maxRecDepth 100000 in
theorem stepM_8 {l : Launch} {X : MX} {B : BX (EE × K)} {g : GP} {E0 : EE} {L : List RC} {κ : K} (O : CK l X B g cX11_init RX11 1 12) (hKP : KPok B (cst E0 L 11 (mF0 L.length) mT0)) (hname : B.2.2.2.2.2.2.2.2 X → MXn X = "<init>") (hR : rawOK (cst E0 L 11 (mF8 L.length) mT8)) (kk : rawOK (cst E0 L 11 (mF9 L.length) mT9) → J X B (cst E0 L 11 (mF9 L.length) mT9, addC κ 9 13915) 82 [(0, .inr (some (8, L.length, 0)))] []) : J X B (cst E0 L 11 (mF8 L.length) mT8, addC κ 8 13905) 74 [(0, .inr (some (8, L.length, 0)))] [] := by
  refine J_aload_n O.mo dX11_init_74 0 rfl ?_
  refine J_bipush O.mo (v := 10) dX11_init_75 (by decide) ?_
  refine J_cNewa O (KPc hKP) hR (d := 9) (congrArg (· + 1) len_8) (atype := .int) (ty := .int) (ai := 0) (ct := .inl fun _ => 0) (N := 10) rfl (fun _ => rfl) (fun _ _ _ => ⟨_, rfl, rfl⟩) (fun _ => trivial) mw_arrI (by decide) (by decide) (Nat.le_of_ble_eq_true rfl) (sl_p (stL2 (t := 8) len_8 (by omega)) sl_0) (st_p (stL2 (t := 8) len_8 (by omega)) st_0) dX11_init_77 (fun hR => ?_)
  rw [addC_add]
  change J X B (cst E0 L 11 (mF8 L.length) mT9, addC κ 9 13915) 79 [(0, .inr (some (8, L.length, 0)))] [.inr (some (8, L.length + 9, 0)), .inr (some (8, L.length, 0))]
  change rawOK (cst E0 L 11 (mF8 L.length) mT9) at hR
  refine J_cPut O hname hR (C := RX11) (Tt := TX11) (N := 42) rfl rfl in_X11 tyX11 tyX11_ok nmX11 9 (by decide) (v := .inr (some (8, L.length + 9, 0))) (v' := .inr (some (8, L.length + 9, 0))) (clL (t := 9) len_9 (by omega)) rfl (fun _ => ⟨rfl, rfl⟩) (Or.inr rfl) mw659 rfl dX11_init_79 (fun hR => kk hR)
set_option maxHeartbeats 4000000 in
set_option maxRecDepth 100000 in
theorem stepM_9 {l : Launch} {X : MX} {B : BX (EE × K)} {g : GP} {E0 : EE} {L : List RC} {κ : K} (O : CK l X B g cX11_init RX11 1 12) (hKP : KPok B (cst E0 L 11 (mF0 L.length) mT0)) (hname : B.2.2.2.2.2.2.2.2 X → MXn X = "<init>") (hR : rawOK (cst E0 L 11 (mF9 L.length) mT9)) (kk : rawOK (cst E0 L 11 (mF10 L.length) mT10) → J X B (cst E0 L 11 (mF10 L.length) mT10, addC κ 10 13925) 90 [(0, .inr (some (8, L.length, 0)))] []) : J X B (cst E0 L 11 (mF9 L.length) mT9, addC κ 9 13915) 82 [(0, .inr (some (8, L.length, 0)))] [] := by
  refine J_aload_n O.mo dX11_init_82 0 rfl ?_
  refine J_bipush O.mo (v := 10) dX11_init_83 (by decide) ?_
  refine J_cNewa O (KPc hKP) hR (d := 10) (congrArg (· + 1) len_9) (atype := .int) (ty := .int) (ai := 0) (ct := .inl fun _ => 0) (N := 10) rfl (fun _ => rfl) (fun _ _ _ => ⟨_, rfl, rfl⟩) (fun _ => trivial) mw_arrI (by decide) (by decide) (Nat.le_of_ble_eq_true rfl) (sl_p (stL2 (t := 9) len_9 (by omega)) sl_0) (st_p (stL2 (t := 9) len_9 (by omega)) st_0) dX11_init_85 (fun hR => ?_)
  rw [addC_add]
  change J X B (cst E0 L 11 (mF9 L.length) mT10, addC κ 10 13925) 87 [(0, .inr (some (8, L.length, 0)))] [.inr (some (8, L.length + 10, 0)), .inr (some (8, L.length, 0))]
  change rawOK (cst E0 L 11 (mF9 L.length) mT10) at hR
  refine J_cPut O hname hR (C := RX11) (Tt := TX11) (N := 42) rfl rfl in_X11 tyX11 tyX11_ok nmX11 10 (by decide) (v := .inr (some (8, L.length + 10, 0))) (v' := .inr (some (8, L.length + 10, 0))) (clL (t := 10) len_10 (by omega)) rfl (fun _ => ⟨rfl, rfl⟩) (Or.inr rfl) mw660 rfl dX11_init_87 (fun hR => kk hR)
set_option maxHeartbeats 4000000 in
set_option maxRecDepth 100000 in
theorem stepM_10 {l : Launch} {X : MX} {B : BX (EE × K)} {g : GP} {E0 : EE} {L : List RC} {κ : K} (O : CK l X B g cX11_init RX11 1 12) (hKP : KPok B (cst E0 L 11 (mF0 L.length) mT0)) (hname : B.2.2.2.2.2.2.2.2 X → MXn X = "<init>") (hR : rawOK (cst E0 L 11 (mF10 L.length) mT10)) (kk : rawOK (cst E0 L 11 (mF11 L.length) mT11) → J X B (cst E0 L 11 (mF11 L.length) mT11, addC κ 11 13930) 97 [(0, .inr (some (8, L.length, 0)))] []) : J X B (cst E0 L 11 (mF10 L.length) mT10, addC κ 10 13925) 90 [(0, .inr (some (8, L.length, 0)))] [] := by
  refine J_aload_n O.mo dX11_init_90 0 rfl ?_
  refine J_iconst O.mo (v := 5) dX11_init_91 (by decide) ?_
  refine J_cNewa O (KPc hKP) hR (d := 11) (congrArg (· + 1) len_10) (atype := .int) (ty := .int) (ai := 0) (ct := .inl fun _ => 0) (N := 5) rfl (fun _ => rfl) (fun _ _ _ => ⟨_, rfl, rfl⟩) (fun _ => trivial) mw_arrI (by decide) (by decide) (Nat.le_of_ble_eq_true rfl) (sl_p (stL2 (t := 10) len_10 (by omega)) sl_0) (st_p (stL2 (t := 10) len_10 (by omega)) st_0) dX11_init_92 (fun hR => ?_)
  rw [addC_add]
  change J X B (cst E0 L 11 (mF10 L.length) mT11, addC κ 11 13930) 94 [(0, .inr (some (8, L.length, 0)))] [.inr (some (8, L.length + 11, 0)), .inr (some (8, L.length, 0))]
  change rawOK (cst E0 L 11 (mF10 L.length) mT11) at hR
  refine J_cPut O hname hR (C := RX11) (Tt := TX11) (N := 42) rfl rfl in_X11 tyX11 tyX11_ok nmX11 12 (by decide) (v := .inr (some (8, L.length + 11, 0))) (v' := .inr (some (8, L.length + 11, 0))) (clL (t := 11) len_11 (by omega)) rfl (fun _ => ⟨rfl, rfl⟩) (Or.inr rfl) mw610 rfl dX11_init_94 (fun hR => kk hR)
set_option maxHeartbeats 4000000 in
set_option maxRecDepth 100000 in
theorem stepM_11 {l : Launch} {X : MX} {B : BX (EE × K)} {g : GP} {E0 : EE} {L : List RC} {κ : K} (O : CK l X B g cX11_init RX11 1 12) (hKP : KPok B (cst E0 L 11 (mF0 L.length) mT0)) (hname : B.2.2.2.2.2.2.2.2 X → MXn X = "<init>") (hR : rawOK (cst E0 L 11 (mF11 L.length) mT11)) (kk : rawOK (cst E0 L 11 (mF12 L.length) mT12) → J X B (cst E0 L 11 (mF12 L.length) mT12, addC κ 12 14290) 106 [(0, .inr (some (8, L.length, 0)))] []) : J X B (cst E0 L 11 (mF11 L.length) mT11, addC κ 11 13930) 97 [(0, .inr (some (8, L.length, 0)))] [] := by
  refine J_aload_n O.mo dX11_init_97 0 rfl ?_
  refine J_sipush O.mo (v := 360) dX11_init_98 (by decide) ?_
  refine J_cNewa O (KPc hKP) hR (d := 12) (congrArg (· + 1) len_11) (atype := .int) (ty := .int) (ai := 0) (ct := .inl fun _ => 0) (N := 360) rfl (fun _ => rfl) (fun _ _ _ => ⟨_, rfl, rfl⟩) (fun _ => trivial) mw_arrI (by decide) (by decide) (Nat.le_of_ble_eq_true rfl) (sl_p (stL2 (t := 11) len_11 (by omega)) sl_0) (st_p (stL2 (t := 11) len_11 (by omega)) st_0) dX11_init_101 (fun hR => ?_)
  rw [addC_add]
  change J X B (cst E0 L 11 (mF11 L.length) mT12, addC κ 12 14290) 103 [(0, .inr (some (8, L.length, 0)))] [.inr (some (8, L.length + 12, 0)), .inr (some (8, L.length, 0))]
  change rawOK (cst E0 L 11 (mF11 L.length) mT12) at hR
  refine J_cPut O hname hR (C := RX11) (Tt := TX11) (N := 42) rfl rfl in_X11 tyX11 tyX11_ok nmX11 13 (by decide) (v := .inr (some (8, L.length + 12, 0))) (v' := .inr (some (8, L.length + 12, 0))) (clL (t := 12) len_12 (by omega)) rfl (fun _ => ⟨rfl, rfl⟩) (Or.inr rfl) mw558 rfl dX11_init_103 (fun hR => kk hR)
set_option maxHeartbeats 4000000 in
set_option maxRecDepth 100000 in
theorem stepM_12 {l : Launch} {X : MX} {B : BX (EE × K)} {g : GP} {E0 : EE} {L : List RC} {κ : K} (O : CK l X B g cX11_init RX11 1 12) (hKP : KPok B (cst E0 L 11 (mF0 L.length) mT0)) (hname : B.2.2.2.2.2.2.2.2 X → MXn X = "<init>") (hR : rawOK (cst E0 L 11 (mF12 L.length) mT12)) (kk : rawOK (cst E0 L 11 (mF13 L.length) mT13) → J X B (cst E0 L 11 (mF13 L.length) mT13, addC κ 13 14295) 113 [(0, .inr (some (8, L.length, 0)))] []) : J X B (cst E0 L 11 (mF12 L.length) mT12, addC κ 12 14290) 106 [(0, .inr (some (8, L.length, 0)))] [] := by
  refine J_aload_n O.mo dX11_init_106 0 rfl ?_
  refine J_iconst O.mo (v := 5) dX11_init_107 (by decide) ?_
  refine J_cNewa O (KPc hKP) hR (d := 13) (congrArg (· + 1) len_12) (atype := .int) (ty := .int) (ai := 0) (ct := .inl fun _ => 0) (N := 5) rfl (fun _ => rfl) (fun _ _ _ => ⟨_, rfl, rfl⟩) (fun _ => trivial) mw_arrI (by decide) (by decide) (Nat.le_of_ble_eq_true rfl) (sl_p (stL2 (t := 12) len_12 (by omega)) sl_0) (st_p (stL2 (t := 12) len_12 (by omega)) st_0) dX11_init_108 (fun hR => ?_)
  rw [addC_add]
  change J X B (cst E0 L 11 (mF12 L.length) mT13, addC κ 13 14295) 110 [(0, .inr (some (8, L.length, 0)))] [.inr (some (8, L.length + 13, 0)), .inr (some (8, L.length, 0))]
  change rawOK (cst E0 L 11 (mF12 L.length) mT13) at hR
  refine J_cPut O hname hR (C := RX11) (Tt := TX11) (N := 42) rfl rfl in_X11 tyX11 tyX11_ok nmX11 14 (by decide) (v := .inr (some (8, L.length + 13, 0))) (v' := .inr (some (8, L.length + 13, 0))) (clL (t := 13) len_13 (by omega)) rfl (fun _ => ⟨rfl, rfl⟩) (Or.inr rfl) mw557 rfl dX11_init_110 (fun hR => kk hR)
set_option maxHeartbeats 4000000 in
set_option maxRecDepth 100000 in
theorem stepM_13 {l : Launch} {X : MX} {B : BX (EE × K)} {g : GP} {E0 : EE} {L : List RC} {κ : K} (O : CK l X B g cX11_init RX11 1 12) (hKP : KPok B (cst E0 L 11 (mF0 L.length) mT0)) (hname : B.2.2.2.2.2.2.2.2 X → MXn X = "<init>") (hR : rawOK (cst E0 L 11 (mF13 L.length) mT13)) (kk : rawOK (cst E0 L 11 (mF14 L.length) mT14) → J X B (cst E0 L 11 (mF14 L.length) mT14, addC κ 14 14300) 120 [(0, .inr (some (8, L.length, 0)))] []) : J X B (cst E0 L 11 (mF13 L.length) mT13, addC κ 13 14295) 113 [(0, .inr (some (8, L.length, 0)))] [] := by
  refine J_aload_n O.mo dX11_init_113 0 rfl ?_
  refine J_iconst O.mo (v := 5) dX11_init_114 (by decide) ?_
  refine J_cNewa O (KPc hKP) hR (d := 14) (congrArg (· + 1) len_13) (atype := .int) (ty := .int) (ai := 0) (ct := .inl fun _ => 0) (N := 5) rfl (fun _ => rfl) (fun _ _ _ => ⟨_, rfl, rfl⟩) (fun _ => trivial) mw_arrI (by decide) (by decide) (Nat.le_of_ble_eq_true rfl) (sl_p (stL2 (t := 13) len_13 (by omega)) sl_0) (st_p (stL2 (t := 13) len_13 (by omega)) st_0) dX11_init_115 (fun hR => ?_)
  rw [addC_add]
  change J X B (cst E0 L 11 (mF13 L.length) mT14, addC κ 14 14300) 117 [(0, .inr (some (8, L.length, 0)))] [.inr (some (8, L.length + 14, 0)), .inr (some (8, L.length, 0))]
  change rawOK (cst E0 L 11 (mF13 L.length) mT14) at hR
  refine J_cPut O hname hR (C := RX11) (Tt := TX11) (N := 42) rfl rfl in_X11 tyX11 tyX11_ok nmX11 15 (by decide) (v := .inr (some (8, L.length + 14, 0))) (v' := .inr (some (8, L.length + 14, 0))) (clL (t := 14) len_14 (by omega)) rfl (fun _ => ⟨rfl, rfl⟩) (Or.inr rfl) mw526 rfl dX11_init_117 (fun hR => kk hR)
set_option maxHeartbeats 4000000 in
set_option maxRecDepth 100000 in
theorem stepM_14 {l : Launch} {X : MX} {B : BX (EE × K)} {g : GP} {E0 : EE} {L : List RC} {κ : K} (O : CK l X B g cX11_init RX11 1 12) (hKP : KPok B (cst E0 L 11 (mF0 L.length) mT0)) (hname : B.2.2.2.2.2.2.2.2 X → MXn X = "<init>") (hR : rawOK (cst E0 L 11 (mF14 L.length) mT14)) (kk : rawOK (cst E0 L 11 (mF15 L.length) mT15) → J X B (cst E0 L 11 (mF15 L.length) mT15, addC κ 15 14305) 127 [(0, .inr (some (8, L.length, 0)))] []) : J X B (cst E0 L 11 (mF14 L.length) mT14, addC κ 14 14300) 120 [(0, .inr (some (8, L.length, 0)))] [] := by
  refine J_aload_n O.mo dX11_init_120 0 rfl ?_
  refine J_iconst O.mo (v := 5) dX11_init_121 (by decide) ?_
  refine J_cNewa O (KPc hKP) hR (d := 15) (congrArg (· + 1) len_14) (atype := .int) (ty := .int) (ai := 0) (ct := .inl fun _ => 0) (N := 5) rfl (fun _ => rfl) (fun _ _ _ => ⟨_, rfl, rfl⟩) (fun _ => trivial) mw_arrI (by decide) (by decide) (Nat.le_of_ble_eq_true rfl) (sl_p (stL2 (t := 14) len_14 (by omega)) sl_0) (st_p (stL2 (t := 14) len_14 (by omega)) st_0) dX11_init_122 (fun hR => ?_)
  rw [addC_add]
  change J X B (cst E0 L 11 (mF14 L.length) mT15, addC κ 15 14305) 124 [(0, .inr (some (8, L.length, 0)))] [.inr (some (8, L.length + 15, 0)), .inr (some (8, L.length, 0))]
  change rawOK (cst E0 L 11 (mF14 L.length) mT15) at hR
  refine J_cPut O hname hR (C := RX11) (Tt := TX11) (N := 42) rfl rfl in_X11 tyX11 tyX11_ok nmX11 16 (by decide) (v := .inr (some (8, L.length + 15, 0))) (v' := .inr (some (8, L.length + 15, 0))) (clL (t := 15) len_15 (by omega)) rfl (fun _ => ⟨rfl, rfl⟩) (Or.inr rfl) mw594 rfl dX11_init_124 (fun hR => kk hR)
set_option maxHeartbeats 4000000 in
set_option maxRecDepth 100000 in
theorem stepM_15 {l : Launch} {X : MX} {B : BX (EE × K)} {g : GP} {E0 : EE} {L : List RC} {κ : K} (O : CK l X B g cX11_init RX11 1 12) (hKP : KPok B (cst E0 L 11 (mF0 L.length) mT0)) (hname : B.2.2.2.2.2.2.2.2 X → MXn X = "<init>") (hR : rawOK (cst E0 L 11 (mF15 L.length) mT15)) (kk : rawOK (cst E0 L 11 (mF16 L.length) mT16) → J X B (cst E0 L 11 (mF16 L.length) mT16, addC κ 16 14310) 134 [(0, .inr (some (8, L.length, 0)))] []) : J X B (cst E0 L 11 (mF15 L.length) mT15, addC κ 15 14305) 127 [(0, .inr (some (8, L.length, 0)))] [] := by
  refine J_aload_n O.mo dX11_init_127 0 rfl ?_
  refine J_iconst O.mo (v := 5) dX11_init_128 (by decide) ?_
  refine J_cNewa O (KPc hKP) hR (d := 16) (congrArg (· + 1) len_15) (atype := .boolean) (ty := .boolean) (ai := 1) (ct := .inl fun _ => 0) (N := 5) rfl (fun _ => rfl) (fun _ _ _ => ⟨_, rfl, rfl⟩) (fun _ => trivial) mw_arrZ (by decide) (by decide) (Nat.le_of_ble_eq_true rfl) (sl_p (stL2 (t := 15) len_15 (by omega)) sl_0) (st_p (stL2 (t := 15) len_15 (by omega)) st_0) dX11_init_129 (fun hR => ?_)
  rw [addC_add]
  change J X B (cst E0 L 11 (mF15 L.length) mT16, addC κ 16 14310) 131 [(0, .inr (some (8, L.length, 0)))] [.inr (some (8, L.length + 16, 0)), .inr (some (8, L.length, 0))]
  change rawOK (cst E0 L 11 (mF15 L.length) mT16) at hR
  refine J_cPut O hname hR (C := RX11) (Tt := TX11) (N := 42) rfl rfl in_X11 tyX11 tyX11_ok nmX11 17 (by decide) (v := .inr (some (8, L.length + 16, 0))) (v' := .inr (some (8, L.length + 16, 0))) (clL (t := 16) len_16 (by omega)) rfl (fun _ => ⟨rfl, rfl⟩) (Or.inr rfl) mw609 rfl dX11_init_131 (fun hR => kk hR)
set_option maxHeartbeats 4000000 in
set_option maxRecDepth 100000 in
theorem stepM_16 {l : Launch} {X : MX} {B : BX (EE × K)} {g : GP} {E0 : EE} {L : List RC} {κ : K} (O : CK l X B g cX11_init RX11 1 12) (hKP : KPok B (cst E0 L 11 (mF0 L.length) mT0)) (hname : B.2.2.2.2.2.2.2.2 X → MXn X = "<init>") (hR : rawOK (cst E0 L 11 (mF16 L.length) mT16)) (kk : rawOK (cst E0 L 11 (mF17 L.length) mT17) → J X B (cst E0 L 11 (mF17 L.length) mT17, addC κ 17 14315) 141 [(0, .inr (some (8, L.length, 0)))] []) : J X B (cst E0 L 11 (mF16 L.length) mT16, addC κ 16 14310) 134 [(0, .inr (some (8, L.length, 0)))] [] := by
  refine J_aload_n O.mo dX11_init_134 0 rfl ?_
  refine J_iconst O.mo (v := 5) dX11_init_135 (by decide) ?_
  refine J_cNewa O (KPc hKP) hR (d := 17) (congrArg (· + 1) len_16) (atype := .boolean) (ty := .boolean) (ai := 1) (ct := .inl fun _ => 0) (N := 5) rfl (fun _ => rfl) (fun _ _ _ => ⟨_, rfl, rfl⟩) (fun _ => trivial) mw_arrZ (by decide) (by decide) (Nat.le_of_ble_eq_true rfl) (sl_p (stL2 (t := 16) len_16 (by omega)) sl_0) (st_p (stL2 (t := 16) len_16 (by omega)) st_0) dX11_init_136 (fun hR => ?_)
  rw [addC_add]
  change J X B (cst E0 L 11 (mF16 L.length) mT17, addC κ 17 14315) 138 [(0, .inr (some (8, L.length, 0)))] [.inr (some (8, L.length + 17, 0)), .inr (some (8, L.length, 0))]
  change rawOK (cst E0 L 11 (mF16 L.length) mT17) at hR
  refine J_cPut O hname hR (C := RX11) (Tt := TX11) (N := 42) rfl rfl in_X11 tyX11 tyX11_ok nmX11 18 (by decide) (v := .inr (some (8, L.length + 17, 0))) (v' := .inr (some (8, L.length + 17, 0))) (clL (t := 17) len_17 (by omega)) rfl (fun _ => ⟨rfl, rfl⟩) (Or.inr rfl) mw587 rfl dX11_init_138 (fun hR => kk hR)
set_option maxHeartbeats 4000000 in
set_option maxRecDepth 100000 in
theorem stepM_17 {l : Launch} {X : MX} {B : BX (EE × K)} {g : GP} {E0 : EE} {L : List RC} {κ : K} (O : CK l X B g cX11_init RX11 1 12) (hKP : KPok B (cst E0 L 11 (mF0 L.length) mT0)) (hname : B.2.2.2.2.2.2.2.2 X → MXn X = "<init>") (hR : rawOK (cst E0 L 11 (mF17 L.length) mT17)) (kk : rawOK (cst E0 L 11 (mF18 L.length) mT18) → J X B (cst E0 L 11 (mF18 L.length) mT18, addC κ 18 14320) 148 [(0, .inr (some (8, L.length, 0)))] []) : J X B (cst E0 L 11 (mF17 L.length) mT17, addC κ 17 14315) 141 [(0, .inr (some (8, L.length, 0)))] [] := by
  refine J_aload_n O.mo dX11_init_141 0 rfl ?_
  refine J_iconst O.mo (v := 5) dX11_init_142 (by decide) ?_
  refine J_cNewa O (KPc hKP) hR (d := 18) (congrArg (· + 1) len_17) (atype := .boolean) (ty := .boolean) (ai := 1) (ct := .inl fun _ => 0) (N := 5) rfl (fun _ => rfl) (fun _ _ _ => ⟨_, rfl, rfl⟩) (fun _ => trivial) mw_arrZ (by decide) (by decide) (Nat.le_of_ble_eq_true rfl) (sl_p (stL2 (t := 17) len_17 (by omega)) sl_0) (st_p (stL2 (t := 17) len_17 (by omega)) st_0) dX11_init_143 (fun hR => ?_)
  rw [addC_add]
  change J X B (cst E0 L 11 (mF17 L.length) mT18, addC κ 18 14320) 145 [(0, .inr (some (8, L.length, 0)))] [.inr (some (8, L.length + 18, 0)), .inr (some (8, L.length, 0))]
  change rawOK (cst E0 L 11 (mF17 L.length) mT18) at hR
  refine J_cPut O hname hR (C := RX11) (Tt := TX11) (N := 42) rfl rfl in_X11 tyX11 tyX11_ok nmX11 19 (by decide) (v := .inr (some (8, L.length + 18, 0))) (v' := .inr (some (8, L.length + 18, 0))) (clL (t := 18) len_18 (by omega)) rfl (fun _ => ⟨rfl, rfl⟩) (Or.inr rfl) mw615 rfl dX11_init_145 (fun hR => kk hR)
set_option maxHeartbeats 4000000 in
set_option maxRecDepth 100000 in
theorem stepM_18 {l : Launch} {X : MX} {B : BX (EE × K)} {g : GP} {E0 : EE} {L : List RC} {κ : K} (O : CK l X B g cX11_init RX11 1 12) (hKP : KPok B (cst E0 L 11 (mF0 L.length) mT0)) (hname : B.2.2.2.2.2.2.2.2 X → MXn X = "<init>") (hR : rawOK (cst E0 L 11 (mF18 L.length) mT18)) (kk : rawOK (cst E0 L 11 (mF19 L.length) mT19) → J X B (cst E0 L 11 (mF19 L.length) mT19, addC κ 19 14325) 155 [(0, .inr (some (8, L.length, 0)))] []) : J X B (cst E0 L 11 (mF18 L.length) mT18, addC κ 18 14320) 148 [(0, .inr (some (8, L.length, 0)))] [] := by
  refine J_aload_n O.mo dX11_init_148 0 rfl ?_
  refine J_iconst O.mo (v := 5) dX11_init_149 (by decide) ?_
  refine J_cNewa O (KPc hKP) hR (d := 19) (congrArg (· + 1) len_18) (atype := .int) (ty := .int) (ai := 0) (ct := .inl fun _ => 0) (N := 5) rfl (fun _ => rfl) (fun _ _ _ => ⟨_, rfl, rfl⟩) (fun _ => trivial) mw_arrI (by decide) (by decide) (Nat.le_of_ble_eq_true rfl) (sl_p (stL2 (t := 18) len_18 (by omega)) sl_0) (st_p (stL2 (t := 18) len_18 (by omega)) st_0) dX11_init_150 (fun hR => ?_)
  rw [addC_add]
  change J X B (cst E0 L 11 (mF18 L.length) mT19, addC κ 19 14325) 152 [(0, .inr (some (8, L.length, 0)))] [.inr (some (8, L.length + 19, 0)), .inr (some (8, L.length, 0))]
  change rawOK (cst E0 L 11 (mF18 L.length) mT19) at hR
  refine J_cPut O hname hR (C := RX11) (Tt := TX11) (N := 42) rfl rfl in_X11 tyX11 tyX11_ok nmX11 20 (by decide) (v := .inr (some (8, L.length + 19, 0))) (v' := .inr (some (8, L.length + 19, 0))) (clL (t := 19) len_19 (by omega)) rfl (fun _ => ⟨rfl, rfl⟩) (Or.inr rfl) mw521 rfl dX11_init_152 (fun hR => kk hR)
set_option maxHeartbeats 4000000 in
set_option maxRecDepth 100000 in
theorem stepM_19 {l : Launch} {X : MX} {B : BX (EE × K)} {g : GP} {E0 : EE} {L : List RC} {κ : K} (O : CK l X B g cX11_init RX11 1 12) (hKP : KPok B (cst E0 L 11 (mF0 L.length) mT0)) (hname : B.2.2.2.2.2.2.2.2 X → MXn X = "<init>") (hR : rawOK (cst E0 L 11 (mF19 L.length) mT19)) (kk : rawOK (cst E0 L 11 (mF20 L.length) mT20) → J X B (cst E0 L 11 (mF20 L.length) mT20, addC κ 20 14330) 162 [(0, .inr (some (8, L.length, 0)))] []) : J X B (cst E0 L 11 (mF19 L.length) mT19, addC κ 19 14325) 155 [(0, .inr (some (8, L.length, 0)))] [] := by
  refine J_aload_n O.mo dX11_init_155 0 rfl ?_
  refine J_iconst O.mo (v := 5) dX11_init_156 (by decide) ?_
  refine J_cNewa O (KPc hKP) hR (d := 20) (congrArg (· + 1) len_19) (atype := .int) (ty := .int) (ai := 0) (ct := .inl fun _ => 0) (N := 5) rfl (fun _ => rfl) (fun _ _ _ => ⟨_, rfl, rfl⟩) (fun _ => trivial) mw_arrI (by decide) (by decide) (Nat.le_of_ble_eq_true rfl) (sl_p (stL2 (t := 19) len_19 (by omega)) sl_0) (st_p (stL2 (t := 19) len_19 (by omega)) st_0) dX11_init_157 (fun hR => ?_)
  rw [addC_add]
  change J X B (cst E0 L 11 (mF19 L.length) mT20, addC κ 20 14330) 159 [(0, .inr (some (8, L.length, 0)))] [.inr (some (8, L.length + 20, 0)), .inr (some (8, L.length, 0))]
  change rawOK (cst E0 L 11 (mF19 L.length) mT20) at hR
  refine J_cPut O hname hR (C := RX11) (Tt := TX11) (N := 42) rfl rfl in_X11 tyX11 tyX11_ok nmX11 21 (by decide) (v := .inr (some (8, L.length + 20, 0))) (v' := .inr (some (8, L.length + 20, 0))) (clL (t := 20) len_20 (by omega)) rfl (fun _ => ⟨rfl, rfl⟩) (Or.inr rfl) mw522 rfl dX11_init_159 (fun hR => kk hR)
set_option maxHeartbeats 4000000 in
set_option maxRecDepth 100000 in
theorem stepM_20 {l : Launch} {X : MX} {B : BX (EE × K)} {g : GP} {E0 : EE} {L : List RC} {κ : K} (O : CK l X B g cX11_init RX11 1 12) (hKP : KPok B (cst E0 L 11 (mF0 L.length) mT0)) (hname : B.2.2.2.2.2.2.2.2 X → MXn X = "<init>") (hR : rawOK (cst E0 L 11 (mF20 L.length) mT20)) (kk : rawOK (cst E0 L 11 (mF21 L.length) mT21) → J X B (cst E0 L 11 (mF21 L.length) mT21, addC κ 21 14335) 169 [(0, .inr (some (8, L.length, 0)))] []) : J X B (cst E0 L 11 (mF20 L.length) mT20, addC κ 20 14330) 162 [(0, .inr (some (8, L.length, 0)))] [] := by
  refine J_aload_n O.mo dX11_init_162 0 rfl ?_
  refine J_iconst O.mo (v := 5) dX11_init_163 (by decide) ?_
  refine J_cNewa O (KPc hKP) hR (d := 21) (congrArg (· + 1) len_20) (atype := .int) (ty := .int) (ai := 0) (ct := .inl fun _ => 0) (N := 5) rfl (fun _ => rfl) (fun _ _ _ => ⟨_, rfl, rfl⟩) (fun _ => trivial) mw_arrI (by decide) (by decide) (Nat.le_of_ble_eq_true rfl) (sl_p (stL2 (t := 20) len_20 (by omega)) sl_0) (st_p (stL2 (t := 20) len_20 (by omega)) st_0) dX11_init_164 (fun hR => ?_)
  rw [addC_add]
  change J X B (cst E0 L 11 (mF20 L.length) mT21, addC κ 21 14335) 166 [(0, .inr (some (8, L.length, 0)))] [.inr (some (8, L.length + 21, 0)), .inr (some (8, L.length, 0))]
  change rawOK (cst E0 L 11 (mF20 L.length) mT21) at hR
  refine J_cPut O hname hR (C := RX11) (Tt := TX11) (N := 42) rfl rfl in_X11 tyX11 tyX11_ok nmX11 22 (by decide) (v := .inr (some (8, L.length + 21, 0))) (v' := .inr (some (8, L.length + 21, 0))) (clL (t := 21) len_21 (by omega)) rfl (fun _ => ⟨rfl, rfl⟩) (Or.inr rfl) mw520 rfl dX11_init_166 (fun hR => kk hR)
set_option maxHeartbeats 4000000 in
set_option maxRecDepth 100000 in
theorem stepM_21 {l : Launch} {X : MX} {B : BX (EE × K)} {g : GP} {E0 : EE} {L : List RC} {κ : K} (O : CK l X B g cX11_init RX11 1 12) (hKP : KPok B (cst E0 L 11 (mF0 L.length) mT0)) (hname : B.2.2.2.2.2.2.2.2 X → MXn X = "<init>") (hR : rawOK (cst E0 L 11 (mF21 L.length) mT21)) (kk : rawOK (cst E0 L 11 (mF22 L.length) mT22) → J X B (cst E0 L 11 (mF22 L.length) mT22, addC κ 22 14340) 176 [(0, .inr (some (8, L.length, 0)))] []) : J X B (cst E0 L 11 (mF21 L.length) mT21, addC κ 21 14335) 169 [(0, .inr (some (8, L.length, 0)))] [] := by
  refine J_aload_n O.mo dX11_init_169 0 rfl ?_
  refine J_iconst O.mo (v := 5) dX11_init_170 (by decide) ?_
  refine J_cNewa O (KPc hKP) hR (d := 22) (congrArg (· + 1) len_21) (atype := .int) (ty := .int) (ai := 0) (ct := .inl fun _ => 0) (N := 5) rfl (fun _ => rfl) (fun _ _ _ => ⟨_, rfl, rfl⟩) (fun _ => trivial) mw_arrI (by decide) (by decide) (Nat.le_of_ble_eq_true rfl) (sl_p (stL2 (t := 21) len_21 (by omega)) sl_0) (st_p (stL2 (t := 21) len_21 (by omega)) st_0) dX11_init_171 (fun hR => ?_)
  rw [addC_add]
  change J X B (cst E0 L 11 (mF21 L.length) mT22, addC κ 22 14340) 173 [(0, .inr (some (8, L.length, 0)))] [.inr (some (8, L.length + 22, 0)), .inr (some (8, L.length, 0))]
  change rawOK (cst E0 L 11 (mF21 L.length) mT22) at hR
  refine J_cPut O hname hR (C := RX11) (Tt := TX11) (N := 42) rfl rfl in_X11 tyX11 tyX11_ok nmX11 23 (by decide) (v := .inr (some (8, L.length + 22, 0))) (v' := .inr (some (8, L.length + 22, 0))) (clL (t := 22) len_22 (by omega)) rfl (fun _ => ⟨rfl, rfl⟩) (Or.inr rfl) mw604 rfl dX11_init_173 (fun hR => kk hR)
set_option maxHeartbeats 4000000 in
set_option maxRecDepth 100000 in
theorem stepM_22 {l : Launch} {X : MX} {B : BX (EE × K)} {g : GP} {E0 : EE} {L : List RC} {κ : K} (O : CK l X B g cX11_init RX11 1 12) (hKP : KPok B (cst E0 L 11 (mF0 L.length) mT0)) (hname : B.2.2.2.2.2.2.2.2 X → MXn X = "<init>") (hR : rawOK (cst E0 L 11 (mF22 L.length) mT22)) (kk : rawOK (cst E0 L 11 (mF23 L.length) mT23) → J X B (cst E0 L 11 (mF23 L.length) mT23, addC κ 23 14345) 183 [(0, .inr (some (8, L.length, 0)))] []) : J X B (cst E0 L 11 (mF22 L.length) mT22, addC κ 22 14340) 176 [(0, .inr (some (8, L.length, 0)))] [] := by
  refine J_aload_n O.mo dX11_init_176 0 rfl ?_
  refine J_iconst O.mo (v := 5) dX11_init_177 (by decide) ?_
  refine J_cNewa O (KPc hKP) hR (d := 23) (congrArg (· + 1) len_22) (atype := .int) (ty := .int) (ai := 0) (ct := .inl fun _ => 0) (N := 5) rfl (fun _ => rfl) (fun _ _ _ => ⟨_, rfl, rfl⟩) (fun _ => trivial) mw_arrI (by decide) (by decide) (Nat.le_of_ble_eq_true rfl) (sl_p (stL2 (t := 22) len_22 (by omega)) sl_0) (st_p (stL2 (t := 22) len_22 (by omega)) st_0) dX11_init_178 (fun hR => ?_)
  rw [addC_add]
  change J X B (cst E0 L 11 (mF22 L.length) mT23, addC κ 23 14345) 180 [(0, .inr (some (8, L.length, 0)))] [.inr (some (8, L.length + 23, 0)), .inr (some (8, L.length, 0))]
  change rawOK (cst E0 L 11 (mF22 L.length) mT23) at hR
  refine J_cPut O hname hR (C := RX11) (Tt := TX11) (N := 42) rfl rfl in_X11 tyX11 tyX11_ok nmX11 24 (by decide) (v := .inr (some (8, L.length + 23, 0))) (v' := .inr (some (8, L.length + 23, 0))) (clL (t := 23) len_23 (by omega)) rfl (fun _ => ⟨rfl, rfl⟩) (Or.inr rfl) mw556 rfl dX11_init_180 (fun hR => kk hR)
set_option maxHeartbeats 4000000 in
set_option maxRecDepth 100000 in
theorem stepM_23 {l : Launch} {X : MX} {B : BX (EE × K)} {g : GP} {E0 : EE} {L : List RC} {κ : K} (O : CK l X B g cX11_init RX11 1 12) (hKP : KPok B (cst E0 L 11 (mF0 L.length) mT0)) (hname : B.2.2.2.2.2.2.2.2 X → MXn X = "<init>") (hR : rawOK (cst E0 L 11 (mF23 L.length) mT23)) (kk : rawOK (cst E0 L 11 (mF24 L.length) mT24) → J X B (cst E0 L 11 (mF24 L.length) mT24, addC κ 24 14375) 191 [(0, .inr (some (8, L.length, 0)))] []) : J X B (cst E0 L 11 (mF23 L.length) mT23, addC κ 23 14345) 183 [(0, .inr (some (8, L.length, 0)))] [] := by
  refine J_aload_n O.mo dX11_init_183 0 rfl ?_
  refine J_bipush O.mo (v := 30) dX11_init_184 (by decide) ?_
  refine J_cNewa O (KPc hKP) hR (d := 24) (congrArg (· + 1) len_23) (atype := .int) (ty := .int) (ai := 0) (ct := .inl fun _ => 0) (N := 30) rfl (fun _ => rfl) (fun _ _ _ => ⟨_, rfl, rfl⟩) (fun _ => trivial) mw_arrI (by decide) (by decide) (Nat.le_of_ble_eq_true rfl) (sl_p (stL2 (t := 23) len_23 (by omega)) sl_0) (st_p (stL2 (t := 23) len_23 (by omega)) st_0) dX11_init_186 (fun hR => ?_)
  rw [addC_add]
  change J X B (cst E0 L 11 (mF23 L.length) mT24, addC κ 24 14375) 188 [(0, .inr (some (8, L.length, 0)))] [.inr (some (8, L.length + 24, 0)), .inr (some (8, L.length, 0))]
  change rawOK (cst E0 L 11 (mF23 L.length) mT24) at hR
  refine J_cPut O hname hR (C := RX11) (Tt := TX11) (N := 42) rfl rfl in_X11 tyX11 tyX11_ok nmX11 25 (by decide) (v := .inr (some (8, L.length + 24, 0))) (v' := .inr (some (8, L.length + 24, 0))) (clL (t := 24) len_24 (by omega)) rfl (fun _ => ⟨rfl, rfl⟩) (Or.inr rfl) mw544 rfl dX11_init_188 (fun hR => kk hR)
set_option maxHeartbeats 4000000 in
set_option maxRecDepth 100000 in
theorem stepM_24 {l : Launch} {X : MX} {B : BX (EE × K)} {g : GP} {E0 : EE} {L : List RC} {κ : K} (O : CK l X B g cX11_init RX11 1 12) (hKP : KPok B (cst E0 L 11 (mF0 L.length) mT0)) (hname : B.2.2.2.2.2.2.2.2 X → MXn X = "<init>") (hR : rawOK (cst E0 L 11 (mF24 L.length) mT24)) (kk : rawOK (cst E0 L 11 (mF25 L.length) mT25) → J X B (cst E0 L 11 (mF25 L.length) mT25, addC κ 25 14415) 199 [(0, .inr (some (8, L.length, 0)))] []) : J X B (cst E0 L 11 (mF24 L.length) mT24, addC κ 24 14375) 191 [(0, .inr (some (8, L.length, 0)))] [] := by
  refine J_aload_n O.mo dX11_init_191 0 rfl ?_
  refine J_bipush O.mo (v := 40) dX11_init_192 (by decide) ?_
  refine J_cNewa O (KPc hKP) hR (d := 25) (congrArg (· + 1) len_24) (atype := .int) (ty := .int) (ai := 0) (ct := .inl fun _ => 0) (N := 40) rfl (fun _ => rfl) (fun _ _ _ => ⟨_, rfl, rfl⟩) (fun _ => trivial) mw_arrI (by decide) (by decide) (Nat.le_of_ble_eq_true rfl) (sl_p (stL2 (t := 24) len_24 (by omega)) sl_0) (st_p (stL2 (t := 24) len_24 (by omega)) st_0) dX11_init_194 (fun hR => ?_)
  rw [addC_add]
  change J X B (cst E0 L 11 (mF24 L.length) mT25, addC κ 25 14415) 196 [(0, .inr (some (8, L.length, 0)))] [.inr (some (8, L.length + 25, 0)), .inr (some (8, L.length, 0))]
  change rawOK (cst E0 L 11 (mF24 L.length) mT25) at hR
  refine J_cPut O hname hR (C := RX11) (Tt := TX11) (N := 42) rfl rfl in_X11 tyX11 tyX11_ok nmX11 27 (by decide) (v := .inr (some (8, L.length + 25, 0))) (v' := .inr (some (8, L.length + 25, 0))) (clL (t := 25) len_25 (by omega)) rfl (fun _ => ⟨rfl, rfl⟩) (Or.inr rfl) mw528 rfl dX11_init_196 (fun hR => kk hR)
set_option maxHeartbeats 4000000 in
set_option maxRecDepth 100000 in
theorem stepM_25 {l : Launch} {X : MX} {B : BX (EE × K)} {g : GP} {E0 : EE} {L : List RC} {κ : K} (O : CK l X B g cX11_init RX11 1 12) (hKP : KPok B (cst E0 L 11 (mF0 L.length) mT0)) (hname : B.2.2.2.2.2.2.2.2 X → MXn X = "<init>") (hR : rawOK (cst E0 L 11 (mF25 L.length) mT25)) (kk : rawOK (cst E0 L 11 (mF26 L.length) mT26) → J X B (cst E0 L 11 (mF26 L.length) mT26, addC κ 26 14455) 207 [(0, .inr (some (8, L.length, 0)))] []) : J X B (cst E0 L 11 (mF25 L.length) mT25, addC κ 25 14415) 199 [(0, .inr (some (8, L.length, 0)))] [] := by
  refine J_aload_n O.mo dX11_init_199 0 rfl ?_
  refine J_bipush O.mo (v := 40) dX11_init_200 (by decide) ?_
  refine J_cNewa O (KPc hKP) hR (d := 26) (congrArg (· + 1) len_25) (atype := .int) (ty := .int) (ai := 0) (ct := .inl fun _ => 0) (N := 40) rfl (fun _ => rfl) (fun _ _ _ => ⟨_, rfl, rfl⟩) (fun _ => trivial) mw_arrI (by decide) (by decide) (Nat.le_of_ble_eq_true rfl) (sl_p (stL2 (t := 25) len_25 (by omega)) sl_0) (st_p (stL2 (t := 25) len_25 (by omega)) st_0) dX11_init_202 (fun hR => ?_)
  rw [addC_add]
  change J X B (cst E0 L 11 (mF25 L.length) mT26, addC κ 26 14455) 204 [(0, .inr (some (8, L.length, 0)))] [.inr (some (8, L.length + 26, 0)), .inr (some (8, L.length, 0))]
  change rawOK (cst E0 L 11 (mF25 L.length) mT26) at hR
  refine J_cPut O hname hR (C := RX11) (Tt := TX11) (N := 42) rfl rfl in_X11 tyX11 tyX11_ok nmX11 28 (by decide) (v := .inr (some (8, L.length + 26, 0))) (v' := .inr (some (8, L.length + 26, 0))) (clL (t := 26) len_26 (by omega)) rfl (fun _ => ⟨rfl, rfl⟩) (Or.inr rfl) mw527 rfl dX11_init_204 (fun hR => kk hR)
set_option maxHeartbeats 4000000 in
set_option maxRecDepth 100000 in
theorem stepM_26 {l : Launch} {X : MX} {B : BX (EE × K)} {g : GP} {E0 : EE} {L : List RC} {κ : K} (O : CK l X B g cX11_init RX11 1 12) (hKP : KPok B (cst E0 L 11 (mF0 L.length) mT0)) (hname : B.2.2.2.2.2.2.2.2 X → MXn X = "<init>") (hR : rawOK (cst E0 L 11 (mF26 L.length) mT26)) (kk : rawOK (cst E0 L 11 (mF27 L.length) mT27) → J X B (cst E0 L 11 (mF27 L.length) mT27, addC κ 27 14487) 215 [(0, .inr (some (8, L.length, 0)))] []) : J X B (cst E0 L 11 (mF26 L.length) mT26, addC κ 26 14455) 207 [(0, .inr (some (8, L.length, 0)))] [] := by
  refine J_aload_n O.mo dX11_init_207 0 rfl ?_
  refine J_bipush O.mo (v := 32) dX11_init_208 (by decide) ?_
  refine J_cNewa O (KPc hKP) hR (d := 27) (congrArg (· + 1) len_26) (atype := .int) (ty := .int) (ai := 0) (ct := .inl fun _ => 0) (N := 32) rfl (fun _ => rfl) (fun _ _ _ => ⟨_, rfl, rfl⟩) (fun _ => trivial) mw_arrI (by decide) (by decide) (Nat.le_of_ble_eq_true rfl) (sl_p (stL2 (t := 26) len_26 (by omega)) sl_0) (st_p (stL2 (t := 26) len_26 (by omega)) st_0) dX11_init_210 (fun hR => ?_)
  rw [addC_add]
  change J X B (cst E0 L 11 (mF26 L.length) mT27, addC κ 27 14487) 212 [(0, .inr (some (8, L.length, 0)))] [.inr (some (8, L.length + 27, 0)), .inr (some (8, L.length, 0))]
  change rawOK (cst E0 L 11 (mF26 L.length) mT27) at hR
  refine J_cPut O hname hR (C := RX11) (Tt := TX11) (N := 42) rfl rfl in_X11 tyX11 tyX11_ok nmX11 29 (by decide) (v := .inr (some (8, L.length + 27, 0))) (v' := .inr (some (8, L.length + 27, 0))) (clL (t := 27) len_27 (by omega)) rfl (fun _ => ⟨rfl, rfl⟩) (Or.inr rfl) mw533 rfl dX11_init_212 (fun hR => kk hR)
set_option maxHeartbeats 4000000 in
set_option maxRecDepth 100000 in
theorem stepM_27 {l : Launch} {X : MX} {B : BX (EE × K)} {g : GP} {E0 : EE} {L : List RC} {κ : K} (O : CK l X B g cX11_init RX11 1 12) (hKP : KPok B (cst E0 L 11 (mF0 L.length) mT0)) (hname : B.2.2.2.2.2.2.2.2 X → MXn X = "<init>") (hR : rawOK (cst E0 L 11 (mF27 L.length) mT27)) (kk : rawOK (cst E0 L 11 (mF28 L.length) mT28) → J X B (cst E0 L 11 (mF28 L.length) mT28, addC κ 28 14492) 222 [(0, .inr (some (8, L.length, 0)))] []) : J X B (cst E0 L 11 (mF27 L.length) mT27, addC κ 27 14487) 215 [(0, .inr (some (8, L.length, 0)))] [] := by
  refine J_aload_n O.mo dX11_init_215 0 rfl ?_
  refine J_iconst O.mo (v := 5) dX11_init_216 (by decide) ?_
  refine J_cNewa O (KPc hKP) hR (d := 28) (congrArg (· + 1) len_27) (atype := .boolean) (ty := .boolean) (ai := 1) (ct := .inl fun _ => 0) (N := 5) rfl (fun _ => rfl) (fun _ _ _ => ⟨_, rfl, rfl⟩) (fun _ => trivial) mw_arrZ (by decide) (by decide) (Nat.le_of_ble_eq_true rfl) (sl_p (stL2 (t := 27) len_27 (by omega)) sl_0) (st_p (stL2 (t := 27) len_27 (by omega)) st_0) dX11_init_217 (fun hR => ?_)
  rw [addC_add]
  change J X B (cst E0 L 11 (mF27 L.length) mT28, addC κ 28 14492) 219 [(0, .inr (some (8, L.length, 0)))] [.inr (some (8, L.length + 28, 0)), .inr (some (8, L.length, 0))]
  change rawOK (cst E0 L 11 (mF27 L.length) mT28) at hR
  refine J_cPut O hname hR (C := RX11) (Tt := TX11) (N := 42) rfl rfl in_X11 tyX11 tyX11_ok nmX11 30 (by decide) (v := .inr (some (8, L.length + 28, 0))) (v' := .inr (some (8, L.length + 28, 0))) (clL (t := 28) len_28 (by omega)) rfl (fun _ => ⟨rfl, rfl⟩) (Or.inr rfl) mw535 rfl dX11_init_219 (fun hR => kk hR)
set_option maxHeartbeats 4000000 in
set_option maxRecDepth 100000 in
theorem stepM_28 {l : Launch} {X : MX} {B : BX (EE × K)} {g : GP} {E0 : EE} {L : List RC} {κ : K} (O : CK l X B g cX11_init RX11 1 12) (hKP : KPok B (cst E0 L 11 (mF0 L.length) mT0)) (hname : B.2.2.2.2.2.2.2.2 X → MXn X = "<init>") (hR : rawOK (cst E0 L 11 (mF28 L.length) mT28)) (kk : rawOK (cst E0 L 11 (mF29 L.length) mT29) → J X B (cst E0 L 11 (mF29 L.length) mT29, addC κ 29 14497) 229 [(0, .inr (some (8, L.length, 0)))] []) : J X B (cst E0 L 11 (mF28 L.length) mT28, addC κ 28 14492) 222 [(0, .inr (some (8, L.length, 0)))] [] := by
  refine J_aload_n O.mo dX11_init_222 0 rfl ?_
  refine J_iconst O.mo (v := 5) dX11_init_223 (by decide) ?_
  refine J_cNewa O (KPc hKP) hR (d := 29) (congrArg (· + 1) len_28) (atype := .int) (ty := .int) (ai := 0) (ct := .inl fun _ => 0) (N := 5) rfl (fun _ => rfl) (fun _ _ _ => ⟨_, rfl, rfl⟩) (fun _ => trivial) mw_arrI (by decide) (by decide) (Nat.le_of_ble_eq_true rfl) (sl_p (stL2 (t := 28) len_28 (by omega)) sl_0) (st_p (stL2 (t := 28) len_28 (by omega)) st_0) dX11_init_224 (fun hR => ?_)
  rw [addC_add]
  change J X B (cst E0 L 11 (mF28 L.length) mT29, addC κ 29 14497) 226 [(0, .inr (some (8, L.length, 0)))] [.inr (some (8, L.length + 29, 0)), .inr (some (8, L.length, 0))]
  change rawOK (cst E0 L 11 (mF28 L.length) mT29) at hR
  refine J_cPut O hname hR (C := RX11) (Tt := TX11) (N := 42) rfl rfl in_X11 tyX11 tyX11_ok nmX11 31 (by decide) (v := .inr (some (8, L.length + 29, 0))) (v' := .inr (some (8, L.length + 29, 0))) (clL (t := 29) len_29 (by omega)) rfl (fun _ => ⟨rfl, rfl⟩) (Or.inr rfl) mw534 rfl dX11_init_226 (fun hR => kk hR)
set_option maxHeartbeats 4000000 in
set_option maxRecDepth 100000 in
theorem stepM_29 {l : Launch} {X : MX} {B : BX (EE × K)} {g : GP} {E0 : EE} {L : List RC} {κ : K} (O : CK l X B g cX11_init RX11 1 12) (hKP : KPok B (cst E0 L 11 (mF0 L.length) mT0)) (hname : B.2.2.2.2.2.2.2.2 X → MXn X = "<init>") (hR : rawOK (cst E0 L 11 (mF29 L.length) mT29)) (kk : rawOK (cst E0 L 11 (mF30 L.length) mT30) → J X B (cst E0 L 11 (mF30 L.length) mT30, addC κ 30 14502) 236 [(0, .inr (some (8, L.length, 0)))] []) : J X B (cst E0 L 11 (mF29 L.length) mT29, addC κ 29 14497) 229 [(0, .inr (some (8, L.length, 0)))] [] := by
  refine J_aload_n O.mo dX11_init_229 0 rfl ?_
  refine J_iconst O.mo (v := 5) dX11_init_230 (by decide) ?_
  refine J_cNewa O (KPc hKP) hR (d := 30) (congrArg (· + 1) len_29) (atype := .int) (ty := .int) (ai := 0) (ct := .inl fun _ => 0) (N := 5) rfl (fun _ => rfl) (fun _ _ _ => ⟨_, rfl, rfl⟩) (fun _ => trivial) mw_arrI (by decide) (by decide) (Nat.le_of_ble_eq_true rfl) (sl_p (stL2 (t := 29) len_29 (by omega)) sl_0) (st_p (stL2 (t := 29) len_29 (by omega)) st_0) dX11_init_231 (fun hR => ?_)
  rw [addC_add]
  change J X B (cst E0 L 11 (mF29 L.length) mT30, addC κ 30 14502) 233 [(0, .inr (some (8, L.length, 0)))] [.inr (some (8, L.length + 30, 0)), .inr (some (8, L.length, 0))]
  change rawOK (cst E0 L 11 (mF29 L.length) mT30) at hR
  refine J_cPut O hname hR (C := RX11) (Tt := TX11) (N := 42) rfl rfl in_X11 tyX11 tyX11_ok nmX11 32 (by decide) (v := .inr (some (8, L.length + 30, 0))) (v' := .inr (some (8, L.length + 30, 0))) (clL (t := 30) len_30 (by omega)) rfl (fun _ => ⟨rfl, rfl⟩) (Or.inr rfl) mw643 rfl dX11_init_233 (fun hR => kk hR)
set_option maxHeartbeats 4000000 in
set_option maxRecDepth 100000 in
theorem stepM_30 {l : Launch} {X : MX} {B : BX (EE × K)} {g : GP} {E0 : EE} {L : List RC} {κ : K} (O : CK l X B g cX11_init RX11 1 12) (hKP : KPok B (cst E0 L 11 (mF0 L.length) mT0)) (hname : B.2.2.2.2.2.2.2.2 X → MXn X = "<init>") (hR : rawOK (cst E0 L 11 (mF30 L.length) mT30)) (kk : rawOK (cst E0 L 11 (mF31 L.length) mT31) → J X B (cst E0 L 11 (mF31 L.length) mT31, addC κ 31 14507) 243 [(0, .inr (some (8, L.length, 0)))] []) : J X B (cst E0 L 11 (mF30 L.length) mT30, addC κ 30 14502) 236 [(0, .inr (some (8, L.length, 0)))] [] := by
  refine J_aload_n O.mo dX11_init_236 0 rfl ?_
  refine J_iconst O.mo (v := 5) dX11_init_237 (by decide) ?_
  refine J_cNewa O (KPc hKP) hR (d := 31) (congrArg (· + 1) len_30) (atype := .boolean) (ty := .boolean) (ai := 1) (ct := .inl fun _ => 0) (N := 5) rfl (fun _ => rfl) (fun _ _ _ => ⟨_, rfl, rfl⟩) (fun _ => trivial) mw_arrZ (by decide) (by decide) (Nat.le_of_ble_eq_true rfl) (sl_p (stL2 (t := 30) len_30 (by omega)) sl_0) (st_p (stL2 (t := 30) len_30 (by omega)) st_0) dX11_init_238 (fun hR => ?_)
  rw [addC_add]
  change J X B (cst E0 L 11 (mF30 L.length) mT31, addC κ 31 14507) 240 [(0, .inr (some (8, L.length, 0)))] [.inr (some (8, L.length + 31, 0)), .inr (some (8, L.length, 0))]
  change rawOK (cst E0 L 11 (mF30 L.length) mT31) at hR
  refine J_cPut O hname hR (C := RX11) (Tt := TX11) (N := 42) rfl rfl in_X11 tyX11 tyX11_ok nmX11 33 (by decide) (v := .inr (some (8, L.length + 31, 0))) (v' := .inr (some (8, L.length + 31, 0))) (clL (t := 31) len_31 (by omega)) rfl (fun _ => ⟨rfl, rfl⟩) (Or.inr rfl) mw550 rfl dX11_init_240 (fun hR => kk hR)
set_option maxHeartbeats 4000000 in
set_option maxRecDepth 100000 in
theorem stepM_31 {l : Launch} {X : MX} {B : BX (EE × K)} {g : GP} {E0 : EE} {L : List RC} {κ : K} (O : CK l X B g cX11_init RX11 1 12) (hKP : KPok B (cst E0 L 11 (mF0 L.length) mT0)) (hname : B.2.2.2.2.2.2.2.2 X → MXn X = "<init>") (hR : rawOK (cst E0 L 11 (mF31 L.length) mT31)) (kk : rawOK (cst E0 L 11 (mF32 L.length) mT32) → J X B (cst E0 L 11 (mF32 L.length) mT32, addC κ 32 29507) 252 [(0, .inr (some (8, L.length, 0)))] []) : J X B (cst E0 L 11 (mF31 L.length) mT31, addC κ 31 14507) 243 [(0, .inr (some (8, L.length, 0)))] [] := by
  refine J_aload_n O.mo dX11_init_243 0 rfl ?_
  refine J_sipush O.mo (v := 15000) dX11_init_244 (by decide) ?_
  refine J_cNewa O (KPc hKP) hR (d := 32) (congrArg (· + 1) len_31) (atype := .int) (ty := .int) (ai := 0) (ct := .inl fun _ => 0) (N := 15000) rfl (fun _ => rfl) (fun _ _ _ => ⟨_, rfl, rfl⟩) (fun _ => trivial) mw_arrI (by decide) (by decide) (Nat.le_of_ble_eq_true rfl) (sl_p (stL2 (t := 31) len_31 (by omega)) sl_0) (st_p (stL2 (t := 31) len_31 (by omega)) st_0) dX11_init_247 (fun hR => ?_)
  rw [addC_add]
  change J X B (cst E0 L 11 (mF31 L.length) mT32, addC κ 32 29507) 249 [(0, .inr (some (8, L.length, 0)))] [.inr (some (8, L.length + 32, 0)), .inr (some (8, L.length, 0))]
  change rawOK (cst E0 L 11 (mF31 L.length) mT32) at hR
  refine J_cPut O hname hR (C := RX11) (Tt := TX11) (N := 42) rfl rfl in_X11 tyX11 tyX11_ok nmX11 34 (by decide) (v := .inr (some (8, L.length + 32, 0))) (v' := .inr (some (8, L.length + 32, 0))) (clL (t := 32) len_32 (by omega)) rfl (fun _ => ⟨rfl, rfl⟩) (Or.inr rfl) mw551 rfl dX11_init_249 (fun hR => kk hR)
set_option maxHeartbeats 4000000 in
set_option maxRecDepth 100000 in
theorem stepM_32 {l : Launch} {X : MX} {B : BX (EE × K)} {g : GP} {E0 : EE} {L : List RC} {κ : K} (O : CK l X B g cX11_init RX11 1 12) (hKP : KPok B (cst E0 L 11 (mF0 L.length) mT0)) (hname : B.2.2.2.2.2.2.2.2 X → MXn X = "<init>") (hR : rawOK (cst E0 L 11 (mF32 L.length) mT32)) (kk : rawOK (cst E0 L 11 (mF33 L.length) mT33) → J X B (cst E0 L 11 (mF33 L.length) mT33, addC κ 33 29512) 259 [(0, .inr (some (8, L.length, 0)))] []) : J X B (cst E0 L 11 (mF32 L.length) mT32, addC κ 32 29507) 252 [(0, .inr (some (8, L.length, 0)))] [] := by
  refine J_aload_n O.mo dX11_init_252 0 rfl ?_
  refine J_iconst O.mo (v := 5) dX11_init_253 (by decide) ?_
  refine J_cNewa O (KPc hKP) hR (d := 33) (congrArg (· + 1) len_32) (atype := .int) (ty := .int) (ai := 0) (ct := .inl fun _ => 0) (N := 5) rfl (fun _ => rfl) (fun _ _ _ => ⟨_, rfl, rfl⟩) (fun _ => trivial) mw_arrI (by decide) (by decide) (Nat.le_of_ble_eq_true rfl) (sl_p (stL2 (t := 32) len_32 (by omega)) sl_0) (st_p (stL2 (t := 32) len_32 (by omega)) st_0) dX11_init_254 (fun hR => ?_)
  rw [addC_add]
  change J X B (cst E0 L 11 (mF32 L.length) mT33, addC κ 33 29512) 256 [(0, .inr (some (8, L.length, 0)))] [.inr (some (8, L.length + 33, 0)), .inr (some (8, L.length, 0))]
  change rawOK (cst E0 L 11 (mF32 L.length) mT33) at hR
  refine J_cPut O hname hR (C := RX11) (Tt := TX11) (N := 42) rfl rfl in_X11 tyX11 tyX11_ok nmX11 35 (by decide) (v := .inr (some (8, L.length + 33, 0))) (v' := .inr (some (8, L.length + 33, 0))) (clL (t := 33) len_33 (by omega)) rfl (fun _ => ⟨rfl, rfl⟩) (Or.inr rfl) mw552 rfl dX11_init_256 (fun hR => kk hR)
set_option maxHeartbeats 4000000 in
set_option maxRecDepth 100000 in
theorem stepM_33 {l : Launch} {X : MX} {B : BX (EE × K)} {g : GP} {E0 : EE} {L : List RC} {κ : K} (O : CK l X B g cX11_init RX11 1 12) (hKP : KPok B (cst E0 L 11 (mF0 L.length) mT0)) (hname : B.2.2.2.2.2.2.2.2 X → MXn X = "<init>") (hR : rawOK (cst E0 L 11 (mF33 L.length) mT33)) (kk : rawOK (cst E0 L 11 (mF34 L.length) mT34) → J X B (cst E0 L 11 (mF34 L.length) mT34, addC κ 34 44512) 268 [(0, .inr (some (8, L.length, 0)))] []) : J X B (cst E0 L 11 (mF33 L.length) mT33, addC κ 33 29512) 259 [(0, .inr (some (8, L.length, 0)))] [] := by
  refine J_aload_n O.mo dX11_init_259 0 rfl ?_
  refine J_sipush O.mo (v := 15000) dX11_init_260 (by decide) ?_
  refine J_cNewa O (KPc hKP) hR (d := 34) (congrArg (· + 1) len_33) (atype := .int) (ty := .int) (ai := 0) (ct := .inl fun _ => 0) (N := 15000) rfl (fun _ => rfl) (fun _ _ _ => ⟨_, rfl, rfl⟩) (fun _ => trivial) mw_arrI (by decide) (by decide) (Nat.le_of_ble_eq_true rfl) (sl_p (stL2 (t := 33) len_33 (by omega)) sl_0) (st_p (stL2 (t := 33) len_33 (by omega)) st_0) dX11_init_263 (fun hR => ?_)
  rw [addC_add]
  change J X B (cst E0 L 11 (mF33 L.length) mT34, addC κ 34 44512) 265 [(0, .inr (some (8, L.length, 0)))] [.inr (some (8, L.length + 34, 0)), .inr (some (8, L.length, 0))]
  change rawOK (cst E0 L 11 (mF33 L.length) mT34) at hR
  refine J_cPut O hname hR (C := RX11) (Tt := TX11) (N := 42) rfl rfl in_X11 tyX11 tyX11_ok nmX11 36 (by decide) (v := .inr (some (8, L.length + 34, 0))) (v' := .inr (some (8, L.length + 34, 0))) (clL (t := 34) len_34 (by omega)) rfl (fun _ => ⟨rfl, rfl⟩) (Or.inr rfl) mw553 rfl dX11_init_265 (fun hR => kk hR)
set_option maxHeartbeats 4000000 in
set_option maxRecDepth 100000 in
theorem stepM_34 {l : Launch} {X : MX} {B : BX (EE × K)} {g : GP} {E0 : EE} {L : List RC} {κ : K} (O : CK l X B g cX11_init RX11 1 12) (hKP : KPok B (cst E0 L 11 (mF0 L.length) mT0)) (hname : B.2.2.2.2.2.2.2.2 X → MXn X = "<init>") (hR : rawOK (cst E0 L 11 (mF34 L.length) mT34)) (kk : rawOK (cst E0 L 11 (mF35 L.length) mT35) → J X B (cst E0 L 11 (mF35 L.length) mT35, addC κ 35 44517) 275 [(0, .inr (some (8, L.length, 0)))] []) : J X B (cst E0 L 11 (mF34 L.length) mT34, addC κ 34 44512) 268 [(0, .inr (some (8, L.length, 0)))] [] := by
  refine J_aload_n O.mo dX11_init_268 0 rfl ?_
  refine J_iconst O.mo (v := 5) dX11_init_269 (by decide) ?_
  refine J_cNewa O (KPc hKP) hR (d := 35) (congrArg (· + 1) len_34) (atype := .int) (ty := .int) (ai := 0) (ct := .inl fun _ => 0) (N := 5) rfl (fun _ => rfl) (fun _ _ _ => ⟨_, rfl, rfl⟩) (fun _ => trivial) mw_arrI (by decide) (by decide) (Nat.le_of_ble_eq_true rfl) (sl_p (stL2 (t := 34) len_34 (by omega)) sl_0) (st_p (stL2 (t := 34) len_34 (by omega)) st_0) dX11_init_270 (fun hR => ?_)
  rw [addC_add]
  change J X B (cst E0 L 11 (mF34 L.length) mT35, addC κ 35 44517) 272 [(0, .inr (some (8, L.length, 0)))] [.inr (some (8, L.length + 35, 0)), .inr (some (8, L.length, 0))]
  change rawOK (cst E0 L 11 (mF34 L.length) mT35) at hR
  refine J_cPut O hname hR (C := RX11) (Tt := TX11) (N := 42) rfl rfl in_X11 tyX11 tyX11_ok nmX11 37 (by decide) (v := .inr (some (8, L.length + 35, 0))) (v' := .inr (some (8, L.length + 35, 0))) (clL (t := 35) len_35 (by omega)) rfl (fun _ => ⟨rfl, rfl⟩) (Or.inr rfl) mw554 rfl dX11_init_272 (fun hR => kk hR)
set_option maxHeartbeats 4000000 in
set_option maxRecDepth 100000 in
theorem stepM_35 {l : Launch} {X : MX} {B : BX (EE × K)} {g : GP} {E0 : EE} {L : List RC} {κ : K} (O : CK l X B g cX11_init RX11 1 12) (hKP : KPok B (cst E0 L 11 (mF0 L.length) mT0)) (hname : B.2.2.2.2.2.2.2.2 X → MXn X = "<init>") (hR : rawOK (cst E0 L 11 (mF35 L.length) mT35)) (kk : rawOK (cst E0 L 11 (mF36 L.length) mT36) → J X B (cst E0 L 11 (mF36 L.length) mT36, addC κ 36 44519) 282 [(0, .inr (some (8, L.length, 0)))] []) : J X B (cst E0 L 11 (mF35 L.length) mT35, addC κ 35 44517) 275 [(0, .inr (some (8, L.length, 0)))] [] := by
  refine J_aload_n O.mo dX11_init_275 0 rfl ?_
  refine J_iconst O.mo (v := 2) dX11_init_276 (by decide) ?_
  refine J_cNewa O (KPc hKP) hR (d := 36) (congrArg (· + 1) len_35) (atype := .boolean) (ty := .boolean) (ai := 1) (ct := .inl fun _ => 0) (N := 2) rfl (fun _ => rfl) (fun _ _ _ => ⟨_, rfl, rfl⟩) (fun _ => trivial) mw_arrZ (by decide) (by decide) (Nat.le_of_ble_eq_true rfl) (sl_p (stL2 (t := 35) len_35 (by omega)) sl_0) (st_p (stL2 (t := 35) len_35 (by omega)) st_0) dX11_init_277 (fun hR => ?_)
  rw [addC_add]
  change J X B (cst E0 L 11 (mF35 L.length) mT36, addC κ 36 44519) 279 [(0, .inr (some (8, L.length, 0)))] [.inr (some (8, L.length + 36, 0)), .inr (some (8, L.length, 0))]
  change rawOK (cst E0 L 11 (mF35 L.length) mT36) at hR
  refine J_cPut O hname hR (C := RX11) (Tt := TX11) (N := 42) rfl rfl in_X11 tyX11 tyX11_ok nmX11 38 (by decide) (v := .inr (some (8, L.length + 36, 0))) (v' := .inr (some (8, L.length + 36, 0))) (clL (t := 36) len_36 (by omega)) rfl (fun _ => ⟨rfl, rfl⟩) (Or.inr rfl) mw595 rfl dX11_init_279 (fun hR => kk hR)
set_option maxHeartbeats 4000000 in
set_option maxRecDepth 100000 in
theorem stepM_36 {l : Launch} {X : MX} {B : BX (EE × K)} {g : GP} {E0 : EE} {L : List RC} {κ : K} (O : CK l X B g cX11_init RX11 1 12) (hKP : KPok B (cst E0 L 11 (mF0 L.length) mT0)) (hname : B.2.2.2.2.2.2.2.2 X → MXn X = "<init>") (hR : rawOK (cst E0 L 11 (mF36 L.length) mT36)) (kk : rawOK (cst E0 L 11 (mF37 L.length) mT37) → J X B (cst E0 L 11 (mF37 L.length) mT37, addC κ 37 44521) 297 [(0, .inr (some (8, L.length, 0)))] []) : J X B (cst E0 L 11 (mF36 L.length) mT36, addC κ 36 44519) 282 [(0, .inr (some (8, L.length, 0)))] [] := by
  refine J_aload_n O.mo dX11_init_282 0 rfl ?_
  refine J_iconst O.mo (v := 2) dX11_init_283 (by decide) ?_
  refine J_cNewa O (KPc hKP) hR (d := 37) (congrArg (· + 1) len_36) (atype := .int) (ty := .int) (ai := 0) (ct := .inl fun _ => 0) (N := 2) rfl (fun _ => rfl) (fun _ _ _ => ⟨_, rfl, rfl⟩) (fun _ => trivial) mw_arrI (by decide) (by decide) (Nat.le_of_ble_eq_true rfl) (sl_p (stL2 (t := 36) len_36 (by omega)) sl_0) (st_p (stL2 (t := 36) len_36 (by omega)) st_0) dX11_init_284 (fun hR => ?_)
  rw [addC_add]
  change J X B (cst E0 L 11 (mF36 L.length) (mT36 ++ [.inr (0, 2, .inl fun _ => 0)]), addC κ 37 44521) 286 [(0, .inr (some (8, L.length, 0)))] [.inr (some (8, L.length + 37, 0)), .inr (some (8, L.length, 0))]
  refine J_dup O.mo dX11_init_286 rfl ?_
  refine J_iconst O.mo (v := 0) dX11_init_287 (by decide) ?_
  refine J_iconst O.mo (v := (-1)) dX11_init_288 (by decide) ?_
  refine J_cIast O hR (t := 36) (d := 37) rfl (n := 2) rfl (show ¬ ((0 : Int32) < 0 ∨ 2 ≤ (0 : Int32).toNatClampNeg) from by decide) (qn := 0) (by decide) (T' := mT36 ++ [.inr (0, 2, .inl (upd (fun _ => 0) 0 (-1)))]) rfl dX11_init_289 (fun hR => ?_)
  refine J_dup O.mo dX11_init_290 rfl ?_
  refine J_iconst O.mo (v := 1) dX11_init_291 (by decide) ?_
  refine J_iconst O.mo (v := (-1)) dX11_init_292 (by decide) ?_
  refine J_cIast O hR (t := 36) (d := 37) rfl (n := 2) rfl (show ¬ ((1 : Int32) < 0 ∨ 2 ≤ (1 : Int32).toNatClampNeg) from by decide) (qn := 1) (by decide) (T' := mT36 ++ [.inr (0, 2, .inl (upd (upd (fun _ => 0) 0 (-1)) 1 (-1)))]) rfl dX11_init_293 (fun hR => ?_)
  change J X B (cst E0 L 11 (mF36 L.length) mT37, addC κ 37 44521) 294 [(0, .inr (some (8, L.length, 0)))] [.inr (some (8, L.length + 37, 0)), .inr (some (8, L.length, 0))]
  change rawOK (cst E0 L 11 (mF36 L.length) mT37) at hR
  refine J_cPut O hname hR (C := RX11) (Tt := TX11) (N := 42) rfl rfl in_X11 tyX11 tyX11_ok nmX11 39 (by decide) (v := .inr (some (8, L.length + 37, 0))) (v' := .inr (some (8, L.length + 37, 0))) (clL (t := 37) len_37 (by omega)) rfl (fun _ => ⟨rfl, rfl⟩) (Or.inr rfl) mw588 rfl dX11_init_294 (fun hR => kk hR)
set_option maxHeartbeats 4000000 in
set_option maxRecDepth 100000 in
theorem stepM_37 {l : Launch} {X : MX} {B : BX (EE × K)} {g : GP} {E0 : EE} {L : List RC} {κ : K} (O : CK l X B g cX11_init RX11 1 12) (hKP : KPok B (cst E0 L 11 (mF0 L.length) mT0)) (hname : B.2.2.2.2.2.2.2.2 X → MXn X = "<init>") (hR : rawOK (cst E0 L 11 (mF37 L.length) mT37)) (kk : rawOK (cst E0 L 11 (mF38 L.length) mT38) → J X B (cst E0 L 11 (mF38 L.length) mT38, addC κ 38 44523) 304 [(0, .inr (some (8, L.length, 0)))] []) : J X B (cst E0 L 11 (mF37 L.length) mT37, addC κ 37 44521) 297 [(0, .inr (some (8, L.length, 0)))] [] := by
  refine J_aload_n O.mo dX11_init_297 0 rfl ?_
  refine J_iconst O.mo (v := 2) dX11_init_298 (by decide) ?_
  refine J_cNewa O (KPc hKP) hR (d := 38) (congrArg (· + 1) len_37) (atype := .int) (ty := .int) (ai := 0) (ct := .inl fun _ => 0) (N := 2) rfl (fun _ => rfl) (fun _ _ _ => ⟨_, rfl, rfl⟩) (fun _ => trivial) mw_arrI (by decide) (by decide) (Nat.le_of_ble_eq_true rfl) (sl_p (stL2 (t := 37) len_37 (by omega)) sl_0) (st_p (stL2 (t := 37) len_37 (by omega)) st_0) dX11_init_299 (fun hR => ?_)
  rw [addC_add]
  change J X B (cst E0 L 11 (mF37 L.length) mT38, addC κ 38 44523) 301 [(0, .inr (some (8, L.length, 0)))] [.inr (some (8, L.length + 38, 0)), .inr (some (8, L.length, 0))]
  change rawOK (cst E0 L 11 (mF37 L.length) mT38) at hR
  refine J_cPut O hname hR (C := RX11) (Tt := TX11) (N := 42) rfl rfl in_X11 tyX11 tyX11_ok nmX11 40 (by decide) (v := .inr (some (8, L.length + 38, 0))) (v' := .inr (some (8, L.length + 38, 0))) (clL (t := 38) len_38 (by omega)) rfl (fun _ => ⟨rfl, rfl⟩) (Or.inr rfl) mw593 rfl dX11_init_301 (fun hR => kk hR)
def cX11 (n : Nat) : List RC := .inl (11, mF38 n) :: mT38
theorem ok_X11 (n : Nat) : aok (n + 39) (cX11 n) := aok_cons (show ∀ j, clA (n + 39) (mF38 n j) from okF38 (by omega)) okT38
set_option maxHeartbeats 4000000 in
set_option maxRecDepth 100000 in
theorem ci_X11 {l : Launch} (hfl : l.stackTraces = false) {E0 : EE} {L : List RC} {κ : K} (hR : rawOK (upR E0 (L ++ [.inl (11, fun j => dv (tyX11 j))]))) : Con l yX11_init cX11_init 1 none 1 12 [.inr (some (8, L.length, 0))] (upR E0 (L ++ [.inl (11, fun j => dv (tyX11 j))]), κ) (upR E0 (L ++ cX11 L.length), addC κ 38 44523) none := by
  refine Con_ofI hfl (by decide +kernel) (Nat.le_of_ble_eq_true rfl) rfl rfl (fun X B g O hKP hmL hname hE => ?_)
  replace hname : B.2.2.2.2.2.2.2.2 X → MXn X = "<init>" := hname
  change KPok B (cst E0 L 11 (mF0 L.length) mT0) at hKP
  change rawOK (cst E0 L 11 (mF0 L.length) mT0) at hR
  show J X B (cst E0 L 11 (mF0 L.length) mT0, addC κ 0 0) 0 [(0, .inr (some (8, L.length, 0)))] []
  refine J_aload_n O.mo dX11_init_0 0 rfl ?_
  refine J_objInit O mw1159 mw693 mw694 (by decide) (Nat.le_of_ble_eq_true rfl) rfl dX11_init_1 ?_
  refine stepM_0 O hKP hname hR (fun hR => ?_)
  refine stepM_1 O hKP hname hR (fun hR => ?_)
  refine stepM_2 O hKP hname hR (fun hR => ?_)
  refine stepM_3 O hKP hname hR (fun hR => ?_)
  refine stepM_4 O hKP hname hR (fun hR => ?_)
  refine stepM_5 O hKP hname hR (fun hR => ?_)
  refine stepM_6 O hKP hname hR (fun hR => ?_)
  refine stepM_7 O hKP hname hR (fun hR => ?_)
  refine stepM_8 O hKP hname hR (fun hR => ?_)
  refine stepM_9 O hKP hname hR (fun hR => ?_)
  refine stepM_10 O hKP hname hR (fun hR => ?_)
  refine stepM_11 O hKP hname hR (fun hR => ?_)
  refine stepM_12 O hKP hname hR (fun hR => ?_)
  refine stepM_13 O hKP hname hR (fun hR => ?_)
  refine stepM_14 O hKP hname hR (fun hR => ?_)
  refine stepM_15 O hKP hname hR (fun hR => ?_)
  refine stepM_16 O hKP hname hR (fun hR => ?_)
  refine stepM_17 O hKP hname hR (fun hR => ?_)
  refine stepM_18 O hKP hname hR (fun hR => ?_)
  refine stepM_19 O hKP hname hR (fun hR => ?_)
  refine stepM_20 O hKP hname hR (fun hR => ?_)
  refine stepM_21 O hKP hname hR (fun hR => ?_)
  refine stepM_22 O hKP hname hR (fun hR => ?_)
  refine stepM_23 O hKP hname hR (fun hR => ?_)
  refine stepM_24 O hKP hname hR (fun hR => ?_)
  refine stepM_25 O hKP hname hR (fun hR => ?_)
  refine stepM_26 O hKP hname hR (fun hR => ?_)
  refine stepM_27 O hKP hname hR (fun hR => ?_)
  refine stepM_28 O hKP hname hR (fun hR => ?_)
  refine stepM_29 O hKP hname hR (fun hR => ?_)
  refine stepM_30 O hKP hname hR (fun hR => ?_)
  refine stepM_31 O hKP hname hR (fun hR => ?_)
  refine stepM_32 O hKP hname hR (fun hR => ?_)
  refine stepM_33 O hKP hname hR (fun hR => ?_)
  refine stepM_34 O hKP hname hR (fun hR => ?_)
  refine stepM_35 O hKP hname hR (fun hR => ?_)
  refine stepM_36 O hKP hname hR (fun hR => ?_)
  refine stepM_37 O hKP hname hR (fun hR => ?_)
  exact hE _ _ dX11_init_304
