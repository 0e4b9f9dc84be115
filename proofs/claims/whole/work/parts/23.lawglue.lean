theorem ri_decB_app {cc : ByteArray} {nL : Nat} : ∀ (t u : List (Option ri_I)) (p0 : Nat), ri_decB cc nL p0 t = true → ri_decB cc nL (p0 + t.length) u = true → ri_decB cc nL p0 (t ++ u) = true
  | [], u, p0, _, h => by simpa using h
  | none :: t, u, p0, h1, h2 => ri_decB_app t u (p0 + 1) h1 (by rw [show p0 + 1 + t.length = p0 + (none :: t).length by simp; omega]; exact h2)
  | some i :: t, u, p0, h1, h2 => by
    have e1 : p0 + 1 + t.length = p0 + (some i :: t).length := by simp; omega
    show ri_decB cc nL p0 (some i :: (t ++ u)) = true
    unfold ri_decB at h1 ⊢
    rw [Bool.and_eq_true, Bool.and_eq_true] at h1 ⊢
    exact ⟨h1.1, h1.2.1, ri_decB_app t u (p0 + 1) h1.2.2 (by rw [e1]; exact h2)⟩
theorem tbL_len0 : tbL_0.length = 64 := rfl
theorem tbL_len1 : tbL_1.length = 64 := rfl
theorem tbL_len2 : tbL_2.length = 64 := rfl
theorem tbL_len3 : tbL_3.length = 64 := rfl
theorem tbL_len4 : tbL_4.length = 64 := rfl
theorem tbL_len5 : tbL_5.length = 64 := rfl
theorem tbL_len6 : tbL_6.length = 64 := rfl
theorem tbL_len7 : tbL_7.length = 64 := rfl
theorem tbL_len8 : tbL_8.length = 64 := rfl
theorem tbL_len9 : tbL_9.length = 64 := rfl
theorem tbL_len10 : tbL_10.length = 64 := rfl
theorem tbL_len11 : tbL_11.length = 64 := rfl
theorem tbL_len12 : tbL_12.length = 64 := rfl
theorem tbL_len13 : tbL_13.length = 64 := rfl
theorem tbL_len14 : tbL_14.length = 64 := rfl
theorem tbL_len15 : tbL_15.length = 64 := rfl
theorem tbL_len16 : tbL_16.length = 64 := rfl
theorem tbL_len17 : tbL_17.length = 64 := rfl
theorem tbL_len18 : tbL_18.length = 64 := rfl
theorem tbL_len19 : tbL_19.length = 64 := rfl
theorem tbL_len20 : tbL_20.length = 64 := rfl
theorem tbL_len21 : tbL_21.length = 64 := rfl
theorem tbL_len22 : tbL_22.length = 64 := rfl
theorem tbL_len23 : tbL_23.length = 64 := rfl
theorem tbL_len24 : tbL_24.length = 64 := rfl
theorem tbL_len25 : tbL_25.length = 64 := rfl
theorem tbL_len26 : tbL_26.length = 64 := rfl
theorem tbL_len27 : tbL_27.length = 64 := rfl
theorem tbL_len28 : tbL_28.length = 64 := rfl
theorem tbL_len29 : tbL_29.length = 54 := rfl
def tbLr_29 : List (Option ri_I) := tbL_29
theorem dkLr_29 : ri_decB cL_law 4 1856 tbLr_29 = true := dkL_29
theorem owLr_29 (nm : String) : ri_oks vwCl ri_G ri_N ri_Fd "FactorNets$Past" ri_Yn ri_Yr RL nm 4 1856 tbLr_29 := owL_29 nm
def tbLr_28 : List (Option ri_I) := tbL_28 ++ tbLr_29
theorem dkLr_28 : ri_decB cL_law 4 1792 tbLr_28 = true := ri_decB_app tbL_28 tbLr_29 1792 dkL_28 (by rw [tbL_len28]; exact dkLr_29)
theorem owLr_28 (nm : String) : ri_oks vwCl ri_G ri_N ri_Fd "FactorNets$Past" ri_Yn ri_Yr RL nm 4 1792 tbLr_28 := ri_oks_app tbL_28 tbLr_29 1792 (owL_28 nm) (by rw [tbL_len28]; exact owLr_29 nm)
def tbLr_27 : List (Option ri_I) := tbL_27 ++ tbLr_28
theorem dkLr_27 : ri_decB cL_law 4 1728 tbLr_27 = true := ri_decB_app tbL_27 tbLr_28 1728 dkL_27 (by rw [tbL_len27]; exact dkLr_28)
theorem owLr_27 (nm : String) : ri_oks vwCl ri_G ri_N ri_Fd "FactorNets$Past" ri_Yn ri_Yr RL nm 4 1728 tbLr_27 := ri_oks_app tbL_27 tbLr_28 1728 (owL_27 nm) (by rw [tbL_len27]; exact owLr_28 nm)
def tbLr_26 : List (Option ri_I) := tbL_26 ++ tbLr_27
theorem dkLr_26 : ri_decB cL_law 4 1664 tbLr_26 = true := ri_decB_app tbL_26 tbLr_27 1664 dkL_26 (by rw [tbL_len26]; exact dkLr_27)
theorem owLr_26 (nm : String) : ri_oks vwCl ri_G ri_N ri_Fd "FactorNets$Past" ri_Yn ri_Yr RL nm 4 1664 tbLr_26 := ri_oks_app tbL_26 tbLr_27 1664 (owL_26 nm) (by rw [tbL_len26]; exact owLr_27 nm)
def tbLr_25 : List (Option ri_I) := tbL_25 ++ tbLr_26
theorem dkLr_25 : ri_decB cL_law 4 1600 tbLr_25 = true := ri_decB_app tbL_25 tbLr_26 1600 dkL_25 (by rw [tbL_len25]; exact dkLr_26)
theorem owLr_25 (nm : String) : ri_oks vwCl ri_G ri_N ri_Fd "FactorNets$Past" ri_Yn ri_Yr RL nm 4 1600 tbLr_25 := ri_oks_app tbL_25 tbLr_26 1600 (owL_25 nm) (by rw [tbL_len25]; exact owLr_26 nm)
def tbLr_24 : List (Option ri_I) := tbL_24 ++ tbLr_25
theorem dkLr_24 : ri_decB cL_law 4 1536 tbLr_24 = true := ri_decB_app tbL_24 tbLr_25 1536 dkL_24 (by rw [tbL_len24]; exact dkLr_25)
theorem owLr_24 (nm : String) : ri_oks vwCl ri_G ri_N ri_Fd "FactorNets$Past" ri_Yn ri_Yr RL nm 4 1536 tbLr_24 := ri_oks_app tbL_24 tbLr_25 1536 (owL_24 nm) (by rw [tbL_len24]; exact owLr_25 nm)
def tbLr_23 : List (Option ri_I) := tbL_23 ++ tbLr_24
theorem dkLr_23 : ri_decB cL_law 4 1472 tbLr_23 = true := ri_decB_app tbL_23 tbLr_24 1472 dkL_23 (by rw [tbL_len23]; exact dkLr_24)
theorem owLr_23 (nm : String) : ri_oks vwCl ri_G ri_N ri_Fd "FactorNets$Past" ri_Yn ri_Yr RL nm 4 1472 tbLr_23 := ri_oks_app tbL_23 tbLr_24 1472 (owL_23 nm) (by rw [tbL_len23]; exact owLr_24 nm)
def tbLr_22 : List (Option ri_I) := tbL_22 ++ tbLr_23
theorem dkLr_22 : ri_decB cL_law 4 1408 tbLr_22 = true := ri_decB_app tbL_22 tbLr_23 1408 dkL_22 (by rw [tbL_len22]; exact dkLr_23)
theorem owLr_22 (nm : String) : ri_oks vwCl ri_G ri_N ri_Fd "FactorNets$Past" ri_Yn ri_Yr RL nm 4 1408 tbLr_22 := ri_oks_app tbL_22 tbLr_23 1408 (owL_22 nm) (by rw [tbL_len22]; exact owLr_23 nm)
def tbLr_21 : List (Option ri_I) := tbL_21 ++ tbLr_22
theorem dkLr_21 : ri_decB cL_law 4 1344 tbLr_21 = true := ri_decB_app tbL_21 tbLr_22 1344 dkL_21 (by rw [tbL_len21]; exact dkLr_22)
theorem owLr_21 (nm : String) : ri_oks vwCl ri_G ri_N ri_Fd "FactorNets$Past" ri_Yn ri_Yr RL nm 4 1344 tbLr_21 := ri_oks_app tbL_21 tbLr_22 1344 (owL_21 nm) (by rw [tbL_len21]; exact owLr_22 nm)
def tbLr_20 : List (Option ri_I) := tbL_20 ++ tbLr_21
theorem dkLr_20 : ri_decB cL_law 4 1280 tbLr_20 = true := ri_decB_app tbL_20 tbLr_21 1280 dkL_20 (by rw [tbL_len20]; exact dkLr_21)
theorem owLr_20 (nm : String) : ri_oks vwCl ri_G ri_N ri_Fd "FactorNets$Past" ri_Yn ri_Yr RL nm 4 1280 tbLr_20 := ri_oks_app tbL_20 tbLr_21 1280 (owL_20 nm) (by rw [tbL_len20]; exact owLr_21 nm)
def tbLr_19 : List (Option ri_I) := tbL_19 ++ tbLr_20
theorem dkLr_19 : ri_decB cL_law 4 1216 tbLr_19 = true := ri_decB_app tbL_19 tbLr_20 1216 dkL_19 (by rw [tbL_len19]; exact dkLr_20)
theorem owLr_19 (nm : String) : ri_oks vwCl ri_G ri_N ri_Fd "FactorNets$Past" ri_Yn ri_Yr RL nm 4 1216 tbLr_19 := ri_oks_app tbL_19 tbLr_20 1216 (owL_19 nm) (by rw [tbL_len19]; exact owLr_20 nm)
def tbLr_18 : List (Option ri_I) := tbL_18 ++ tbLr_19
theorem dkLr_18 : ri_decB cL_law 4 1152 tbLr_18 = true := ri_decB_app tbL_18 tbLr_19 1152 dkL_18 (by rw [tbL_len18]; exact dkLr_19)
theorem owLr_18 (nm : String) : ri_oks vwCl ri_G ri_N ri_Fd "FactorNets$Past" ri_Yn ri_Yr RL nm 4 1152 tbLr_18 := ri_oks_app tbL_18 tbLr_19 1152 (owL_18 nm) (by rw [tbL_len18]; exact owLr_19 nm)
def tbLr_17 : List (Option ri_I) := tbL_17 ++ tbLr_18
theorem dkLr_17 : ri_decB cL_law 4 1088 tbLr_17 = true := ri_decB_app tbL_17 tbLr_18 1088 dkL_17 (by rw [tbL_len17]; exact dkLr_18)
theorem owLr_17 (nm : String) : ri_oks vwCl ri_G ri_N ri_Fd "FactorNets$Past" ri_Yn ri_Yr RL nm 4 1088 tbLr_17 := ri_oks_app tbL_17 tbLr_18 1088 (owL_17 nm) (by rw [tbL_len17]; exact owLr_18 nm)
def tbLr_16 : List (Option ri_I) := tbL_16 ++ tbLr_17
theorem dkLr_16 : ri_decB cL_law 4 1024 tbLr_16 = true := ri_decB_app tbL_16 tbLr_17 1024 dkL_16 (by rw [tbL_len16]; exact dkLr_17)
theorem owLr_16 (nm : String) : ri_oks vwCl ri_G ri_N ri_Fd "FactorNets$Past" ri_Yn ri_Yr RL nm 4 1024 tbLr_16 := ri_oks_app tbL_16 tbLr_17 1024 (owL_16 nm) (by rw [tbL_len16]; exact owLr_17 nm)
def tbLr_15 : List (Option ri_I) := tbL_15 ++ tbLr_16
theorem dkLr_15 : ri_decB cL_law 4 960 tbLr_15 = true := ri_decB_app tbL_15 tbLr_16 960 dkL_15 (by rw [tbL_len15]; exact dkLr_16)
theorem owLr_15 (nm : String) : ri_oks vwCl ri_G ri_N ri_Fd "FactorNets$Past" ri_Yn ri_Yr RL nm 4 960 tbLr_15 := ri_oks_app tbL_15 tbLr_16 960 (owL_15 nm) (by rw [tbL_len15]; exact owLr_16 nm)
def tbLr_14 : List (Option ri_I) := tbL_14 ++ tbLr_15
theorem dkLr_14 : ri_decB cL_law 4 896 tbLr_14 = true := ri_decB_app tbL_14 tbLr_15 896 dkL_14 (by rw [tbL_len14]; exact dkLr_15)
theorem owLr_14 (nm : String) : ri_oks vwCl ri_G ri_N ri_Fd "FactorNets$Past" ri_Yn ri_Yr RL nm 4 896 tbLr_14 := ri_oks_app tbL_14 tbLr_15 896 (owL_14 nm) (by rw [tbL_len14]; exact owLr_15 nm)
def tbLr_13 : List (Option ri_I) := tbL_13 ++ tbLr_14
theorem dkLr_13 : ri_decB cL_law 4 832 tbLr_13 = true := ri_decB_app tbL_13 tbLr_14 832 dkL_13 (by rw [tbL_len13]; exact dkLr_14)
theorem owLr_13 (nm : String) : ri_oks vwCl ri_G ri_N ri_Fd "FactorNets$Past" ri_Yn ri_Yr RL nm 4 832 tbLr_13 := ri_oks_app tbL_13 tbLr_14 832 (owL_13 nm) (by rw [tbL_len13]; exact owLr_14 nm)
def tbLr_12 : List (Option ri_I) := tbL_12 ++ tbLr_13
theorem dkLr_12 : ri_decB cL_law 4 768 tbLr_12 = true := ri_decB_app tbL_12 tbLr_13 768 dkL_12 (by rw [tbL_len12]; exact dkLr_13)
theorem owLr_12 (nm : String) : ri_oks vwCl ri_G ri_N ri_Fd "FactorNets$Past" ri_Yn ri_Yr RL nm 4 768 tbLr_12 := ri_oks_app tbL_12 tbLr_13 768 (owL_12 nm) (by rw [tbL_len12]; exact owLr_13 nm)
def tbLr_11 : List (Option ri_I) := tbL_11 ++ tbLr_12
theorem dkLr_11 : ri_decB cL_law 4 704 tbLr_11 = true := ri_decB_app tbL_11 tbLr_12 704 dkL_11 (by rw [tbL_len11]; exact dkLr_12)
theorem owLr_11 (nm : String) : ri_oks vwCl ri_G ri_N ri_Fd "FactorNets$Past" ri_Yn ri_Yr RL nm 4 704 tbLr_11 := ri_oks_app tbL_11 tbLr_12 704 (owL_11 nm) (by rw [tbL_len11]; exact owLr_12 nm)
def tbLr_10 : List (Option ri_I) := tbL_10 ++ tbLr_11
theorem dkLr_10 : ri_decB cL_law 4 640 tbLr_10 = true := ri_decB_app tbL_10 tbLr_11 640 dkL_10 (by rw [tbL_len10]; exact dkLr_11)
theorem owLr_10 (nm : String) : ri_oks vwCl ri_G ri_N ri_Fd "FactorNets$Past" ri_Yn ri_Yr RL nm 4 640 tbLr_10 := ri_oks_app tbL_10 tbLr_11 640 (owL_10 nm) (by rw [tbL_len10]; exact owLr_11 nm)
def tbLr_9 : List (Option ri_I) := tbL_9 ++ tbLr_10
theorem dkLr_9 : ri_decB cL_law 4 576 tbLr_9 = true := ri_decB_app tbL_9 tbLr_10 576 dkL_9 (by rw [tbL_len9]; exact dkLr_10)
theorem owLr_9 (nm : String) : ri_oks vwCl ri_G ri_N ri_Fd "FactorNets$Past" ri_Yn ri_Yr RL nm 4 576 tbLr_9 := ri_oks_app tbL_9 tbLr_10 576 (owL_9 nm) (by rw [tbL_len9]; exact owLr_10 nm)
def tbLr_8 : List (Option ri_I) := tbL_8 ++ tbLr_9
theorem dkLr_8 : ri_decB cL_law 4 512 tbLr_8 = true := ri_decB_app tbL_8 tbLr_9 512 dkL_8 (by rw [tbL_len8]; exact dkLr_9)
theorem owLr_8 (nm : String) : ri_oks vwCl ri_G ri_N ri_Fd "FactorNets$Past" ri_Yn ri_Yr RL nm 4 512 tbLr_8 := ri_oks_app tbL_8 tbLr_9 512 (owL_8 nm) (by rw [tbL_len8]; exact owLr_9 nm)
def tbLr_7 : List (Option ri_I) := tbL_7 ++ tbLr_8
theorem dkLr_7 : ri_decB cL_law 4 448 tbLr_7 = true := ri_decB_app tbL_7 tbLr_8 448 dkL_7 (by rw [tbL_len7]; exact dkLr_8)
theorem owLr_7 (nm : String) : ri_oks vwCl ri_G ri_N ri_Fd "FactorNets$Past" ri_Yn ri_Yr RL nm 4 448 tbLr_7 := ri_oks_app tbL_7 tbLr_8 448 (owL_7 nm) (by rw [tbL_len7]; exact owLr_8 nm)
def tbLr_6 : List (Option ri_I) := tbL_6 ++ tbLr_7
theorem dkLr_6 : ri_decB cL_law 4 384 tbLr_6 = true := ri_decB_app tbL_6 tbLr_7 384 dkL_6 (by rw [tbL_len6]; exact dkLr_7)
theorem owLr_6 (nm : String) : ri_oks vwCl ri_G ri_N ri_Fd "FactorNets$Past" ri_Yn ri_Yr RL nm 4 384 tbLr_6 := ri_oks_app tbL_6 tbLr_7 384 (owL_6 nm) (by rw [tbL_len6]; exact owLr_7 nm)
def tbLr_5 : List (Option ri_I) := tbL_5 ++ tbLr_6
theorem dkLr_5 : ri_decB cL_law 4 320 tbLr_5 = true := ri_decB_app tbL_5 tbLr_6 320 dkL_5 (by rw [tbL_len5]; exact dkLr_6)
theorem owLr_5 (nm : String) : ri_oks vwCl ri_G ri_N ri_Fd "FactorNets$Past" ri_Yn ri_Yr RL nm 4 320 tbLr_5 := ri_oks_app tbL_5 tbLr_6 320 (owL_5 nm) (by rw [tbL_len5]; exact owLr_6 nm)
def tbLr_4 : List (Option ri_I) := tbL_4 ++ tbLr_5
theorem dkLr_4 : ri_decB cL_law 4 256 tbLr_4 = true := ri_decB_app tbL_4 tbLr_5 256 dkL_4 (by rw [tbL_len4]; exact dkLr_5)
theorem owLr_4 (nm : String) : ri_oks vwCl ri_G ri_N ri_Fd "FactorNets$Past" ri_Yn ri_Yr RL nm 4 256 tbLr_4 := ri_oks_app tbL_4 tbLr_5 256 (owL_4 nm) (by rw [tbL_len4]; exact owLr_5 nm)
def tbLr_3 : List (Option ri_I) := tbL_3 ++ tbLr_4
theorem dkLr_3 : ri_decB cL_law 4 192 tbLr_3 = true := ri_decB_app tbL_3 tbLr_4 192 dkL_3 (by rw [tbL_len3]; exact dkLr_4)
theorem owLr_3 (nm : String) : ri_oks vwCl ri_G ri_N ri_Fd "FactorNets$Past" ri_Yn ri_Yr RL nm 4 192 tbLr_3 := ri_oks_app tbL_3 tbLr_4 192 (owL_3 nm) (by rw [tbL_len3]; exact owLr_4 nm)
def tbLr_2 : List (Option ri_I) := tbL_2 ++ tbLr_3
theorem dkLr_2 : ri_decB cL_law 4 128 tbLr_2 = true := ri_decB_app tbL_2 tbLr_3 128 dkL_2 (by rw [tbL_len2]; exact dkLr_3)
theorem owLr_2 (nm : String) : ri_oks vwCl ri_G ri_N ri_Fd "FactorNets$Past" ri_Yn ri_Yr RL nm 4 128 tbLr_2 := ri_oks_app tbL_2 tbLr_3 128 (owL_2 nm) (by rw [tbL_len2]; exact owLr_3 nm)
def tbLr_1 : List (Option ri_I) := tbL_1 ++ tbLr_2
theorem dkLr_1 : ri_decB cL_law 4 64 tbLr_1 = true := ri_decB_app tbL_1 tbLr_2 64 dkL_1 (by rw [tbL_len1]; exact dkLr_2)
theorem owLr_1 (nm : String) : ri_oks vwCl ri_G ri_N ri_Fd "FactorNets$Past" ri_Yn ri_Yr RL nm 4 64 tbLr_1 := ri_oks_app tbL_1 tbLr_2 64 (owL_1 nm) (by rw [tbL_len1]; exact owLr_2 nm)
def tbLr_0 : List (Option ri_I) := tbL_0 ++ tbLr_1
theorem dkLr_0 : ri_decB cL_law 4 0 tbLr_0 = true := ri_decB_app tbL_0 tbLr_1 0 dkL_0 (by rw [tbL_len0]; exact dkLr_1)
theorem owLr_0 (nm : String) : ri_oks vwCl ri_G ri_N ri_Fd "FactorNets$Past" ri_Yn ri_Yr RL nm 4 0 tbLr_0 := ri_oks_app tbL_0 tbLr_1 0 (owL_0 nm) (by rw [tbL_len0]; exact owLr_1 nm)
abbrev tbL : List (Option ri_I) := tbLr_0
theorem dkL : ri_decB cL_law 4 0 tbL = true := dkLr_0
theorem owL (nm : String) : ri_oks vwCl ri_G ri_N ri_Fd "FactorNets$Past" ri_Yn ri_Yr RL nm 4 0 tbL := owLr_0 nm
