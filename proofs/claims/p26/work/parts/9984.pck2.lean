/-! the units of the parse, run -/
theorem pc6_421 : ∀ h : Bool, pv6 4 2 true h = true := by decide +kernel
theorem pc6_500 : ∀ h : Bool, pv6 5 0 false h = true := by decide +kernel
theorem pc6_501 : ∀ h : Bool, pv6 5 0 true h = true := by decide +kernel
theorem pc6_510 : ∀ h : Bool, pv6 5 1 false h = true := by decide +kernel
theorem pc6_511 : ∀ h : Bool, pv6 5 1 true h = true := by decide +kernel
theorem pc6_520 : ∀ h : Bool, pv6 5 2 false h = true := by decide +kernel
theorem pc6_521 : ∀ h : Bool, pv6 5 2 true h = true := by decide +kernel
theorem pc6_600 : ∀ h : Bool, pv6 6 0 false h = true := by decide +kernel
theorem pc6_601 : ∀ h : Bool, pv6 6 0 true h = true := by decide +kernel
theorem pc6_610 : ∀ h : Bool, pv6 6 1 false h = true := by decide +kernel
theorem pc6_611 : ∀ h : Bool, pv6 6 1 true h = true := by decide +kernel
theorem pc6_620 : ∀ h : Bool, pv6 6 2 false h = true := by decide +kernel
theorem pc6_621 : ∀ h : Bool, pv6 6 2 true h = true := by decide +kernel
theorem pc7_000 : ∀ g h : Bool, ([0, 1, 2] : List Nat).all (fun o => pv7 0 false 0 o g h true) = true := by decide +kernel
theorem pc7_001 : ∀ g h : Bool, ([0, 1, 2] : List Nat).all (fun o => pv7 0 false 1 o g h true) = true := by decide +kernel
theorem pc7_002 : ∀ g h : Bool, ([0, 1, 2] : List Nat).all (fun o => pv7 0 false 2 o g h true) = true := by decide +kernel
theorem pc7_003 : ∀ g h : Bool, ([0, 1, 2] : List Nat).all (fun o => pv7 0 false 3 o g h true) = true := by decide +kernel
theorem pc7_100 : ∀ g h : Bool, ([0, 1, 2] : List Nat).all (fun o => pv7 1 false 0 o g h true) = true := by decide +kernel
theorem pc7_101 : ∀ g h : Bool, ([0, 1, 2] : List Nat).all (fun o => pv7 1 false 1 o g h true) = true := by decide +kernel
theorem pc7_102 : ∀ g h : Bool, ([0, 1, 2] : List Nat).all (fun o => pv7 1 false 2 o g h true) = true := by decide +kernel
theorem pc7_103 : ∀ g h : Bool, ([0, 1, 2] : List Nat).all (fun o => pv7 1 false 3 o g h true) = true := by decide +kernel
theorem pc7_110 : ∀ g h : Bool, ([0, 1, 2] : List Nat).all (fun o => pv7 1 true 0 o g h true) = true := by decide +kernel
theorem pc7_111 : ∀ g h : Bool, ([0, 1, 2] : List Nat).all (fun o => pv7 1 true 1 o g h true) = true := by decide +kernel
theorem pc7_112 : ∀ g h : Bool, ([0, 1, 2] : List Nat).all (fun o => pv7 1 true 2 o g h true) = true := by decide +kernel
theorem pc7_113 : ∀ g h : Bool, ([0, 1, 2] : List Nat).all (fun o => pv7 1 true 3 o g h true) = true := by decide +kernel
theorem pc7_200 : ∀ g h : Bool, ([0, 1, 2] : List Nat).all (fun o => pv7 2 false 0 o g h true) = true := by decide +kernel
theorem pc7_201 : ∀ g h : Bool, ([0, 1, 2] : List Nat).all (fun o => pv7 2 false 1 o g h true) = true := by decide +kernel
theorem pc7_202 : ∀ g h : Bool, ([0, 1, 2] : List Nat).all (fun o => pv7 2 false 2 o g h true) = true := by decide +kernel
theorem pc7_203 : ∀ g h : Bool, ([0, 1, 2] : List Nat).all (fun o => pv7 2 false 3 o g h true) = true := by decide +kernel
theorem pc7_210 : ∀ g h : Bool, ([0, 1, 2] : List Nat).all (fun o => pv7 2 true 0 o g h true) = true := by decide +kernel
theorem pc7_211 : ∀ g h : Bool, ([0, 1, 2] : List Nat).all (fun o => pv7 2 true 1 o g h true) = true := by decide +kernel
theorem pc7_212 : ∀ g h : Bool, ([0, 1, 2] : List Nat).all (fun o => pv7 2 true 2 o g h true) = true := by decide +kernel
theorem pc7_213 : ∀ g h : Bool, ([0, 1, 2] : List Nat).all (fun o => pv7 2 true 3 o g h true) = true := by decide +kernel
theorem pc7_310 : ∀ g h : Bool, ([0, 1, 2] : List Nat).all (fun o => pv7 3 true 0 o g h true) = true := by decide +kernel
theorem pc7_311 : ∀ g h : Bool, ([0, 1, 2] : List Nat).all (fun o => pv7 3 true 1 o g h true) = true := by decide +kernel
theorem pc7_312 : ∀ g h : Bool, ([0, 1, 2] : List Nat).all (fun o => pv7 3 true 2 o g h true) = true := by decide +kernel
theorem pc7_313 : ∀ g h : Bool, ([0, 1, 2] : List Nat).all (fun o => pv7 3 true 3 o g h true) = true := by decide +kernel
theorem pc7z : pv7 0 false 0 0 false false false = true := by decide +kernel
theorem pc8_0 : ([0, 1, 2] : List Nat).all (fun gh => ([0, 1, 2] : List Nat).all (fun o => pv8 0 gh o true)) = true := by decide +kernel
theorem pc8_1 : ([0, 1, 2] : List Nat).all (fun gh => ([0, 1, 2] : List Nat).all (fun o => pv8 1 gh o true)) = true := by decide +kernel
theorem pc8_2 : ([0, 1, 2] : List Nat).all (fun gh => ([0, 1, 2] : List Nat).all (fun o => pv8 2 gh o true)) = true := by decide +kernel
theorem pc8_3 : ([0, 1, 2] : List Nat).all (fun gh => ([0, 1, 2] : List Nat).all (fun o => pv8 3 gh o true)) = true := by decide +kernel
theorem pc8_4 : ([0, 1, 2] : List Nat).all (fun gh => ([0, 1, 2] : List Nat).all (fun o => pv8 4 gh o true)) = true := by decide +kernel
theorem pc8_5 : ([0, 1, 2] : List Nat).all (fun gh => ([0, 1, 2] : List Nat).all (fun o => pv8 5 gh o true)) = true := by decide +kernel
theorem pc8_6 : ([0, 1, 2] : List Nat).all (fun gh => ([0, 1, 2] : List Nat).all (fun o => pv8 6 gh o true)) = true := by decide +kernel
theorem pc8z : pv8 0 0 0 false = true := by decide +kernel
theorem pc9_0 : ∀ t : Bool, ([0, 1, 2] : List Nat).all (fun o => pv9 0 o t) = true := by decide +kernel
theorem pc9_1 : ∀ t : Bool, ([0, 1, 2] : List Nat).all (fun o => pv9 1 o t) = true := by decide +kernel
theorem pc9_2 : ∀ t : Bool, ([0, 1, 2] : List Nat).all (fun o => pv9 2 o t) = true := by decide +kernel
theorem pc9_3 : ∀ t : Bool, ([0, 1, 2] : List Nat).all (fun o => pv9 3 o t) = true := by decide +kernel
theorem pc9_4 : ∀ t : Bool, ([0, 1, 2] : List Nat).all (fun o => pv9 4 o t) = true := by decide +kernel
theorem pc9_5 : ∀ t : Bool, ([0, 1, 2] : List Nat).all (fun o => pv9 5 o t) = true := by decide +kernel
theorem pc9_6 : ∀ t : Bool, ([0, 1, 2] : List Nat).all (fun o => pv9 6 o t) = true := by decide +kernel
theorem pc9_7 : ∀ t : Bool, ([0, 1, 2] : List Nat).all (fun o => pv9 7 o t) = true := by decide +kernel
theorem pc9_8 : ∀ t : Bool, ([0, 1, 2] : List Nat).all (fun o => pv9 8 o t) = true := by decide +kernel
theorem pc10_0 : ([0, 1, 2, 3] : List Nat).all (fun kk => ([0, 1, 2] : List Nat).all (fun gh => pv10 0 kk gh)) = true := by decide +kernel
theorem pc10_1 : ([0, 1, 2, 3] : List Nat).all (fun kk => ([0, 1, 2] : List Nat).all (fun gh => pv10 1 kk gh)) = true := by decide +kernel
theorem pc10_2 : ([0, 1, 2, 3] : List Nat).all (fun kk => ([0, 1, 2] : List Nat).all (fun gh => pv10 2 kk gh)) = true := by decide +kernel
theorem pc10_3 : ([0, 1, 2, 3] : List Nat).all (fun kk => ([0, 1, 2] : List Nat).all (fun gh => pv10 3 kk gh)) = true := by decide +kernel
