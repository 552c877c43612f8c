set_option maxRecDepth 100000 in
theorem az_kl_15 : az_ckr 258 960 64 = true := by decide +kernel
set_option maxRecDepth 100000 in
theorem az_kl_16 : az_ckr 258 1024 64 = true := by decide +kernel
set_option maxRecDepth 100000 in
theorem az_kl_17 : az_ckr 258 1088 64 = true := by decide +kernel
set_option maxRecDepth 100000 in
theorem az_kl_18 : az_ckr 258 1152 64 = true := by decide +kernel
set_option maxRecDepth 100000 in
theorem az_kl_19 : az_ckr 258 1216 64 = true := by decide +kernel
set_option maxRecDepth 100000 in
theorem az_kl_20 : az_ckr 258 1280 64 = true := by decide +kernel
set_option maxRecDepth 100000 in
theorem az_kl_21 : az_ckr 258 1344 64 = true := by decide +kernel
set_option maxRecDepth 100000 in
theorem az_kl_22 : az_ckr 258 1408 64 = true := by decide +kernel
set_option maxRecDepth 100000 in
theorem az_kl_23 : az_ckr 258 1472 64 = true := by decide +kernel
set_option maxRecDepth 100000 in
theorem az_kl_24 : az_ckr 258 1536 64 = true := by decide +kernel
set_option maxRecDepth 100000 in
theorem az_kl_25 : az_ckr 258 1600 64 = true := by decide +kernel
set_option maxRecDepth 100000 in
theorem az_kl_26 : az_ckr 258 1664 64 = true := by decide +kernel
set_option maxRecDepth 100000 in
theorem az_kl_27 : az_ckr 258 1728 64 = true := by decide +kernel
set_option maxRecDepth 100000 in
theorem az_kl_28 : az_ckr 258 1792 64 = true := by decide +kernel
