set_option maxRecDepth 20000 in
theorem yCe_ok9 : ((yCeL.drop 180).take 20).all (fun q => yCeF q.1 q.2.1 q.2.2) = true := by decide +kernel
set_option maxRecDepth 20000 in
theorem yCe_ok10 : ((yCeL.drop 200).take 20).all (fun q => yCeF q.1 q.2.1 q.2.2) = true := by decide +kernel
set_option maxRecDepth 20000 in
theorem yCe_ok11 : ((yCeL.drop 220).take 20).all (fun q => yCeF q.1 q.2.1 q.2.2) = true := by decide +kernel
set_option maxRecDepth 20000 in
theorem yCe_ok12 : ((yCeL.drop 240).take 20).all (fun q => yCeF q.1 q.2.1 q.2.2) = true := by decide +kernel
set_option maxRecDepth 20000 in
theorem yCe_ok13 : ((yCeL.drop 260).take 20).all (fun q => yCeF q.1 q.2.1 q.2.2) = true := by decide +kernel
