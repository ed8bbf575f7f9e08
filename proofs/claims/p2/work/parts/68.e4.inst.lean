set_option maxRecDepth 20000 in
theorem yCe_ok0 : ((yCeL.drop 0).take 20).all (fun q => yCeF q.1 q.2.1 q.2.2) = true := by decide +kernel
set_option maxRecDepth 20000 in
theorem yCe_ok1 : ((yCeL.drop 20).take 20).all (fun q => yCeF q.1 q.2.1 q.2.2) = true := by decide +kernel
set_option maxRecDepth 20000 in
theorem yCe_ok2 : ((yCeL.drop 40).take 20).all (fun q => yCeF q.1 q.2.1 q.2.2) = true := by decide +kernel
set_option maxRecDepth 20000 in
theorem yCe_ok3 : ((yCeL.drop 60).take 20).all (fun q => yCeF q.1 q.2.1 q.2.2) = true := by decide +kernel
