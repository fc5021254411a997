
theorem d_LAW_1322 : decode code 1322 = .ok (.aload_n 1, 1) := by decide +kernel
theorem d_LAW_1323 : decode code 1323 = .ok (.aload_n 0, 1) := by decide +kernel
theorem d_LAW_1324 : decode code 1324 = .ok (.iload 4, 2) := by decide +kernel
theorem d_LAW_1326 : decode code 1326 = .ok (.iconst 1, 1) := by decide +kernel
theorem d_LAW_1327 : decode code 1327 = .ok (.iadd, 1) := by decide +kernel
theorem d_LAW_1328 : decode code 1328 = .ok (.iaload, 1) := by decide +kernel
theorem d_LAW_1329 : decode code 1329 = .ok (.aload_n 0, 1) := by decide +kernel
theorem d_LAW_1330 : decode code 1330 = .ok (.iload 4, 2) := by decide +kernel
theorem d_LAW_1332 : decode code 1332 = .ok (.iconst 2, 1) := by decide +kernel
theorem d_LAW_1333 : decode code 1333 = .ok (.iadd, 1) := by decide +kernel
theorem d_LAW_1334 : decode code 1334 = .ok (.iaload, 1) := by decide +kernel
theorem d_LAW_1335 : decode code 1335 = .ok (.i2l, 1) := by decide +kernel
theorem d_LAW_1336 : decode code 1336 = .ok (.bipush 32, 2) := by decide +kernel
theorem d_LAW_1338 : decode code 1338 = .ok (.lshl, 1) := by decide +kernel
theorem d_LAW_1339 : decode code 1339 = .ok (.aload_n 0, 1) := by decide +kernel
theorem d_LAW_1340 : decode code 1340 = .ok (.iload 4, 2) := by decide +kernel
theorem d_LAW_1342 : decode code 1342 = .ok (.iconst 3, 1) := by decide +kernel
theorem d_LAW_1343 : decode code 1343 = .ok (.iadd, 1) := by decide +kernel
theorem d_LAW_1344 : decode code 1344 = .ok (.iaload, 1) := by decide +kernel
theorem d_LAW_1345 : decode code 1345 = .ok (.i2l, 1) := by decide +kernel
theorem d_LAW_1346 : decode code 1346 = .ok (.ldc2_w 97, 3) := by decide +kernel
theorem d_LAW_1349 : decode code 1349 = .ok (.land, 1) := by decide +kernel
theorem d_LAW_1350 : decode code 1350 = .ok (.lor, 1) := by decide +kernel
theorem d_LAW_1351 : decode code 1351 = .ok (.aload_n 3, 1) := by decide +kernel
theorem d_LAW_1352 : decode code 1352 = .ok (.invokestatic 160, 3) := by decide +kernel
theorem d_LAW_1355 : decode code 1355 = .ok (.istore 5, 2) := by decide +kernel
theorem d_LAW_1357 : decode code 1357 = .ok (.aload_n 2, 1) := by decide +kernel
theorem d_LAW_1358 : decode code 1358 = .ok (.aload_n 0, 1) := by decide +kernel
theorem d_LAW_1359 : decode code 1359 = .ok (.iload 4, 2) := by decide +kernel
theorem d_LAW_1361 : decode code 1361 = .ok (.iconst 1, 1) := by decide +kernel
theorem d_LAW_1362 : decode code 1362 = .ok (.iadd, 1) := by decide +kernel
theorem d_LAW_1363 : decode code 1363 = .ok (.iaload, 1) := by decide +kernel
theorem d_LAW_1364 : decode code 1364 = .ok (.aload_n 0, 1) := by decide +kernel
theorem d_LAW_1365 : decode code 1365 = .ok (.iload 4, 2) := by decide +kernel
theorem d_LAW_1367 : decode code 1367 = .ok (.iconst 2, 1) := by decide +kernel
theorem d_LAW_1368 : decode code 1368 = .ok (.iadd, 1) := by decide +kernel
theorem d_LAW_1369 : decode code 1369 = .ok (.iaload, 1) := by decide +kernel
theorem d_LAW_1370 : decode code 1370 = .ok (.i2l, 1) := by decide +kernel
theorem d_LAW_1371 : decode code 1371 = .ok (.bipush 32, 2) := by decide +kernel
theorem d_LAW_1373 : decode code 1373 = .ok (.lshl, 1) := by decide +kernel
theorem d_LAW_1374 : decode code 1374 = .ok (.aload_n 0, 1) := by decide +kernel
theorem d_LAW_1375 : decode code 1375 = .ok (.iload 4, 2) := by decide +kernel
theorem d_LAW_1377 : decode code 1377 = .ok (.iconst 3, 1) := by decide +kernel
theorem d_LAW_1378 : decode code 1378 = .ok (.iadd, 1) := by decide +kernel
theorem d_LAW_1379 : decode code 1379 = .ok (.iaload, 1) := by decide +kernel
theorem d_LAW_1380 : decode code 1380 = .ok (.i2l, 1) := by decide +kernel
theorem d_LAW_1381 : decode code 1381 = .ok (.ldc2_w 97, 3) := by decide +kernel
theorem d_LAW_1384 : decode code 1384 = .ok (.land, 1) := by decide +kernel
theorem d_LAW_1385 : decode code 1385 = .ok (.lor, 1) := by decide +kernel
theorem d_LAW_1386 : decode code 1386 = .ok (.invokevirtual 162, 3) := by decide +kernel
theorem d_LAW_1389 : decode code 1389 = .ok (.istore 6, 2) := by decide +kernel
theorem d_LAW_1391 : decode code 1391 = .ok (.aload_n 2, 1) := by decide +kernel
theorem d_LAW_1392 : decode code 1392 = .ok (.invokevirtual 105, 3) := by decide +kernel
theorem d_LAW_1395 : decode code 1395 = .ok (.iload 5, 2) := by decide +kernel
theorem d_LAW_1397 : decode code 1397 = .ok (.if_icmp .eq 5, 3) := by decide +kernel
theorem d_LAW_1400 : decode code 1400 = .ok (.iconst 0, 1) := by decide +kernel
theorem d_LAW_1401 : decode code 1401 = .ok (.ireturn, 1) := by decide +kernel
theorem d_LAW_1402 : decode code 1402 = .ok (.iload 5, 2) := by decide +kernel
theorem d_LAW_1404 : decode code 1404 = .ok (.ifCond .ne 15, 3) := by decide +kernel
theorem d_LAW_1407 : decode code 1407 = .ok (.aload_n 3, 1) := by decide +kernel
theorem d_LAW_1408 : decode code 1408 = .ok (.iconst 0, 1) := by decide +kernel
theorem d_LAW_1409 : decode code 1409 = .ok (.laload, 1) := by decide +kernel
theorem d_LAW_1410 : decode code 1410 = .ok (.iload 6, 2) := by decide +kernel
theorem d_LAW_1412 : decode code 1412 = .ok (.i2l, 1) := by decide +kernel
theorem d_LAW_1413 : decode code 1413 = .ok (.lcmp, 1) := by decide +kernel
theorem d_LAW_1414 : decode code 1414 = .ok (.ifCond .eq 5, 3) := by decide +kernel
theorem d_LAW_1417 : decode code 1417 = .ok (.iconst 0, 1) := by decide +kernel
theorem d_LAW_1418 : decode code 1418 = .ok (.ireturn, 1) := by decide +kernel
theorem d_LAW_1419 : decode code 1419 = .ok (.goto 756, 3) := by decide +kernel
theorem d_LAW_1422 : decode code 1422 = .ok (.aload_n 1, 1) := by decide +kernel
theorem d_LAW_1423 : decode code 1423 = .ok (.aload_n 0, 1) := by decide +kernel
theorem d_LAW_1424 : decode code 1424 = .ok (.iload 4, 2) := by decide +kernel
theorem d_LAW_1426 : decode code 1426 = .ok (.iconst 1, 1) := by decide +kernel
theorem d_LAW_1427 : decode code 1427 = .ok (.iadd, 1) := by decide +kernel
theorem d_LAW_1428 : decode code 1428 = .ok (.iaload, 1) := by decide +kernel
theorem d_LAW_1429 : decode code 1429 = .ok (.aload_n 3, 1) := by decide +kernel
theorem d_LAW_1430 : decode code 1430 = .ok (.invokestatic 163, 3) := by decide +kernel
theorem d_LAW_1433 : decode code 1433 = .ok (.istore 5, 2) := by decide +kernel
theorem d_LAW_1435 : decode code 1435 = .ok (.aload_n 2, 1) := by decide +kernel
theorem d_LAW_1436 : decode code 1436 = .ok (.aload_n 0, 1) := by decide +kernel
theorem d_LAW_1437 : decode code 1437 = .ok (.iload 4, 2) := by decide +kernel
theorem d_LAW_1439 : decode code 1439 = .ok (.iconst 1, 1) := by decide +kernel
theorem d_LAW_1440 : decode code 1440 = .ok (.iadd, 1) := by decide +kernel
theorem d_LAW_1441 : decode code 1441 = .ok (.iaload, 1) := by decide +kernel
theorem d_LAW_1442 : decode code 1442 = .ok (.invokevirtual 165, 3) := by decide +kernel
theorem d_LAW_1445 : decode code 1445 = .ok (.lstore 6, 2) := by decide +kernel
theorem d_LAW_1447 : decode code 1447 = .ok (.aload_n 2, 1) := by decide +kernel
theorem d_LAW_1448 : decode code 1448 = .ok (.invokevirtual 105, 3) := by decide +kernel
theorem d_LAW_1451 : decode code 1451 = .ok (.iload 5, 2) := by decide +kernel
theorem d_LAW_1453 : decode code 1453 = .ok (.if_icmp .eq 5, 3) := by decide +kernel
theorem d_LAW_1456 : decode code 1456 = .ok (.iconst 0, 1) := by decide +kernel
theorem d_LAW_1457 : decode code 1457 = .ok (.ireturn, 1) := by decide +kernel
theorem d_LAW_1458 : decode code 1458 = .ok (.iload 5, 2) := by decide +kernel
theorem d_LAW_1460 : decode code 1460 = .ok (.ifCond .ne 14, 3) := by decide +kernel
theorem d_LAW_1463 : decode code 1463 = .ok (.aload_n 3, 1) := by decide +kernel
theorem d_LAW_1464 : decode code 1464 = .ok (.iconst 0, 1) := by decide +kernel
theorem d_LAW_1465 : decode code 1465 = .ok (.laload, 1) := by decide +kernel
theorem d_LAW_1466 : decode code 1466 = .ok (.lload 6, 2) := by decide +kernel
theorem d_LAW_1468 : decode code 1468 = .ok (.lcmp, 1) := by decide +kernel
theorem d_LAW_1469 : decode code 1469 = .ok (.ifCond .eq 5, 3) := by decide +kernel
theorem d_LAW_1472 : decode code 1472 = .ok (.iconst 0, 1) := by decide +kernel
theorem d_LAW_1473 : decode code 1473 = .ok (.ireturn, 1) := by decide +kernel
theorem d_LAW_1474 : decode code 1474 = .ok (.goto 701, 3) := by decide +kernel
theorem d_LAW_1477 : decode code 1477 = .ok (.aload_n 1, 1) := by decide +kernel
theorem d_LAW_1478 : decode code 1478 = .ok (.aload_n 0, 1) := by decide +kernel
theorem d_LAW_1479 : decode code 1479 = .ok (.iload 4, 2) := by decide +kernel
theorem d_LAW_1481 : decode code 1481 = .ok (.iconst 1, 1) := by decide +kernel
theorem d_LAW_1482 : decode code 1482 = .ok (.iadd, 1) := by decide +kernel
theorem d_LAW_1483 : decode code 1483 = .ok (.iaload, 1) := by decide +kernel
theorem d_LAW_1484 : decode code 1484 = .ok (.aload_n 0, 1) := by decide +kernel
theorem d_LAW_1485 : decode code 1485 = .ok (.iload 4, 2) := by decide +kernel
theorem d_LAW_1487 : decode code 1487 = .ok (.iconst 2, 1) := by decide +kernel
theorem d_LAW_1488 : decode code 1488 = .ok (.iadd, 1) := by decide +kernel
theorem d_LAW_1489 : decode code 1489 = .ok (.iaload, 1) := by decide +kernel
theorem d_LAW_1490 : decode code 1490 = .ok (.i2l, 1) := by decide +kernel
theorem d_LAW_1491 : decode code 1491 = .ok (.bipush 32, 2) := by decide +kernel
theorem d_LAW_1493 : decode code 1493 = .ok (.lshl, 1) := by decide +kernel
theorem d_LAW_1494 : decode code 1494 = .ok (.aload_n 0, 1) := by decide +kernel
theorem d_LAW_1495 : decode code 1495 = .ok (.iload 4, 2) := by decide +kernel
theorem d_LAW_1497 : decode code 1497 = .ok (.iconst 3, 1) := by decide +kernel
theorem d_LAW_1498 : decode code 1498 = .ok (.iadd, 1) := by decide +kernel
theorem d_LAW_1499 : decode code 1499 = .ok (.iaload, 1) := by decide +kernel
theorem d_LAW_1500 : decode code 1500 = .ok (.i2l, 1) := by decide +kernel
theorem d_LAW_1501 : decode code 1501 = .ok (.ldc2_w 97, 3) := by decide +kernel
theorem d_LAW_1504 : decode code 1504 = .ok (.land, 1) := by decide +kernel
theorem d_LAW_1505 : decode code 1505 = .ok (.lor, 1) := by decide +kernel
theorem d_LAW_1506 : decode code 1506 = .ok (.aload_n 3, 1) := by decide +kernel
theorem d_LAW_1507 : decode code 1507 = .ok (.invokestatic 166, 3) := by decide +kernel
theorem d_LAW_1510 : decode code 1510 = .ok (.istore 5, 2) := by decide +kernel
theorem d_LAW_1512 : decode code 1512 = .ok (.aload_n 2, 1) := by decide +kernel
theorem d_LAW_1513 : decode code 1513 = .ok (.aload_n 0, 1) := by decide +kernel
theorem d_LAW_1514 : decode code 1514 = .ok (.iload 4, 2) := by decide +kernel
theorem d_LAW_1516 : decode code 1516 = .ok (.iconst 1, 1) := by decide +kernel
theorem d_LAW_1517 : decode code 1517 = .ok (.iadd, 1) := by decide +kernel
theorem d_LAW_1518 : decode code 1518 = .ok (.iaload, 1) := by decide +kernel
theorem d_LAW_1519 : decode code 1519 = .ok (.aload_n 0, 1) := by decide +kernel
theorem d_LAW_1520 : decode code 1520 = .ok (.iload 4, 2) := by decide +kernel
theorem d_LAW_1522 : decode code 1522 = .ok (.iconst 2, 1) := by decide +kernel
theorem d_LAW_1523 : decode code 1523 = .ok (.iadd, 1) := by decide +kernel
theorem d_LAW_1524 : decode code 1524 = .ok (.iaload, 1) := by decide +kernel
theorem d_LAW_1525 : decode code 1525 = .ok (.i2l, 1) := by decide +kernel
theorem d_LAW_1526 : decode code 1526 = .ok (.bipush 32, 2) := by decide +kernel
theorem d_LAW_1528 : decode code 1528 = .ok (.lshl, 1) := by decide +kernel
theorem d_LAW_1529 : decode code 1529 = .ok (.aload_n 0, 1) := by decide +kernel
theorem d_LAW_1530 : decode code 1530 = .ok (.iload 4, 2) := by decide +kernel
theorem d_LAW_1532 : decode code 1532 = .ok (.iconst 3, 1) := by decide +kernel
theorem d_LAW_1533 : decode code 1533 = .ok (.iadd, 1) := by decide +kernel
theorem d_LAW_1534 : decode code 1534 = .ok (.iaload, 1) := by decide +kernel
theorem d_LAW_1535 : decode code 1535 = .ok (.i2l, 1) := by decide +kernel
theorem d_LAW_1536 : decode code 1536 = .ok (.ldc2_w 97, 3) := by decide +kernel
theorem d_LAW_1539 : decode code 1539 = .ok (.land, 1) := by decide +kernel
theorem d_LAW_1540 : decode code 1540 = .ok (.lor, 1) := by decide +kernel
theorem d_LAW_1541 : decode code 1541 = .ok (.invokevirtual 168, 3) := by decide +kernel
theorem d_LAW_1544 : decode code 1544 = .ok (.lstore 6, 2) := by decide +kernel
theorem d_LAW_1546 : decode code 1546 = .ok (.aload_n 2, 1) := by decide +kernel
theorem d_LAW_1547 : decode code 1547 = .ok (.invokevirtual 105, 3) := by decide +kernel
theorem d_LAW_1550 : decode code 1550 = .ok (.iload 5, 2) := by decide +kernel
theorem d_LAW_1552 : decode code 1552 = .ok (.if_icmp .eq 5, 3) := by decide +kernel
theorem d_LAW_1555 : decode code 1555 = .ok (.iconst 0, 1) := by decide +kernel
theorem d_LAW_1556 : decode code 1556 = .ok (.ireturn, 1) := by decide +kernel
theorem d_LAW_1557 : decode code 1557 = .ok (.iload 5, 2) := by decide +kernel
theorem d_LAW_1559 : decode code 1559 = .ok (.ifCond .ne 14, 3) := by decide +kernel
theorem d_LAW_1562 : decode code 1562 = .ok (.aload_n 3, 1) := by decide +kernel
theorem d_LAW_1563 : decode code 1563 = .ok (.iconst 0, 1) := by decide +kernel
theorem d_LAW_1564 : decode code 1564 = .ok (.laload, 1) := by decide +kernel
theorem d_LAW_1565 : decode code 1565 = .ok (.lload 6, 2) := by decide +kernel
theorem d_LAW_1567 : decode code 1567 = .ok (.lcmp, 1) := by decide +kernel
theorem d_LAW_1568 : decode code 1568 = .ok (.ifCond .eq 5, 3) := by decide +kernel
theorem d_LAW_1571 : decode code 1571 = .ok (.iconst 0, 1) := by decide +kernel
theorem d_LAW_1572 : decode code 1572 = .ok (.ireturn, 1) := by decide +kernel
theorem d_LAW_1573 : decode code 1573 = .ok (.goto 602, 3) := by decide +kernel
theorem d_LAW_1576 : decode code 1576 = .ok (.aload_n 1, 1) := by decide +kernel
theorem d_LAW_1577 : decode code 1577 = .ok (.aload_n 0, 1) := by decide +kernel
theorem d_LAW_1578 : decode code 1578 = .ok (.iload 4, 2) := by decide +kernel
theorem d_LAW_1580 : decode code 1580 = .ok (.iconst 1, 1) := by decide +kernel
theorem d_LAW_1581 : decode code 1581 = .ok (.iadd, 1) := by decide +kernel
theorem d_LAW_1582 : decode code 1582 = .ok (.iaload, 1) := by decide +kernel
theorem d_LAW_1583 : decode code 1583 = .ok (.aload_n 0, 1) := by decide +kernel
theorem d_LAW_1584 : decode code 1584 = .ok (.iload 4, 2) := by decide +kernel
theorem d_LAW_1586 : decode code 1586 = .ok (.iconst 2, 1) := by decide +kernel
theorem d_LAW_1587 : decode code 1587 = .ok (.iadd, 1) := by decide +kernel
theorem d_LAW_1588 : decode code 1588 = .ok (.iaload, 1) := by decide +kernel
theorem d_LAW_1589 : decode code 1589 = .ok (.i2l, 1) := by decide +kernel
theorem d_LAW_1590 : decode code 1590 = .ok (.bipush 32, 2) := by decide +kernel
theorem d_LAW_1592 : decode code 1592 = .ok (.lshl, 1) := by decide +kernel
theorem d_LAW_1593 : decode code 1593 = .ok (.aload_n 0, 1) := by decide +kernel
theorem d_LAW_1594 : decode code 1594 = .ok (.iload 4, 2) := by decide +kernel
theorem d_LAW_1596 : decode code 1596 = .ok (.iconst 3, 1) := by decide +kernel
theorem d_LAW_1597 : decode code 1597 = .ok (.iadd, 1) := by decide +kernel
theorem d_LAW_1598 : decode code 1598 = .ok (.iaload, 1) := by decide +kernel
theorem d_LAW_1599 : decode code 1599 = .ok (.i2l, 1) := by decide +kernel
theorem d_LAW_1600 : decode code 1600 = .ok (.ldc2_w 97, 3) := by decide +kernel
theorem d_LAW_1603 : decode code 1603 = .ok (.land, 1) := by decide +kernel
theorem d_LAW_1604 : decode code 1604 = .ok (.lor, 1) := by decide +kernel
theorem d_LAW_1605 : decode code 1605 = .ok (.aload_n 3, 1) := by decide +kernel
theorem d_LAW_1606 : decode code 1606 = .ok (.invokestatic 169, 3) := by decide +kernel
theorem d_LAW_1609 : decode code 1609 = .ok (.istore 5, 2) := by decide +kernel
theorem d_LAW_1611 : decode code 1611 = .ok (.aload_n 2, 1) := by decide +kernel
theorem d_LAW_1612 : decode code 1612 = .ok (.aload_n 0, 1) := by decide +kernel
theorem d_LAW_1613 : decode code 1613 = .ok (.iload 4, 2) := by decide +kernel
theorem d_LAW_1615 : decode code 1615 = .ok (.iconst 1, 1) := by decide +kernel
theorem d_LAW_1616 : decode code 1616 = .ok (.iadd, 1) := by decide +kernel
theorem d_LAW_1617 : decode code 1617 = .ok (.iaload, 1) := by decide +kernel
theorem d_LAW_1618 : decode code 1618 = .ok (.aload_n 0, 1) := by decide +kernel
theorem d_LAW_1619 : decode code 1619 = .ok (.iload 4, 2) := by decide +kernel
theorem d_LAW_1621 : decode code 1621 = .ok (.iconst 2, 1) := by decide +kernel
theorem d_LAW_1622 : decode code 1622 = .ok (.iadd, 1) := by decide +kernel
theorem d_LAW_1623 : decode code 1623 = .ok (.iaload, 1) := by decide +kernel
theorem d_LAW_1624 : decode code 1624 = .ok (.i2l, 1) := by decide +kernel
theorem d_LAW_1625 : decode code 1625 = .ok (.bipush 32, 2) := by decide +kernel
theorem d_LAW_1627 : decode code 1627 = .ok (.lshl, 1) := by decide +kernel
theorem d_LAW_1628 : decode code 1628 = .ok (.aload_n 0, 1) := by decide +kernel
theorem d_LAW_1629 : decode code 1629 = .ok (.iload 4, 2) := by decide +kernel
theorem d_LAW_1631 : decode code 1631 = .ok (.iconst 3, 1) := by decide +kernel
theorem d_LAW_1632 : decode code 1632 = .ok (.iadd, 1) := by decide +kernel
theorem d_LAW_1633 : decode code 1633 = .ok (.iaload, 1) := by decide +kernel
theorem d_LAW_1634 : decode code 1634 = .ok (.i2l, 1) := by decide +kernel
theorem d_LAW_1635 : decode code 1635 = .ok (.ldc2_w 97, 3) := by decide +kernel
theorem d_LAW_1638 : decode code 1638 = .ok (.land, 1) := by decide +kernel
theorem d_LAW_1639 : decode code 1639 = .ok (.lor, 1) := by decide +kernel
theorem d_LAW_1640 : decode code 1640 = .ok (.invokevirtual 171, 3) := by decide +kernel
theorem d_LAW_1643 : decode code 1643 = .ok (.lstore 6, 2) := by decide +kernel
theorem d_LAW_1645 : decode code 1645 = .ok (.aload_n 2, 1) := by decide +kernel
theorem d_LAW_1646 : decode code 1646 = .ok (.invokevirtual 105, 3) := by decide +kernel
theorem d_LAW_1649 : decode code 1649 = .ok (.iload 5, 2) := by decide +kernel
theorem d_LAW_1651 : decode code 1651 = .ok (.if_icmp .eq 5, 3) := by decide +kernel
theorem d_LAW_1654 : decode code 1654 = .ok (.iconst 0, 1) := by decide +kernel
theorem d_LAW_1655 : decode code 1655 = .ok (.ireturn, 1) := by decide +kernel
theorem d_LAW_1656 : decode code 1656 = .ok (.iload 5, 2) := by decide +kernel
theorem d_LAW_1658 : decode code 1658 = .ok (.ifCond .ne 14, 3) := by decide +kernel
theorem d_LAW_1661 : decode code 1661 = .ok (.aload_n 3, 1) := by decide +kernel
theorem d_LAW_1662 : decode code 1662 = .ok (.iconst 0, 1) := by decide +kernel
theorem d_LAW_1663 : decode code 1663 = .ok (.laload, 1) := by decide +kernel
theorem d_LAW_1664 : decode code 1664 = .ok (.lload 6, 2) := by decide +kernel
theorem d_LAW_1666 : decode code 1666 = .ok (.lcmp, 1) := by decide +kernel
theorem d_LAW_1667 : decode code 1667 = .ok (.ifCond .eq 5, 3) := by decide +kernel
theorem d_LAW_1670 : decode code 1670 = .ok (.iconst 0, 1) := by decide +kernel
theorem d_LAW_1671 : decode code 1671 = .ok (.ireturn, 1) := by decide +kernel
theorem d_LAW_1672 : decode code 1672 = .ok (.goto 503, 3) := by decide +kernel
theorem d_LAW_1675 : decode code 1675 = .ok (.aload_n 1, 1) := by decide +kernel
theorem d_LAW_1676 : decode code 1676 = .ok (.aload_n 0, 1) := by decide +kernel
theorem d_LAW_1677 : decode code 1677 = .ok (.iload 4, 2) := by decide +kernel
theorem d_LAW_1679 : decode code 1679 = .ok (.iconst 1, 1) := by decide +kernel
theorem d_LAW_1680 : decode code 1680 = .ok (.iadd, 1) := by decide +kernel
theorem d_LAW_1681 : decode code 1681 = .ok (.iaload, 1) := by decide +kernel
theorem d_LAW_1682 : decode code 1682 = .ok (.aload_n 0, 1) := by decide +kernel
theorem d_LAW_1683 : decode code 1683 = .ok (.iload 4, 2) := by decide +kernel
theorem d_LAW_1685 : decode code 1685 = .ok (.iconst 2, 1) := by decide +kernel
theorem d_LAW_1686 : decode code 1686 = .ok (.iadd, 1) := by decide +kernel
theorem d_LAW_1687 : decode code 1687 = .ok (.iaload, 1) := by decide +kernel
theorem d_LAW_1688 : decode code 1688 = .ok (.aload_n 3, 1) := by decide +kernel
theorem d_LAW_1689 : decode code 1689 = .ok (.invokestatic 172, 3) := by decide +kernel
theorem d_LAW_1692 : decode code 1692 = .ok (.istore 5, 2) := by decide +kernel
theorem d_LAW_1694 : decode code 1694 = .ok (.aload_n 2, 1) := by decide +kernel
theorem d_LAW_1695 : decode code 1695 = .ok (.aload_n 0, 1) := by decide +kernel
theorem d_LAW_1696 : decode code 1696 = .ok (.iload 4, 2) := by decide +kernel
theorem d_LAW_1698 : decode code 1698 = .ok (.iconst 1, 1) := by decide +kernel
theorem d_LAW_1699 : decode code 1699 = .ok (.iadd, 1) := by decide +kernel
theorem d_LAW_1700 : decode code 1700 = .ok (.iaload, 1) := by decide +kernel
theorem d_LAW_1701 : decode code 1701 = .ok (.aload_n 0, 1) := by decide +kernel
theorem d_LAW_1702 : decode code 1702 = .ok (.iload 4, 2) := by decide +kernel
theorem d_LAW_1704 : decode code 1704 = .ok (.iconst 2, 1) := by decide +kernel
theorem d_LAW_1705 : decode code 1705 = .ok (.iadd, 1) := by decide +kernel
theorem d_LAW_1706 : decode code 1706 = .ok (.iaload, 1) := by decide +kernel
theorem d_LAW_1707 : decode code 1707 = .ok (.invokevirtual 174, 3) := by decide +kernel
theorem d_LAW_1710 : decode code 1710 = .ok (.istore 6, 2) := by decide +kernel
theorem d_LAW_1712 : decode code 1712 = .ok (.aload_n 2, 1) := by decide +kernel
theorem d_LAW_1713 : decode code 1713 = .ok (.invokevirtual 105, 3) := by decide +kernel
theorem d_LAW_1716 : decode code 1716 = .ok (.iload 5, 2) := by decide +kernel
theorem d_LAW_1718 : decode code 1718 = .ok (.if_icmp .eq 5, 3) := by decide +kernel
theorem d_LAW_1721 : decode code 1721 = .ok (.iconst 0, 1) := by decide +kernel
theorem d_LAW_1722 : decode code 1722 = .ok (.ireturn, 1) := by decide +kernel
theorem d_LAW_1723 : decode code 1723 = .ok (.iload 5, 2) := by decide +kernel
theorem d_LAW_1725 : decode code 1725 = .ok (.ifCond .ne 15, 3) := by decide +kernel
theorem d_LAW_1728 : decode code 1728 = .ok (.aload_n 3, 1) := by decide +kernel
theorem d_LAW_1729 : decode code 1729 = .ok (.iconst 0, 1) := by decide +kernel
theorem d_LAW_1730 : decode code 1730 = .ok (.laload, 1) := by decide +kernel
theorem d_LAW_1731 : decode code 1731 = .ok (.iload 6, 2) := by decide +kernel
theorem d_LAW_1733 : decode code 1733 = .ok (.i2l, 1) := by decide +kernel
theorem d_LAW_1734 : decode code 1734 = .ok (.lcmp, 1) := by decide +kernel
theorem d_LAW_1735 : decode code 1735 = .ok (.ifCond .eq 5, 3) := by decide +kernel
theorem d_LAW_1738 : decode code 1738 = .ok (.iconst 0, 1) := by decide +kernel
theorem d_LAW_1739 : decode code 1739 = .ok (.ireturn, 1) := by decide +kernel
theorem d_LAW_1740 : decode code 1740 = .ok (.goto 435, 3) := by decide +kernel
section
variable {p : Program} {l : Launch} {e : Env} {R : Room} {s : State} {m : MethodId} {args : Array Value} {below : List Frame} {meth : Method} {c : Code} {H : Heap} {locs : List Loc} {cells slots : Nat} {Q : State → Prop} {ls : Array Slot} {dC : Nat → ClassId} {dI : Nat → Nat → Nat} {hx hm o : Nat} {S : CS} {M : MS} {a : Int64} {b L : Nat} {xs : Nat → Int32}
set_option maxRecDepth 100000 in
set_option maxHeartbeats 1000000 in
theorem law_find (C0 : Cx p s m meth c args R code "ZoneFilesLaw" 8 (some .boolean) 12 518) (hLX : LX s b L xs) (hno : NT l) (nf : Nat) {i : Int32} (h1 : vp_in (i + 1) L) (h2 : vp_in (i + 2) L) (h3 : vp_in (i + 3) L) (hLA : LA dC dI s hx hm o S M a H locs) (hl : lv_has ls 8 [(0, .ref b), (1, .ref hx), (2, .ref hm), (3, .ref o), (4, .int i)]) {S' : CS} {k : Int32} {ans : Int64} {kc ks : Nat} (hc : cq_find nf S (xs (i + 1).toNatClampNeg) (((xs (i + 2).toNatClampNeg).toInt64 <<< ((32 : Int32).toInt64 &&& 63)) ||| ((xs (i + 3).toNatClampNeg).toInt64 &&& 4294967295)) = some (k, ans, S', kc, ks)) {r0 : Int32} {M' : MS} (hm1 : f_Mo_find nf (xs (i + 1).toNatClampNeg) (((xs (i + 2).toNatClampNeg).toInt64 <<< ((32 : Int32).toInt64 &&& 63)) ||| ((xs (i + 3).toNatClampNeg).toInt64 &&& 4294967295)) M.1 M.2.1 M.2.2.1 M.2.2.2 = some (r0, M')) (ht : f_Mo_thrown nf M'.1 M'.2.1 M'.2.2.1 M'.2.2.2 = some k) (he : k = 0 → ans = r0.toInt64) (hcell : cells + kc ≤ R.cells) (hslot : slots + ks ≤ R.slots)
    (kk : ∀ (H1 : Heap) (locs1 : List Loc) (a1 : Int64) (ls1 : Array Slot), LA dC dI s hx hm o S' M' a1 H1 locs1 → lv_has ls1 8 [(0, .ref b), (1, .ref hx), (2, .ref hm), (3, .ref o), (4, .int i)] → W p l e R s m args below meth c H1 locs1 (cells + kc) (slots + ks) Q (F0 m 2175 ls1 [])) : W p l e R s m args below meth c H locs cells slots Q (F0 m 1322 ls []) := by
  obtain ⟨hx', hb, hr, hml, hown, hts, hlocks, hRf, hRl⟩ := id C0
  obtain ⟨vi, vj, va, vb⟩ := M'
  refine lv_aload_n hx' hb d_LAW_1322 rfl (lv_at hl 1 rfl) ?_
  refine lv_aload_n hx' hb d_LAW_1323 rfl (lv_at hl 0 rfl) ?_
  refine lv_iload hx' hb d_LAW_1324 (lv_at hl 4 rfl) ?_
  refine lv_iconst (v := 1) hx' hb d_LAW_1326 (by decide) ?_
  refine lv_iadd hx' hb d_LAW_1327 ?_
  refine law_ld C0 hLX hLA h1 d_LAW_1328 ?_
  refine lv_aload_n hx' hb d_LAW_1329 rfl (lv_at hl 0 rfl) ?_
  refine lv_iload hx' hb d_LAW_1330 (lv_at hl 4 rfl) ?_
  refine lv_iconst (v := 2) hx' hb d_LAW_1332 (by decide) ?_
  refine lv_iadd hx' hb d_LAW_1333 ?_
  refine law_ld C0 hLX hLA h2 d_LAW_1334 ?_
  refine lv_i2l hx' hb d_LAW_1335 rfl ?_
  refine lv_bipush (v := 32) hx' hb d_LAW_1336 (by decide) ?_
  refine lv_lshl hx' hb d_LAW_1338 rfl ?_
  refine lv_aload_n hx' hb d_LAW_1339 rfl (lv_at hl 0 rfl) ?_
  refine lv_iload hx' hb d_LAW_1340 (lv_at hl 4 rfl) ?_
  refine lv_iconst (v := 3) hx' hb d_LAW_1342 (by decide) ?_
  refine lv_iadd hx' hb d_LAW_1343 ?_
  refine law_ld C0 hLX hLA h3 d_LAW_1344 ?_
  refine lv_i2l hx' hb d_LAW_1345 rfl ?_
  refine lv_ldc2 (v := 4294967295) hx' hb hown (hts (.constantLong "ZoneFilesLaw" 97 4294967295) m_8_234) d_LAW_1346 ?_
  refine lv_land hx' hb d_LAW_1349 ?_
  refine lv_lor hx' hb d_LAW_1350 ?_
  refine lv_aload_n hx' hb d_LAW_1351 rfl (lv_at hl 3 rfl) ?_
  refine law_W (y := y_LW_find) (n := 4) (As := [.ref hx, .int (xs (i + 1).toNatClampNeg), .long (((xs (i + 2).toNatClampNeg).toInt64 <<< ((32 : Int32).toInt64 &&& 63)) ||| ((xs (i + 3).toNatClampNeg).toInt64 &&& 4294967295)), .ref o]) (rest := []) C0 hLX hLA (fun ad cA za zad zcA cO f => q_find l hno dC dI hx ad cA za zad zcA S nf (xs (i + 1).toNatClampNeg) (((xs (i + 2).toNatClampNeg).toInt64 <<< ((32 : Int32).toInt64 &&& 63)) ||| ((xs (i + 3).toNatClampNeg).toInt64 &&& 4294967295)) hc o cO f) m_5_111 m_5_112 m_1_0 m_5_113 (by decide +kernel) ⟨Nat.le_trans (Nat.le_of_ble_eq_true rfl) hRf, Nat.le_trans (Nat.le_of_ble_eq_true rfl) hRl⟩ ⟨Nat.le_trans (Nat.le_of_ble_eq_true rfl) hRf, Nat.le_trans (Nat.le_of_ble_eq_true rfl) hRl⟩ rfl hl.1 rfl (Nat.le_of_ble_eq_true rfl) d_LAW_1352 ⟨hcell, hslot⟩ (fun H locs a1 ha hLA => ?_)
  refine lv_istore (lv' := [(5, .int k), (0, .ref b), (1, .ref hx), (2, .ref hm), (3, .ref o), (4, .int i)]) hx' hb d_LAW_1355 hl (by decide) rfl (fun ls hl => ?_)
  refine lv_aload_n hx' hb d_LAW_1357 rfl (lv_at hl 3 rfl) ?_
  refine lv_aload_n hx' hb d_LAW_1358 rfl (lv_at hl 1 rfl) ?_
  refine lv_iload hx' hb d_LAW_1359 (lv_at hl 5 rfl) ?_
  refine lv_iconst (v := 1) hx' hb d_LAW_1361 (by decide) ?_
  refine lv_iadd hx' hb d_LAW_1362 ?_
  refine law_ld C0 hLX hLA h1 d_LAW_1363 ?_
  refine lv_aload_n hx' hb d_LAW_1364 rfl (lv_at hl 1 rfl) ?_
  refine lv_iload hx' hb d_LAW_1365 (lv_at hl 5 rfl) ?_
  refine lv_iconst (v := 2) hx' hb d_LAW_1367 (by decide) ?_
  refine lv_iadd hx' hb d_LAW_1368 ?_
  refine law_ld C0 hLX hLA h2 d_LAW_1369 ?_
  refine lv_i2l hx' hb d_LAW_1370 rfl ?_
  refine lv_bipush (v := 32) hx' hb d_LAW_1371 (by decide) ?_
  refine lv_lshl hx' hb d_LAW_1373 rfl ?_
  refine lv_aload_n hx' hb d_LAW_1374 rfl (lv_at hl 1 rfl) ?_
  refine lv_iload hx' hb d_LAW_1375 (lv_at hl 5 rfl) ?_
  refine lv_iconst (v := 3) hx' hb d_LAW_1377 (by decide) ?_
  refine lv_iadd hx' hb d_LAW_1378 ?_
  refine law_ld C0 hLX hLA h3 d_LAW_1379 ?_
  refine lv_i2l hx' hb d_LAW_1380 rfl ?_
  refine lv_ldc2 (v := 4294967295) hx' hb hown (hts (.constantLong "ZoneFilesLaw" 97 4294967295) m_8_234) d_LAW_1381 ?_
  refine lv_land hx' hb d_LAW_1384 ?_
  refine lv_lor hx' hb d_LAW_1385 ?_
  refine law_M (As := [.int (xs (i + 1).toNatClampNeg), .long (((xs (i + 2).toNatClampNeg).toInt64 <<< ((32 : Int32).toInt64 &&& 63)) ||| ((xs (i + 3).toNatClampNeg).toInt64 &&& 4294967295))]) (rest := []) (M' := (vi, vj, va, vb)) C0 hLX hLA (fun r cM => OM.ofMo (fun sz => c_Mo_find l dC dI hm r cM sz nf (xs (i + 1).toNatClampNeg) (((xs (i + 2).toNatClampNeg).toInt64 <<< ((32 : Int32).toInt64 &&& 63)) ||| ((xs (i + 3).toNatClampNeg).toInt64 &&& 4294967295)) M.1 M.2.1 M.2.2.1 M.2.2.2 hm1)) (cwV 2 hts (gdV m_8_58 m_8_59 m_8_60 m_1_10 m_8_61) rfl rfl rfl (by decide +kernel) ⟨Nat.le_trans (Nat.le_of_ble_eq_true rfl) hRf, Nat.le_trans (Nat.le_of_ble_eq_true rfl) hRl⟩) rfl hl.1 rfl (Nat.le_of_ble_eq_true rfl) d_LAW_1386 ⟨hcell, hslot⟩ rfl (fun H locs hLA => ?_)
  refine lv_istore (lv' := [(6, .int r0), (5, .int k), (0, .ref b), (1, .ref hx), (2, .ref hm), (3, .ref o), (4, .int i)]) hx' hb d_LAW_1389 hl (by decide) rfl (fun ls hl => ?_)
  refine lv_aload_n hx' hb d_LAW_1391 rfl (lv_at hl 4 rfl) ?_
  refine law_M (As := []) (rest := []) (M' := (vi, vj, va, vb)) C0 hLX hLA (fun r cM => OM.ofRO (c_Mo_thrown l dC dI hm r cM nf vi vj va vb ht)) (cwV 0 hts (gdV m_7_105 m_7_106 m_7_107 m_1_10 m_7_108) rfl rfl rfl (by decide +kernel) ⟨Nat.le_trans (Nat.le_of_ble_eq_true rfl) hRf, Nat.le_trans (Nat.le_of_ble_eq_true rfl) hRl⟩) rfl hl.1 rfl (Nat.le_of_ble_eq_true rfl) d_LAW_1392 ⟨hcell, hslot⟩ rfl (fun H locs hLA => ?_)
  refine lv_iload hx' hb d_LAW_1395 (lv_at hl 1 rfl) ?_
  refine lv_icmp_eq (tgt := 1402) hx' hb d_LAW_1397 (by decide) (fun _ => ?_) (fun cc => absurd rfl cc)
  refine lv_iload hx' hb d_LAW_1402 (lv_at hl 1 rfl) ?_
  refine lv_if_ne (tgt := 1419) hx' hb d_LAW_1404 (by decide) (fun ck => ?_) (fun ck => ?_)
  · refine lv_goto (tgt := 2175) hx' hb d_LAW_1419 (by decide) ?_
    exact kk _ _ _ _ hLA (lv_sub hl [2, 3, 4, 5, 6] rfl)
  · refine lv_aload_n hx' hb d_LAW_1407 rfl (lv_at hl 5 rfl) ?_
    refine lv_iconst (v := 0) hx' hb d_LAW_1408 (by decide) ?_
    refine law_out C0 hLA d_LAW_1409 ?_
    refine lv_iload hx' hb d_LAW_1410 (lv_at hl 0 rfl) ?_
    refine lv_i2l hx' hb d_LAW_1412 rfl ?_
    refine lc_eq (tgt := 1419) hx' hb d_LAW_1413 d_LAW_1414 (by decide) (fun _ => ?_) (fun cc => absurd ((ha ck).trans (he ck)) cc)
    refine lv_goto (tgt := 2175) hx' hb d_LAW_1419 (by decide) ?_
    exact kk _ _ _ _ hLA (lv_sub hl [2, 3, 4, 5, 6] rfl)
set_option maxRecDepth 100000 in
set_option maxHeartbeats 1000000 in
theorem law_found (C0 : Cx p s m meth c args R code "ZoneFilesLaw" 8 (some .boolean) 12 518) (hLX : LX s b L xs) (hno : NT l) (nf : Nat) {i : Int32} (h1 : vp_in (i + 1) L) (hLA : LA dC dI s hx hm o S M a H locs) (hl : lv_has ls 8 [(0, .ref b), (1, .ref hx), (2, .ref hm), (3, .ref o), (4, .int i)]) {S' : CS} {k : Int32} {ans : Int64} {kc ks : Nat} (hc : cq_found nf S (xs (i + 1).toNatClampNeg) = some (k, ans, S', kc, ks)) {r0 : Int64} {M' : MS} (hm1 : f_Mo_found nf (xs (i + 1).toNatClampNeg) M.1 M.2.1 M.2.2.1 M.2.2.2 = some (r0, M')) (ht : f_Mo_thrown nf M'.1 M'.2.1 M'.2.2.1 M'.2.2.2 = some k) (he : k = 0 → ans = r0) (hcell : cells + kc ≤ R.cells) (hslot : slots + ks ≤ R.slots)
    (kk : ∀ (H1 : Heap) (locs1 : List Loc) (a1 : Int64) (ls1 : Array Slot), LA dC dI s hx hm o S' M' a1 H1 locs1 → lv_has ls1 8 [(0, .ref b), (1, .ref hx), (2, .ref hm), (3, .ref o), (4, .int i)] → W p l e R s m args below meth c H1 locs1 (cells + kc) (slots + ks) Q (F0 m 2175 ls1 [])) : W p l e R s m args below meth c H locs cells slots Q (F0 m 1422 ls []) := by
  obtain ⟨hx', hb, hr, hml, hown, hts, hlocks, hRf, hRl⟩ := id C0
  obtain ⟨vi, vj, va, vb⟩ := M'
  refine lv_aload_n hx' hb d_LAW_1422 rfl (lv_at hl 1 rfl) ?_
  refine lv_aload_n hx' hb d_LAW_1423 rfl (lv_at hl 0 rfl) ?_
  refine lv_iload hx' hb d_LAW_1424 (lv_at hl 4 rfl) ?_
  refine lv_iconst (v := 1) hx' hb d_LAW_1426 (by decide) ?_
  refine lv_iadd hx' hb d_LAW_1427 ?_
  refine law_ld C0 hLX hLA h1 d_LAW_1428 ?_
  refine lv_aload_n hx' hb d_LAW_1429 rfl (lv_at hl 3 rfl) ?_
  refine law_W (y := y_LW_found) (n := 3) (As := [.ref hx, .int (xs (i + 1).toNatClampNeg), .ref o]) (rest := []) C0 hLX hLA (fun ad cA za zad zcA cO f => q_found l hno dC dI hx ad cA za zad zcA S nf (xs (i + 1).toNatClampNeg) hc o cO f) m_5_122 m_5_123 m_1_0 m_5_124 (by decide +kernel) ⟨Nat.le_trans (Nat.le_of_ble_eq_true rfl) hRf, Nat.le_trans (Nat.le_of_ble_eq_true rfl) hRl⟩ ⟨Nat.le_trans (Nat.le_of_ble_eq_true rfl) hRf, Nat.le_trans (Nat.le_of_ble_eq_true rfl) hRl⟩ rfl hl.1 rfl (Nat.le_of_ble_eq_true rfl) d_LAW_1430 ⟨hcell, hslot⟩ (fun H locs a1 ha hLA => ?_)
  refine lv_istore (lv' := [(5, .int k), (0, .ref b), (1, .ref hx), (2, .ref hm), (3, .ref o), (4, .int i)]) hx' hb d_LAW_1433 hl (by decide) rfl (fun ls hl => ?_)
  refine lv_aload_n hx' hb d_LAW_1435 rfl (lv_at hl 3 rfl) ?_
  refine lv_aload_n hx' hb d_LAW_1436 rfl (lv_at hl 1 rfl) ?_
  refine lv_iload hx' hb d_LAW_1437 (lv_at hl 5 rfl) ?_
  refine lv_iconst (v := 1) hx' hb d_LAW_1439 (by decide) ?_
  refine lv_iadd hx' hb d_LAW_1440 ?_
  refine law_ld C0 hLX hLA h1 d_LAW_1441 ?_
  refine law_M (As := [.int (xs (i + 1).toNatClampNeg)]) (rest := []) (M' := (vi, vj, va, vb)) C0 hLX hLA (fun r cM => OM.ofMo (fun sz => c_Mo_found l dC dI hm r cM sz nf (xs (i + 1).toNatClampNeg) M.1 M.2.1 M.2.2.1 M.2.2.2 hm1)) (cwV 1 hts (gdV m_8_66 m_8_67 m_8_68 m_1_10 m_8_69) rfl rfl rfl (by decide +kernel) ⟨Nat.le_trans (Nat.le_of_ble_eq_true rfl) hRf, Nat.le_trans (Nat.le_of_ble_eq_true rfl) hRl⟩) rfl hl.1 rfl (Nat.le_of_ble_eq_true rfl) d_LAW_1442 ⟨hcell, hslot⟩ rfl (fun H locs hLA => ?_)
  refine lv_lstore (lv' := [(6, .long r0), (5, .int k), (0, .ref b), (1, .ref hx), (2, .ref hm), (3, .ref o), (4, .int i)]) hx' hb d_LAW_1445 hl (by decide) rfl (fun ls hl => ?_)
  refine lv_aload_n hx' hb d_LAW_1447 rfl (lv_at hl 4 rfl) ?_
  refine law_M (As := []) (rest := []) (M' := (vi, vj, va, vb)) C0 hLX hLA (fun r cM => OM.ofRO (c_Mo_thrown l dC dI hm r cM nf vi vj va vb ht)) (cwV 0 hts (gdV m_7_105 m_7_106 m_7_107 m_1_10 m_7_108) rfl rfl rfl (by decide +kernel) ⟨Nat.le_trans (Nat.le_of_ble_eq_true rfl) hRf, Nat.le_trans (Nat.le_of_ble_eq_true rfl) hRl⟩) rfl hl.1 rfl (Nat.le_of_ble_eq_true rfl) d_LAW_1448 ⟨hcell, hslot⟩ rfl (fun H locs hLA => ?_)
  refine lv_iload hx' hb d_LAW_1451 (lv_at hl 1 rfl) ?_
  refine lv_icmp_eq (tgt := 1458) hx' hb d_LAW_1453 (by decide) (fun _ => ?_) (fun cc => absurd rfl cc)
  refine lv_iload hx' hb d_LAW_1458 (lv_at hl 1 rfl) ?_
  refine lv_if_ne (tgt := 1474) hx' hb d_LAW_1460 (by decide) (fun ck => ?_) (fun ck => ?_)
  · refine lv_goto (tgt := 2175) hx' hb d_LAW_1474 (by decide) ?_
    exact kk _ _ _ _ hLA (lv_sub hl [2, 3, 4, 5, 6] rfl)
  · refine lv_aload_n hx' hb d_LAW_1463 rfl (lv_at hl 5 rfl) ?_
    refine lv_iconst (v := 0) hx' hb d_LAW_1464 (by decide) ?_
    refine law_out C0 hLA d_LAW_1465 ?_
    refine lv_lload hx' hb d_LAW_1466 (lv_at hl 0 rfl) ?_
    refine lc_eq (tgt := 1474) hx' hb d_LAW_1468 d_LAW_1469 (by decide) (fun _ => ?_) (fun cc => absurd ((ha ck).trans (he ck)) cc)
    refine lv_goto (tgt := 2175) hx' hb d_LAW_1474 (by decide) ?_
    exact kk _ _ _ _ hLA (lv_sub hl [2, 3, 4, 5, 6] rfl)
set_option maxRecDepth 100000 in
set_option maxHeartbeats 1000000 in
theorem law_next (C0 : Cx p s m meth c args R code "ZoneFilesLaw" 8 (some .boolean) 12 518) (hLX : LX s b L xs) (hno : NT l) (nf : Nat) {i : Int32} (h1 : vp_in (i + 1) L) (h2 : vp_in (i + 2) L) (h3 : vp_in (i + 3) L) (hLA : LA dC dI s hx hm o S M a H locs) (hl : lv_has ls 8 [(0, .ref b), (1, .ref hx), (2, .ref hm), (3, .ref o), (4, .int i)]) {S' : CS} {k : Int32} {ans : Int64} {kc ks : Nat} (hc : cq_next nf S (xs (i + 1).toNatClampNeg) (((xs (i + 2).toNatClampNeg).toInt64 <<< ((32 : Int32).toInt64 &&& 63)) ||| ((xs (i + 3).toNatClampNeg).toInt64 &&& 4294967295)) = some (k, ans, S', kc, ks)) {r0 : Int64} {M' : MS} (hm1 : f_Mo_next nf (xs (i + 1).toNatClampNeg) (((xs (i + 2).toNatClampNeg).toInt64 <<< ((32 : Int32).toInt64 &&& 63)) ||| ((xs (i + 3).toNatClampNeg).toInt64 &&& 4294967295)) M.1 M.2.1 M.2.2.1 M.2.2.2 = some (r0, M')) (ht : f_Mo_thrown nf M'.1 M'.2.1 M'.2.2.1 M'.2.2.2 = some k) (he : k = 0 → ans = r0) (hcell : cells + kc ≤ R.cells) (hslot : slots + ks ≤ R.slots)
    (kk : ∀ (H1 : Heap) (locs1 : List Loc) (a1 : Int64) (ls1 : Array Slot), LA dC dI s hx hm o S' M' a1 H1 locs1 → lv_has ls1 8 [(0, .ref b), (1, .ref hx), (2, .ref hm), (3, .ref o), (4, .int i)] → W p l e R s m args below meth c H1 locs1 (cells + kc) (slots + ks) Q (F0 m 2175 ls1 [])) : W p l e R s m args below meth c H locs cells slots Q (F0 m 1477 ls []) := by
  obtain ⟨hx', hb, hr, hml, hown, hts, hlocks, hRf, hRl⟩ := id C0
  obtain ⟨vi, vj, va, vb⟩ := M'
  refine lv_aload_n hx' hb d_LAW_1477 rfl (lv_at hl 1 rfl) ?_
  refine lv_aload_n hx' hb d_LAW_1478 rfl (lv_at hl 0 rfl) ?_
  refine lv_iload hx' hb d_LAW_1479 (lv_at hl 4 rfl) ?_
  refine lv_iconst (v := 1) hx' hb d_LAW_1481 (by decide) ?_
  refine lv_iadd hx' hb d_LAW_1482 ?_
  refine law_ld C0 hLX hLA h1 d_LAW_1483 ?_
  refine lv_aload_n hx' hb d_LAW_1484 rfl (lv_at hl 0 rfl) ?_
  refine lv_iload hx' hb d_LAW_1485 (lv_at hl 4 rfl) ?_
  refine lv_iconst (v := 2) hx' hb d_LAW_1487 (by decide) ?_
  refine lv_iadd hx' hb d_LAW_1488 ?_
  refine law_ld C0 hLX hLA h2 d_LAW_1489 ?_
  refine lv_i2l hx' hb d_LAW_1490 rfl ?_
  refine lv_bipush (v := 32) hx' hb d_LAW_1491 (by decide) ?_
  refine lv_lshl hx' hb d_LAW_1493 rfl ?_
  refine lv_aload_n hx' hb d_LAW_1494 rfl (lv_at hl 0 rfl) ?_
  refine lv_iload hx' hb d_LAW_1495 (lv_at hl 4 rfl) ?_
  refine lv_iconst (v := 3) hx' hb d_LAW_1497 (by decide) ?_
  refine lv_iadd hx' hb d_LAW_1498 ?_
  refine law_ld C0 hLX hLA h3 d_LAW_1499 ?_
  refine lv_i2l hx' hb d_LAW_1500 rfl ?_
  refine lv_ldc2 (v := 4294967295) hx' hb hown (hts (.constantLong "ZoneFilesLaw" 97 4294967295) m_8_234) d_LAW_1501 ?_
  refine lv_land hx' hb d_LAW_1504 ?_
  refine lv_lor hx' hb d_LAW_1505 ?_
  refine lv_aload_n hx' hb d_LAW_1506 rfl (lv_at hl 3 rfl) ?_
  refine law_W (y := y_LW_next) (n := 4) (As := [.ref hx, .int (xs (i + 1).toNatClampNeg), .long (((xs (i + 2).toNatClampNeg).toInt64 <<< ((32 : Int32).toInt64 &&& 63)) ||| ((xs (i + 3).toNatClampNeg).toInt64 &&& 4294967295)), .ref o]) (rest := []) C0 hLX hLA (fun ad cA za zad zcA cO f => q_next l hno dC dI hx ad cA za zad zcA S nf (xs (i + 1).toNatClampNeg) (((xs (i + 2).toNatClampNeg).toInt64 <<< ((32 : Int32).toInt64 &&& 63)) ||| ((xs (i + 3).toNatClampNeg).toInt64 &&& 4294967295)) hc o cO f) m_5_129 m_5_130 m_1_0 m_5_131 (by decide +kernel) ⟨Nat.le_trans (Nat.le_of_ble_eq_true rfl) hRf, Nat.le_trans (Nat.le_of_ble_eq_true rfl) hRl⟩ ⟨Nat.le_trans (Nat.le_of_ble_eq_true rfl) hRf, Nat.le_trans (Nat.le_of_ble_eq_true rfl) hRl⟩ rfl hl.1 rfl (Nat.le_of_ble_eq_true rfl) d_LAW_1507 ⟨hcell, hslot⟩ (fun H locs a1 ha hLA => ?_)
  refine lv_istore (lv' := [(5, .int k), (0, .ref b), (1, .ref hx), (2, .ref hm), (3, .ref o), (4, .int i)]) hx' hb d_LAW_1510 hl (by decide) rfl (fun ls hl => ?_)
  refine lv_aload_n hx' hb d_LAW_1512 rfl (lv_at hl 3 rfl) ?_
  refine lv_aload_n hx' hb d_LAW_1513 rfl (lv_at hl 1 rfl) ?_
  refine lv_iload hx' hb d_LAW_1514 (lv_at hl 5 rfl) ?_
  refine lv_iconst (v := 1) hx' hb d_LAW_1516 (by decide) ?_
  refine lv_iadd hx' hb d_LAW_1517 ?_
  refine law_ld C0 hLX hLA h1 d_LAW_1518 ?_
  refine lv_aload_n hx' hb d_LAW_1519 rfl (lv_at hl 1 rfl) ?_
  refine lv_iload hx' hb d_LAW_1520 (lv_at hl 5 rfl) ?_
  refine lv_iconst (v := 2) hx' hb d_LAW_1522 (by decide) ?_
  refine lv_iadd hx' hb d_LAW_1523 ?_
  refine law_ld C0 hLX hLA h2 d_LAW_1524 ?_
  refine lv_i2l hx' hb d_LAW_1525 rfl ?_
  refine lv_bipush (v := 32) hx' hb d_LAW_1526 (by decide) ?_
  refine lv_lshl hx' hb d_LAW_1528 rfl ?_
  refine lv_aload_n hx' hb d_LAW_1529 rfl (lv_at hl 1 rfl) ?_
  refine lv_iload hx' hb d_LAW_1530 (lv_at hl 5 rfl) ?_
  refine lv_iconst (v := 3) hx' hb d_LAW_1532 (by decide) ?_
  refine lv_iadd hx' hb d_LAW_1533 ?_
  refine law_ld C0 hLX hLA h3 d_LAW_1534 ?_
  refine lv_i2l hx' hb d_LAW_1535 rfl ?_
  refine lv_ldc2 (v := 4294967295) hx' hb hown (hts (.constantLong "ZoneFilesLaw" 97 4294967295) m_8_234) d_LAW_1536 ?_
  refine lv_land hx' hb d_LAW_1539 ?_
  refine lv_lor hx' hb d_LAW_1540 ?_
  refine law_M (As := [.int (xs (i + 1).toNatClampNeg), .long (((xs (i + 2).toNatClampNeg).toInt64 <<< ((32 : Int32).toInt64 &&& 63)) ||| ((xs (i + 3).toNatClampNeg).toInt64 &&& 4294967295))]) (rest := []) (M' := (vi, vj, va, vb)) C0 hLX hLA (fun r cM => OM.ofMo (fun sz => c_Mo_next l dC dI hm r cM sz nf (xs (i + 1).toNatClampNeg) (((xs (i + 2).toNatClampNeg).toInt64 <<< ((32 : Int32).toInt64 &&& 63)) ||| ((xs (i + 3).toNatClampNeg).toInt64 &&& 4294967295)) M.1 M.2.1 M.2.2.1 M.2.2.2 hm1)) (cwV 2 hts (gdV m_8_70 m_8_71 m_8_72 m_1_10 m_8_73) rfl rfl rfl (by decide +kernel) ⟨Nat.le_trans (Nat.le_of_ble_eq_true rfl) hRf, Nat.le_trans (Nat.le_of_ble_eq_true rfl) hRl⟩) rfl hl.1 rfl (Nat.le_of_ble_eq_true rfl) d_LAW_1541 ⟨hcell, hslot⟩ rfl (fun H locs hLA => ?_)
  refine lv_lstore (lv' := [(6, .long r0), (5, .int k), (0, .ref b), (1, .ref hx), (2, .ref hm), (3, .ref o), (4, .int i)]) hx' hb d_LAW_1544 hl (by decide) rfl (fun ls hl => ?_)
  refine lv_aload_n hx' hb d_LAW_1546 rfl (lv_at hl 4 rfl) ?_
  refine law_M (As := []) (rest := []) (M' := (vi, vj, va, vb)) C0 hLX hLA (fun r cM => OM.ofRO (c_Mo_thrown l dC dI hm r cM nf vi vj va vb ht)) (cwV 0 hts (gdV m_7_105 m_7_106 m_7_107 m_1_10 m_7_108) rfl rfl rfl (by decide +kernel) ⟨Nat.le_trans (Nat.le_of_ble_eq_true rfl) hRf, Nat.le_trans (Nat.le_of_ble_eq_true rfl) hRl⟩) rfl hl.1 rfl (Nat.le_of_ble_eq_true rfl) d_LAW_1547 ⟨hcell, hslot⟩ rfl (fun H locs hLA => ?_)
  refine lv_iload hx' hb d_LAW_1550 (lv_at hl 1 rfl) ?_
  refine lv_icmp_eq (tgt := 1557) hx' hb d_LAW_1552 (by decide) (fun _ => ?_) (fun cc => absurd rfl cc)
  refine lv_iload hx' hb d_LAW_1557 (lv_at hl 1 rfl) ?_
  refine lv_if_ne (tgt := 1573) hx' hb d_LAW_1559 (by decide) (fun ck => ?_) (fun ck => ?_)
  · refine lv_goto (tgt := 2175) hx' hb d_LAW_1573 (by decide) ?_
    exact kk _ _ _ _ hLA (lv_sub hl [2, 3, 4, 5, 6] rfl)
  · refine lv_aload_n hx' hb d_LAW_1562 rfl (lv_at hl 5 rfl) ?_
    refine lv_iconst (v := 0) hx' hb d_LAW_1563 (by decide) ?_
    refine law_out C0 hLA d_LAW_1564 ?_
    refine lv_lload hx' hb d_LAW_1565 (lv_at hl 0 rfl) ?_
    refine lc_eq (tgt := 1573) hx' hb d_LAW_1567 d_LAW_1568 (by decide) (fun _ => ?_) (fun cc => absurd ((ha ck).trans (he ck)) cc)
    refine lv_goto (tgt := 2175) hx' hb d_LAW_1573 (by decide) ?_
    exact kk _ _ _ _ hLA (lv_sub hl [2, 3, 4, 5, 6] rfl)
set_option maxRecDepth 100000 in
set_option maxHeartbeats 1000000 in
theorem law_last (C0 : Cx p s m meth c args R code "ZoneFilesLaw" 8 (some .boolean) 12 518) (hLX : LX s b L xs) (hno : NT l) (nf : Nat) {i : Int32} (h1 : vp_in (i + 1) L) (h2 : vp_in (i + 2) L) (h3 : vp_in (i + 3) L) (hLA : LA dC dI s hx hm o S M a H locs) (hl : lv_has ls 8 [(0, .ref b), (1, .ref hx), (2, .ref hm), (3, .ref o), (4, .int i)]) {S' : CS} {k : Int32} {ans : Int64} {kc ks : Nat} (hc : cq_last nf S (xs (i + 1).toNatClampNeg) (((xs (i + 2).toNatClampNeg).toInt64 <<< ((32 : Int32).toInt64 &&& 63)) ||| ((xs (i + 3).toNatClampNeg).toInt64 &&& 4294967295)) = some (k, ans, S', kc, ks)) {r0 : Int64} {M' : MS} (hm1 : f_Mo_last nf (xs (i + 1).toNatClampNeg) (((xs (i + 2).toNatClampNeg).toInt64 <<< ((32 : Int32).toInt64 &&& 63)) ||| ((xs (i + 3).toNatClampNeg).toInt64 &&& 4294967295)) M.1 M.2.1 M.2.2.1 M.2.2.2 = some (r0, M')) (ht : f_Mo_thrown nf M'.1 M'.2.1 M'.2.2.1 M'.2.2.2 = some k) (he : k = 0 → ans = r0) (hcell : cells + kc ≤ R.cells) (hslot : slots + ks ≤ R.slots)
    (kk : ∀ (H1 : Heap) (locs1 : List Loc) (a1 : Int64) (ls1 : Array Slot), LA dC dI s hx hm o S' M' a1 H1 locs1 → lv_has ls1 8 [(0, .ref b), (1, .ref hx), (2, .ref hm), (3, .ref o), (4, .int i)] → W p l e R s m args below meth c H1 locs1 (cells + kc) (slots + ks) Q (F0 m 2175 ls1 [])) : W p l e R s m args below meth c H locs cells slots Q (F0 m 1576 ls []) := by
  obtain ⟨hx', hb, hr, hml, hown, hts, hlocks, hRf, hRl⟩ := id C0
  obtain ⟨vi, vj, va, vb⟩ := M'
  refine lv_aload_n hx' hb d_LAW_1576 rfl (lv_at hl 1 rfl) ?_
  refine lv_aload_n hx' hb d_LAW_1577 rfl (lv_at hl 0 rfl) ?_
  refine lv_iload hx' hb d_LAW_1578 (lv_at hl 4 rfl) ?_
  refine lv_iconst (v := 1) hx' hb d_LAW_1580 (by decide) ?_
  refine lv_iadd hx' hb d_LAW_1581 ?_
  refine law_ld C0 hLX hLA h1 d_LAW_1582 ?_
  refine lv_aload_n hx' hb d_LAW_1583 rfl (lv_at hl 0 rfl) ?_
  refine lv_iload hx' hb d_LAW_1584 (lv_at hl 4 rfl) ?_
  refine lv_iconst (v := 2) hx' hb d_LAW_1586 (by decide) ?_
  refine lv_iadd hx' hb d_LAW_1587 ?_
  refine law_ld C0 hLX hLA h2 d_LAW_1588 ?_
  refine lv_i2l hx' hb d_LAW_1589 rfl ?_
  refine lv_bipush (v := 32) hx' hb d_LAW_1590 (by decide) ?_
  refine lv_lshl hx' hb d_LAW_1592 rfl ?_
  refine lv_aload_n hx' hb d_LAW_1593 rfl (lv_at hl 0 rfl) ?_
  refine lv_iload hx' hb d_LAW_1594 (lv_at hl 4 rfl) ?_
  refine lv_iconst (v := 3) hx' hb d_LAW_1596 (by decide) ?_
  refine lv_iadd hx' hb d_LAW_1597 ?_
  refine law_ld C0 hLX hLA h3 d_LAW_1598 ?_
  refine lv_i2l hx' hb d_LAW_1599 rfl ?_
  refine lv_ldc2 (v := 4294967295) hx' hb hown (hts (.constantLong "ZoneFilesLaw" 97 4294967295) m_8_234) d_LAW_1600 ?_
  refine lv_land hx' hb d_LAW_1603 ?_
  refine lv_lor hx' hb d_LAW_1604 ?_
  refine lv_aload_n hx' hb d_LAW_1605 rfl (lv_at hl 3 rfl) ?_
  refine law_W (y := y_LW_last) (n := 4) (As := [.ref hx, .int (xs (i + 1).toNatClampNeg), .long (((xs (i + 2).toNatClampNeg).toInt64 <<< ((32 : Int32).toInt64 &&& 63)) ||| ((xs (i + 3).toNatClampNeg).toInt64 &&& 4294967295)), .ref o]) (rest := []) C0 hLX hLA (fun ad cA za zad zcA cO f => q_last l hno dC dI hx ad cA za zad zcA S nf (xs (i + 1).toNatClampNeg) (((xs (i + 2).toNatClampNeg).toInt64 <<< ((32 : Int32).toInt64 &&& 63)) ||| ((xs (i + 3).toNatClampNeg).toInt64 &&& 4294967295)) hc o cO f) m_5_193 m_5_194 m_1_0 m_5_195 (by decide +kernel) ⟨Nat.le_trans (Nat.le_of_ble_eq_true rfl) hRf, Nat.le_trans (Nat.le_of_ble_eq_true rfl) hRl⟩ ⟨Nat.le_trans (Nat.le_of_ble_eq_true rfl) hRf, Nat.le_trans (Nat.le_of_ble_eq_true rfl) hRl⟩ rfl hl.1 rfl (Nat.le_of_ble_eq_true rfl) d_LAW_1606 ⟨hcell, hslot⟩ (fun H locs a1 ha hLA => ?_)
  refine lv_istore (lv' := [(5, .int k), (0, .ref b), (1, .ref hx), (2, .ref hm), (3, .ref o), (4, .int i)]) hx' hb d_LAW_1609 hl (by decide) rfl (fun ls hl => ?_)
  refine lv_aload_n hx' hb d_LAW_1611 rfl (lv_at hl 3 rfl) ?_
  refine lv_aload_n hx' hb d_LAW_1612 rfl (lv_at hl 1 rfl) ?_
  refine lv_iload hx' hb d_LAW_1613 (lv_at hl 5 rfl) ?_
  refine lv_iconst (v := 1) hx' hb d_LAW_1615 (by decide) ?_
  refine lv_iadd hx' hb d_LAW_1616 ?_
  refine law_ld C0 hLX hLA h1 d_LAW_1617 ?_
  refine lv_aload_n hx' hb d_LAW_1618 rfl (lv_at hl 1 rfl) ?_
  refine lv_iload hx' hb d_LAW_1619 (lv_at hl 5 rfl) ?_
  refine lv_iconst (v := 2) hx' hb d_LAW_1621 (by decide) ?_
  refine lv_iadd hx' hb d_LAW_1622 ?_
  refine law_ld C0 hLX hLA h2 d_LAW_1623 ?_
  refine lv_i2l hx' hb d_LAW_1624 rfl ?_
  refine lv_bipush (v := 32) hx' hb d_LAW_1625 (by decide) ?_
  refine lv_lshl hx' hb d_LAW_1627 rfl ?_
  refine lv_aload_n hx' hb d_LAW_1628 rfl (lv_at hl 1 rfl) ?_
  refine lv_iload hx' hb d_LAW_1629 (lv_at hl 5 rfl) ?_
  refine lv_iconst (v := 3) hx' hb d_LAW_1631 (by decide) ?_
  refine lv_iadd hx' hb d_LAW_1632 ?_
  refine law_ld C0 hLX hLA h3 d_LAW_1633 ?_
  refine lv_i2l hx' hb d_LAW_1634 rfl ?_
  refine lv_ldc2 (v := 4294967295) hx' hb hown (hts (.constantLong "ZoneFilesLaw" 97 4294967295) m_8_234) d_LAW_1635 ?_
  refine lv_land hx' hb d_LAW_1638 ?_
  refine lv_lor hx' hb d_LAW_1639 ?_
  refine law_M (As := [.int (xs (i + 1).toNatClampNeg), .long (((xs (i + 2).toNatClampNeg).toInt64 <<< ((32 : Int32).toInt64 &&& 63)) ||| ((xs (i + 3).toNatClampNeg).toInt64 &&& 4294967295))]) (rest := []) (M' := (vi, vj, va, vb)) C0 hLX hLA (fun r cM => OM.ofMo (fun sz => c_Mo_last l dC dI hm r cM sz nf (xs (i + 1).toNatClampNeg) (((xs (i + 2).toNatClampNeg).toInt64 <<< ((32 : Int32).toInt64 &&& 63)) ||| ((xs (i + 3).toNatClampNeg).toInt64 &&& 4294967295)) M.1 M.2.1 M.2.2.1 M.2.2.2 hm1)) (cwV 2 hts (gdV m_8_84 m_8_85 m_8_86 m_1_10 m_8_87) rfl rfl rfl (by decide +kernel) ⟨Nat.le_trans (Nat.le_of_ble_eq_true rfl) hRf, Nat.le_trans (Nat.le_of_ble_eq_true rfl) hRl⟩) rfl hl.1 rfl (Nat.le_of_ble_eq_true rfl) d_LAW_1640 ⟨hcell, hslot⟩ rfl (fun H locs hLA => ?_)
  refine lv_lstore (lv' := [(6, .long r0), (5, .int k), (0, .ref b), (1, .ref hx), (2, .ref hm), (3, .ref o), (4, .int i)]) hx' hb d_LAW_1643 hl (by decide) rfl (fun ls hl => ?_)
  refine lv_aload_n hx' hb d_LAW_1645 rfl (lv_at hl 4 rfl) ?_
  refine law_M (As := []) (rest := []) (M' := (vi, vj, va, vb)) C0 hLX hLA (fun r cM => OM.ofRO (c_Mo_thrown l dC dI hm r cM nf vi vj va vb ht)) (cwV 0 hts (gdV m_7_105 m_7_106 m_7_107 m_1_10 m_7_108) rfl rfl rfl (by decide +kernel) ⟨Nat.le_trans (Nat.le_of_ble_eq_true rfl) hRf, Nat.le_trans (Nat.le_of_ble_eq_true rfl) hRl⟩) rfl hl.1 rfl (Nat.le_of_ble_eq_true rfl) d_LAW_1646 ⟨hcell, hslot⟩ rfl (fun H locs hLA => ?_)
  refine lv_iload hx' hb d_LAW_1649 (lv_at hl 1 rfl) ?_
  refine lv_icmp_eq (tgt := 1656) hx' hb d_LAW_1651 (by decide) (fun _ => ?_) (fun cc => absurd rfl cc)
  refine lv_iload hx' hb d_LAW_1656 (lv_at hl 1 rfl) ?_
  refine lv_if_ne (tgt := 1672) hx' hb d_LAW_1658 (by decide) (fun ck => ?_) (fun ck => ?_)
  · refine lv_goto (tgt := 2175) hx' hb d_LAW_1672 (by decide) ?_
    exact kk _ _ _ _ hLA (lv_sub hl [2, 3, 4, 5, 6] rfl)
  · refine lv_aload_n hx' hb d_LAW_1661 rfl (lv_at hl 5 rfl) ?_
    refine lv_iconst (v := 0) hx' hb d_LAW_1662 (by decide) ?_
    refine law_out C0 hLA d_LAW_1663 ?_
    refine lv_lload hx' hb d_LAW_1664 (lv_at hl 0 rfl) ?_
    refine lc_eq (tgt := 1672) hx' hb d_LAW_1666 d_LAW_1667 (by decide) (fun _ => ?_) (fun cc => absurd ((ha ck).trans (he ck)) cc)
    refine lv_goto (tgt := 2175) hx' hb d_LAW_1672 (by decide) ?_
    exact kk _ _ _ _ hLA (lv_sub hl [2, 3, 4, 5, 6] rfl)
set_option maxRecDepth 100000 in
set_option maxHeartbeats 1000000 in
theorem law_stretch (C0 : Cx p s m meth c args R code "ZoneFilesLaw" 8 (some .boolean) 12 518) (hLX : LX s b L xs) (hno : NT l) (nf : Nat) {i : Int32} (h1 : vp_in (i + 1) L) (h2 : vp_in (i + 2) L) (hLA : LA dC dI s hx hm o S M a H locs) (hl : lv_has ls 8 [(0, .ref b), (1, .ref hx), (2, .ref hm), (3, .ref o), (4, .int i)]) {S' : CS} {k : Int32} {ans : Int64} {kc ks : Nat} (hc : cq_stretch nf S (xs (i + 1).toNatClampNeg) (xs (i + 2).toNatClampNeg) = some (k, ans, S', kc, ks)) {r0 : Int32} {M' : MS} (hm1 : f_Mo_stretch nf (xs (i + 1).toNatClampNeg) (xs (i + 2).toNatClampNeg) M.1 M.2.1 M.2.2.1 M.2.2.2 = some (r0, M')) (ht : f_Mo_thrown nf M'.1 M'.2.1 M'.2.2.1 M'.2.2.2 = some k) (he : k = 0 → ans = r0.toInt64) (hcell : cells + kc ≤ R.cells) (hslot : slots + ks ≤ R.slots)
    (kk : ∀ (H1 : Heap) (locs1 : List Loc) (a1 : Int64) (ls1 : Array Slot), LA dC dI s hx hm o S' M' a1 H1 locs1 → lv_has ls1 8 [(0, .ref b), (1, .ref hx), (2, .ref hm), (3, .ref o), (4, .int i)] → W p l e R s m args below meth c H1 locs1 (cells + kc) (slots + ks) Q (F0 m 2175 ls1 [])) : W p l e R s m args below meth c H locs cells slots Q (F0 m 1675 ls []) := by
  obtain ⟨hx', hb, hr, hml, hown, hts, hlocks, hRf, hRl⟩ := id C0
  obtain ⟨vi, vj, va, vb⟩ := M'
  refine lv_aload_n hx' hb d_LAW_1675 rfl (lv_at hl 1 rfl) ?_
  refine lv_aload_n hx' hb d_LAW_1676 rfl (lv_at hl 0 rfl) ?_
  refine lv_iload hx' hb d_LAW_1677 (lv_at hl 4 rfl) ?_
  refine lv_iconst (v := 1) hx' hb d_LAW_1679 (by decide) ?_
  refine lv_iadd hx' hb d_LAW_1680 ?_
  refine law_ld C0 hLX hLA h1 d_LAW_1681 ?_
  refine lv_aload_n hx' hb d_LAW_1682 rfl (lv_at hl 0 rfl) ?_
  refine lv_iload hx' hb d_LAW_1683 (lv_at hl 4 rfl) ?_
  refine lv_iconst (v := 2) hx' hb d_LAW_1685 (by decide) ?_
  refine lv_iadd hx' hb d_LAW_1686 ?_
  refine law_ld C0 hLX hLA h2 d_LAW_1687 ?_
  refine lv_aload_n hx' hb d_LAW_1688 rfl (lv_at hl 3 rfl) ?_
  refine law_W (y := y_LW_stretch) (n := 4) (As := [.ref hx, .int (xs (i + 1).toNatClampNeg), .int (xs (i + 2).toNatClampNeg), .ref o]) (rest := []) C0 hLX hLA (fun ad cA za zad zcA cO f => q_stretch l hno dC dI hx ad cA za zad zcA S nf (xs (i + 1).toNatClampNeg) (xs (i + 2).toNatClampNeg) hc o cO f) m_5_213 m_5_214 m_1_0 m_5_215 (by decide +kernel) ⟨Nat.le_trans (Nat.le_of_ble_eq_true rfl) hRf, Nat.le_trans (Nat.le_of_ble_eq_true rfl) hRl⟩ ⟨Nat.le_trans (Nat.le_of_ble_eq_true rfl) hRf, Nat.le_trans (Nat.le_of_ble_eq_true rfl) hRl⟩ rfl hl.1 rfl (Nat.le_of_ble_eq_true rfl) d_LAW_1689 ⟨hcell, hslot⟩ (fun H locs a1 ha hLA => ?_)
  refine lv_istore (lv' := [(5, .int k), (0, .ref b), (1, .ref hx), (2, .ref hm), (3, .ref o), (4, .int i)]) hx' hb d_LAW_1692 hl (by decide) rfl (fun ls hl => ?_)
  refine lv_aload_n hx' hb d_LAW_1694 rfl (lv_at hl 3 rfl) ?_
  refine lv_aload_n hx' hb d_LAW_1695 rfl (lv_at hl 1 rfl) ?_
  refine lv_iload hx' hb d_LAW_1696 (lv_at hl 5 rfl) ?_
  refine lv_iconst (v := 1) hx' hb d_LAW_1698 (by decide) ?_
  refine lv_iadd hx' hb d_LAW_1699 ?_
  refine law_ld C0 hLX hLA h1 d_LAW_1700 ?_
  refine lv_aload_n hx' hb d_LAW_1701 rfl (lv_at hl 1 rfl) ?_
  refine lv_iload hx' hb d_LAW_1702 (lv_at hl 5 rfl) ?_
  refine lv_iconst (v := 2) hx' hb d_LAW_1704 (by decide) ?_
  refine lv_iadd hx' hb d_LAW_1705 ?_
  refine law_ld C0 hLX hLA h2 d_LAW_1706 ?_
  refine law_M (As := [.int (xs (i + 1).toNatClampNeg), .int (xs (i + 2).toNatClampNeg)]) (rest := []) (M' := (vi, vj, va, vb)) C0 hLX hLA (fun r cM => OM.ofMo (fun sz => c_Mo_stretch l dC dI hm r cM sz nf (xs (i + 1).toNatClampNeg) (xs (i + 2).toNatClampNeg) M.1 M.2.1 M.2.2.1 M.2.2.2 hm1)) (cwV 2 hts (gdV m_8_92 m_8_93 m_8_94 m_1_10 m_8_95) rfl rfl rfl (by decide +kernel) ⟨Nat.le_trans (Nat.le_of_ble_eq_true rfl) hRf, Nat.le_trans (Nat.le_of_ble_eq_true rfl) hRl⟩) rfl hl.1 rfl (Nat.le_of_ble_eq_true rfl) d_LAW_1707 ⟨hcell, hslot⟩ rfl (fun H locs hLA => ?_)
  refine lv_istore (lv' := [(6, .int r0), (5, .int k), (0, .ref b), (1, .ref hx), (2, .ref hm), (3, .ref o), (4, .int i)]) hx' hb d_LAW_1710 hl (by decide) rfl (fun ls hl => ?_)
  refine lv_aload_n hx' hb d_LAW_1712 rfl (lv_at hl 4 rfl) ?_
  refine law_M (As := []) (rest := []) (M' := (vi, vj, va, vb)) C0 hLX hLA (fun r cM => OM.ofRO (c_Mo_thrown l dC dI hm r cM nf vi vj va vb ht)) (cwV 0 hts (gdV m_7_105 m_7_106 m_7_107 m_1_10 m_7_108) rfl rfl rfl (by decide +kernel) ⟨Nat.le_trans (Nat.le_of_ble_eq_true rfl) hRf, Nat.le_trans (Nat.le_of_ble_eq_true rfl) hRl⟩) rfl hl.1 rfl (Nat.le_of_ble_eq_true rfl) d_LAW_1713 ⟨hcell, hslot⟩ rfl (fun H locs hLA => ?_)
  refine lv_iload hx' hb d_LAW_1716 (lv_at hl 1 rfl) ?_
  refine lv_icmp_eq (tgt := 1723) hx' hb d_LAW_1718 (by decide) (fun _ => ?_) (fun cc => absurd rfl cc)
  refine lv_iload hx' hb d_LAW_1723 (lv_at hl 1 rfl) ?_
  refine lv_if_ne (tgt := 1740) hx' hb d_LAW_1725 (by decide) (fun ck => ?_) (fun ck => ?_)
  · refine lv_goto (tgt := 2175) hx' hb d_LAW_1740 (by decide) ?_
    exact kk _ _ _ _ hLA (lv_sub hl [2, 3, 4, 5, 6] rfl)
  · refine lv_aload_n hx' hb d_LAW_1728 rfl (lv_at hl 5 rfl) ?_
    refine lv_iconst (v := 0) hx' hb d_LAW_1729 (by decide) ?_
    refine law_out C0 hLA d_LAW_1730 ?_
    refine lv_iload hx' hb d_LAW_1731 (lv_at hl 0 rfl) ?_
    refine lv_i2l hx' hb d_LAW_1733 rfl ?_
    refine lc_eq (tgt := 1740) hx' hb d_LAW_1734 d_LAW_1735 (by decide) (fun _ => ?_) (fun cc => absurd ((ha ck).trans (he ck)) cc)
    refine lv_goto (tgt := 2175) hx' hb d_LAW_1740 (by decide) ?_
    exact kk _ _ _ _ hLA (lv_sub hl [2, 3, 4, 5, 6] rfl)
end
