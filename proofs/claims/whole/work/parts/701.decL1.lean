theorem d_L_law_375 : decode code 375 = .ok (.iconst 5, 1) := by decide +kernel
theorem d_L_law_376 : decode code 376 = .ok (.iadd, 1) := by decide +kernel
theorem d_L_law_377 : decode code 377 = .ok (.iaload, 1) := by decide +kernel
theorem d_L_law_378 : decode code 378 = .ok (.aload_n 0, 1) := by decide +kernel
theorem d_L_law_379 : decode code 379 = .ok (.iload_n 3, 1) := by decide +kernel
theorem d_L_law_380 : decode code 380 = .ok (.bipush 6, 2) := by decide +kernel
theorem d_L_law_382 : decode code 382 = .ok (.iadd, 1) := by decide +kernel
theorem d_L_law_383 : decode code 383 = .ok (.iaload, 1) := by decide +kernel
theorem d_L_law_384 : decode code 384 = .ok (.aload_n 0, 1) := by decide +kernel
theorem d_L_law_385 : decode code 385 = .ok (.iload_n 3, 1) := by decide +kernel
theorem d_L_law_386 : decode code 386 = .ok (.bipush 7, 2) := by decide +kernel
theorem d_L_law_388 : decode code 388 = .ok (.iadd, 1) := by decide +kernel
theorem d_L_law_389 : decode code 389 = .ok (.iaload, 1) := by decide +kernel
theorem d_L_law_390 : decode code 390 = .ok (.invokevirtual 37, 3) := by decide +kernel
theorem d_L_law_393 : decode code 393 = .ok (.lcmp, 1) := by decide +kernel
theorem d_L_law_394 : decode code 394 = .ok (.ifCond .eq 557, 3) := by decide +kernel
theorem d_L_law_397 : decode code 397 = .ok (.iconst 0, 1) := by decide +kernel
theorem d_L_law_398 : decode code 398 = .ok (.ireturn, 1) := by decide +kernel
theorem d_L_law_399 : decode code 399 = .ok (.aload_n 1, 1) := by decide +kernel
theorem d_L_law_400 : decode code 400 = .ok (.aload_n 0, 1) := by decide +kernel
theorem d_L_law_401 : decode code 401 = .ok (.iload_n 3, 1) := by decide +kernel
theorem d_L_law_402 : decode code 402 = .ok (.iconst 1, 1) := by decide +kernel
theorem d_L_law_403 : decode code 403 = .ok (.iadd, 1) := by decide +kernel
theorem d_L_law_404 : decode code 404 = .ok (.iaload, 1) := by decide +kernel
theorem d_L_law_405 : decode code 405 = .ok (.aload_n 0, 1) := by decide +kernel
theorem d_L_law_406 : decode code 406 = .ok (.iload_n 3, 1) := by decide +kernel
theorem d_L_law_407 : decode code 407 = .ok (.iconst 2, 1) := by decide +kernel
theorem d_L_law_408 : decode code 408 = .ok (.iadd, 1) := by decide +kernel
theorem d_L_law_409 : decode code 409 = .ok (.iaload, 1) := by decide +kernel
theorem d_L_law_410 : decode code 410 = .ok (.aload_n 0, 1) := by decide +kernel
theorem d_L_law_411 : decode code 411 = .ok (.iload_n 3, 1) := by decide +kernel
theorem d_L_law_412 : decode code 412 = .ok (.iconst 3, 1) := by decide +kernel
theorem d_L_law_413 : decode code 413 = .ok (.iadd, 1) := by decide +kernel
theorem d_L_law_414 : decode code 414 = .ok (.iaload, 1) := by decide +kernel
theorem d_L_law_415 : decode code 415 = .ok (.aload_n 0, 1) := by decide +kernel
theorem d_L_law_416 : decode code 416 = .ok (.iload_n 3, 1) := by decide +kernel
theorem d_L_law_417 : decode code 417 = .ok (.iconst 4, 1) := by decide +kernel
theorem d_L_law_418 : decode code 418 = .ok (.iadd, 1) := by decide +kernel
theorem d_L_law_419 : decode code 419 = .ok (.iaload, 1) := by decide +kernel
theorem d_L_law_420 : decode code 420 = .ok (.aload_n 0, 1) := by decide +kernel
theorem d_L_law_421 : decode code 421 = .ok (.iload_n 3, 1) := by decide +kernel
theorem d_L_law_422 : decode code 422 = .ok (.iconst 5, 1) := by decide +kernel
theorem d_L_law_423 : decode code 423 = .ok (.iadd, 1) := by decide +kernel
theorem d_L_law_424 : decode code 424 = .ok (.iaload, 1) := by decide +kernel
theorem d_L_law_425 : decode code 425 = .ok (.aload_n 0, 1) := by decide +kernel
theorem d_L_law_426 : decode code 426 = .ok (.iload_n 3, 1) := by decide +kernel
theorem d_L_law_427 : decode code 427 = .ok (.bipush 6, 2) := by decide +kernel
theorem d_L_law_429 : decode code 429 = .ok (.iadd, 1) := by decide +kernel
theorem d_L_law_430 : decode code 430 = .ok (.iaload, 1) := by decide +kernel
theorem d_L_law_431 : decode code 431 = .ok (.invokevirtual 38, 3) := by decide +kernel
theorem d_L_law_434 : decode code 434 = .ok (.aload_n 2, 1) := by decide +kernel
theorem d_L_law_435 : decode code 435 = .ok (.aload_n 0, 1) := by decide +kernel
theorem d_L_law_436 : decode code 436 = .ok (.iload_n 3, 1) := by decide +kernel
theorem d_L_law_437 : decode code 437 = .ok (.iconst 1, 1) := by decide +kernel
theorem d_L_law_438 : decode code 438 = .ok (.iadd, 1) := by decide +kernel
theorem d_L_law_439 : decode code 439 = .ok (.iaload, 1) := by decide +kernel
theorem d_L_law_440 : decode code 440 = .ok (.aload_n 0, 1) := by decide +kernel
theorem d_L_law_441 : decode code 441 = .ok (.iload_n 3, 1) := by decide +kernel
theorem d_L_law_442 : decode code 442 = .ok (.iconst 2, 1) := by decide +kernel
theorem d_L_law_443 : decode code 443 = .ok (.iadd, 1) := by decide +kernel
theorem d_L_law_444 : decode code 444 = .ok (.iaload, 1) := by decide +kernel
theorem d_L_law_445 : decode code 445 = .ok (.aload_n 0, 1) := by decide +kernel
theorem d_L_law_446 : decode code 446 = .ok (.iload_n 3, 1) := by decide +kernel
theorem d_L_law_447 : decode code 447 = .ok (.iconst 3, 1) := by decide +kernel
theorem d_L_law_448 : decode code 448 = .ok (.iadd, 1) := by decide +kernel
theorem d_L_law_449 : decode code 449 = .ok (.iaload, 1) := by decide +kernel
theorem d_L_law_450 : decode code 450 = .ok (.aload_n 0, 1) := by decide +kernel
theorem d_L_law_451 : decode code 451 = .ok (.iload_n 3, 1) := by decide +kernel
theorem d_L_law_452 : decode code 452 = .ok (.iconst 4, 1) := by decide +kernel
theorem d_L_law_453 : decode code 453 = .ok (.iadd, 1) := by decide +kernel
theorem d_L_law_454 : decode code 454 = .ok (.iaload, 1) := by decide +kernel
theorem d_L_law_455 : decode code 455 = .ok (.aload_n 0, 1) := by decide +kernel
theorem d_L_law_456 : decode code 456 = .ok (.iload_n 3, 1) := by decide +kernel
theorem d_L_law_457 : decode code 457 = .ok (.iconst 5, 1) := by decide +kernel
theorem d_L_law_458 : decode code 458 = .ok (.iadd, 1) := by decide +kernel
theorem d_L_law_459 : decode code 459 = .ok (.iaload, 1) := by decide +kernel
theorem d_L_law_460 : decode code 460 = .ok (.aload_n 0, 1) := by decide +kernel
theorem d_L_law_461 : decode code 461 = .ok (.iload_n 3, 1) := by decide +kernel
theorem d_L_law_462 : decode code 462 = .ok (.bipush 6, 2) := by decide +kernel
theorem d_L_law_464 : decode code 464 = .ok (.iadd, 1) := by decide +kernel
theorem d_L_law_465 : decode code 465 = .ok (.iaload, 1) := by decide +kernel
theorem d_L_law_466 : decode code 466 = .ok (.invokevirtual 42, 3) := by decide +kernel
theorem d_L_law_469 : decode code 469 = .ok (.lcmp, 1) := by decide +kernel
theorem d_L_law_470 : decode code 470 = .ok (.ifCond .eq 481, 3) := by decide +kernel
theorem d_L_law_473 : decode code 473 = .ok (.iconst 0, 1) := by decide +kernel
theorem d_L_law_474 : decode code 474 = .ok (.ireturn, 1) := by decide +kernel
theorem d_L_law_475 : decode code 475 = .ok (.aload_n 1, 1) := by decide +kernel
theorem d_L_law_476 : decode code 476 = .ok (.aload_n 0, 1) := by decide +kernel
theorem d_L_law_477 : decode code 477 = .ok (.iload_n 3, 1) := by decide +kernel
theorem d_L_law_478 : decode code 478 = .ok (.iconst 1, 1) := by decide +kernel
theorem d_L_law_479 : decode code 479 = .ok (.iadd, 1) := by decide +kernel
theorem d_L_law_480 : decode code 480 = .ok (.iaload, 1) := by decide +kernel
theorem d_L_law_481 : decode code 481 = .ok (.aload_n 0, 1) := by decide +kernel
theorem d_L_law_482 : decode code 482 = .ok (.iload_n 3, 1) := by decide +kernel
theorem d_L_law_483 : decode code 483 = .ok (.iconst 2, 1) := by decide +kernel
theorem d_L_law_484 : decode code 484 = .ok (.iadd, 1) := by decide +kernel
theorem d_L_law_485 : decode code 485 = .ok (.iaload, 1) := by decide +kernel
theorem d_L_law_486 : decode code 486 = .ok (.aload_n 0, 1) := by decide +kernel
theorem d_L_law_487 : decode code 487 = .ok (.iload_n 3, 1) := by decide +kernel
theorem d_L_law_488 : decode code 488 = .ok (.iconst 3, 1) := by decide +kernel
theorem d_L_law_489 : decode code 489 = .ok (.iadd, 1) := by decide +kernel
theorem d_L_law_490 : decode code 490 = .ok (.iaload, 1) := by decide +kernel
theorem d_L_law_491 : decode code 491 = .ok (.aload_n 0, 1) := by decide +kernel
theorem d_L_law_492 : decode code 492 = .ok (.iload_n 3, 1) := by decide +kernel
theorem d_L_law_493 : decode code 493 = .ok (.iconst 4, 1) := by decide +kernel
theorem d_L_law_494 : decode code 494 = .ok (.iadd, 1) := by decide +kernel
theorem d_L_law_495 : decode code 495 = .ok (.iaload, 1) := by decide +kernel
theorem d_L_law_496 : decode code 496 = .ok (.invokevirtual 43, 3) := by decide +kernel
theorem d_L_law_499 : decode code 499 = .ok (.aload_n 2, 1) := by decide +kernel
theorem d_L_law_500 : decode code 500 = .ok (.aload_n 0, 1) := by decide +kernel
theorem d_L_law_501 : decode code 501 = .ok (.iload_n 3, 1) := by decide +kernel
theorem d_L_law_502 : decode code 502 = .ok (.iconst 1, 1) := by decide +kernel
theorem d_L_law_503 : decode code 503 = .ok (.iadd, 1) := by decide +kernel
theorem d_L_law_504 : decode code 504 = .ok (.iaload, 1) := by decide +kernel
theorem d_L_law_505 : decode code 505 = .ok (.aload_n 0, 1) := by decide +kernel
theorem d_L_law_506 : decode code 506 = .ok (.iload_n 3, 1) := by decide +kernel
theorem d_L_law_507 : decode code 507 = .ok (.iconst 2, 1) := by decide +kernel
theorem d_L_law_508 : decode code 508 = .ok (.iadd, 1) := by decide +kernel
theorem d_L_law_509 : decode code 509 = .ok (.iaload, 1) := by decide +kernel
theorem d_L_law_510 : decode code 510 = .ok (.aload_n 0, 1) := by decide +kernel
theorem d_L_law_511 : decode code 511 = .ok (.iload_n 3, 1) := by decide +kernel
theorem d_L_law_512 : decode code 512 = .ok (.iconst 3, 1) := by decide +kernel
theorem d_L_law_513 : decode code 513 = .ok (.iadd, 1) := by decide +kernel
theorem d_L_law_514 : decode code 514 = .ok (.iaload, 1) := by decide +kernel
theorem d_L_law_515 : decode code 515 = .ok (.aload_n 0, 1) := by decide +kernel
theorem d_L_law_516 : decode code 516 = .ok (.iload_n 3, 1) := by decide +kernel
theorem d_L_law_517 : decode code 517 = .ok (.iconst 4, 1) := by decide +kernel
theorem d_L_law_518 : decode code 518 = .ok (.iadd, 1) := by decide +kernel
theorem d_L_law_519 : decode code 519 = .ok (.iaload, 1) := by decide +kernel
theorem d_L_law_520 : decode code 520 = .ok (.invokevirtual 46, 3) := by decide +kernel
theorem d_L_law_523 : decode code 523 = .ok (.if_icmp .eq 428, 3) := by decide +kernel
theorem d_L_law_526 : decode code 526 = .ok (.iconst 0, 1) := by decide +kernel
theorem d_L_law_527 : decode code 527 = .ok (.ireturn, 1) := by decide +kernel
theorem d_L_law_528 : decode code 528 = .ok (.aload_n 1, 1) := by decide +kernel
theorem d_L_law_529 : decode code 529 = .ok (.invokevirtual 47, 3) := by decide +kernel
theorem d_L_law_532 : decode code 532 = .ok (.aload_n 2, 1) := by decide +kernel
theorem d_L_law_533 : decode code 533 = .ok (.invokevirtual 51, 3) := by decide +kernel
theorem d_L_law_536 : decode code 536 = .ok (.if_icmp .eq 415, 3) := by decide +kernel
theorem d_L_law_539 : decode code 539 = .ok (.iconst 0, 1) := by decide +kernel
theorem d_L_law_540 : decode code 540 = .ok (.ireturn, 1) := by decide +kernel
theorem d_L_law_541 : decode code 541 = .ok (.aload_n 1, 1) := by decide +kernel
theorem d_L_law_542 : decode code 542 = .ok (.aload_n 0, 1) := by decide +kernel
theorem d_L_law_543 : decode code 543 = .ok (.iload_n 3, 1) := by decide +kernel
theorem d_L_law_544 : decode code 544 = .ok (.iconst 1, 1) := by decide +kernel
theorem d_L_law_545 : decode code 545 = .ok (.iadd, 1) := by decide +kernel
theorem d_L_law_546 : decode code 546 = .ok (.iaload, 1) := by decide +kernel
theorem d_L_law_547 : decode code 547 = .ok (.invokevirtual 52, 3) := by decide +kernel
theorem d_L_law_550 : decode code 550 = .ok (.aload_n 2, 1) := by decide +kernel
theorem d_L_law_551 : decode code 551 = .ok (.aload_n 0, 1) := by decide +kernel
theorem d_L_law_552 : decode code 552 = .ok (.iload_n 3, 1) := by decide +kernel
theorem d_L_law_553 : decode code 553 = .ok (.iconst 1, 1) := by decide +kernel
theorem d_L_law_554 : decode code 554 = .ok (.iadd, 1) := by decide +kernel
theorem d_L_law_555 : decode code 555 = .ok (.iaload, 1) := by decide +kernel
theorem d_L_law_556 : decode code 556 = .ok (.invokevirtual 56, 3) := by decide +kernel
theorem d_L_law_559 : decode code 559 = .ok (.if_icmp .eq 392, 3) := by decide +kernel
theorem d_L_law_562 : decode code 562 = .ok (.iconst 0, 1) := by decide +kernel
theorem d_L_law_563 : decode code 563 = .ok (.ireturn, 1) := by decide +kernel
theorem d_L_law_564 : decode code 564 = .ok (.aload_n 1, 1) := by decide +kernel
theorem d_L_law_565 : decode code 565 = .ok (.aload_n 0, 1) := by decide +kernel
theorem d_L_law_566 : decode code 566 = .ok (.iload_n 3, 1) := by decide +kernel
theorem d_L_law_567 : decode code 567 = .ok (.iconst 1, 1) := by decide +kernel
theorem d_L_law_568 : decode code 568 = .ok (.iadd, 1) := by decide +kernel
theorem d_L_law_569 : decode code 569 = .ok (.iaload, 1) := by decide +kernel
theorem d_L_law_570 : decode code 570 = .ok (.aload_n 0, 1) := by decide +kernel
theorem d_L_law_571 : decode code 571 = .ok (.iload_n 3, 1) := by decide +kernel
theorem d_L_law_572 : decode code 572 = .ok (.iconst 2, 1) := by decide +kernel
theorem d_L_law_573 : decode code 573 = .ok (.iadd, 1) := by decide +kernel
theorem d_L_law_574 : decode code 574 = .ok (.iaload, 1) := by decide +kernel
theorem d_L_law_575 : decode code 575 = .ok (.invokevirtual 57, 3) := by decide +kernel
theorem d_L_law_578 : decode code 578 = .ok (.aload_n 2, 1) := by decide +kernel
theorem d_L_law_579 : decode code 579 = .ok (.aload_n 0, 1) := by decide +kernel
theorem d_L_law_580 : decode code 580 = .ok (.iload_n 3, 1) := by decide +kernel
theorem d_L_law_581 : decode code 581 = .ok (.iconst 1, 1) := by decide +kernel
theorem d_L_law_582 : decode code 582 = .ok (.iadd, 1) := by decide +kernel
theorem d_L_law_583 : decode code 583 = .ok (.iaload, 1) := by decide +kernel
theorem d_L_law_584 : decode code 584 = .ok (.aload_n 0, 1) := by decide +kernel
theorem d_L_law_585 : decode code 585 = .ok (.iload_n 3, 1) := by decide +kernel
theorem d_L_law_586 : decode code 586 = .ok (.iconst 2, 1) := by decide +kernel
theorem d_L_law_587 : decode code 587 = .ok (.iadd, 1) := by decide +kernel
theorem d_L_law_588 : decode code 588 = .ok (.iaload, 1) := by decide +kernel
theorem d_L_law_589 : decode code 589 = .ok (.invokevirtual 60, 3) := by decide +kernel
theorem d_L_law_592 : decode code 592 = .ok (.if_icmp .eq 359, 3) := by decide +kernel
theorem d_L_law_595 : decode code 595 = .ok (.iconst 0, 1) := by decide +kernel
theorem d_L_law_596 : decode code 596 = .ok (.ireturn, 1) := by decide +kernel
theorem d_L_law_597 : decode code 597 = .ok (.aload_n 1, 1) := by decide +kernel
theorem d_L_law_598 : decode code 598 = .ok (.aload_n 0, 1) := by decide +kernel
theorem d_L_law_599 : decode code 599 = .ok (.iload_n 3, 1) := by decide +kernel
theorem d_L_law_600 : decode code 600 = .ok (.iconst 1, 1) := by decide +kernel
theorem d_L_law_601 : decode code 601 = .ok (.iadd, 1) := by decide +kernel
theorem d_L_law_602 : decode code 602 = .ok (.iaload, 1) := by decide +kernel
theorem d_L_law_603 : decode code 603 = .ok (.aload_n 0, 1) := by decide +kernel
theorem d_L_law_604 : decode code 604 = .ok (.iload_n 3, 1) := by decide +kernel
theorem d_L_law_605 : decode code 605 = .ok (.iconst 2, 1) := by decide +kernel
theorem d_L_law_606 : decode code 606 = .ok (.iadd, 1) := by decide +kernel
theorem d_L_law_607 : decode code 607 = .ok (.iaload, 1) := by decide +kernel
theorem d_L_law_608 : decode code 608 = .ok (.invokevirtual 61, 3) := by decide +kernel
theorem d_L_law_611 : decode code 611 = .ok (.aload_n 2, 1) := by decide +kernel
theorem d_L_law_612 : decode code 612 = .ok (.aload_n 0, 1) := by decide +kernel
theorem d_L_law_613 : decode code 613 = .ok (.iload_n 3, 1) := by decide +kernel
theorem d_L_law_614 : decode code 614 = .ok (.iconst 1, 1) := by decide +kernel
theorem d_L_law_615 : decode code 615 = .ok (.iadd, 1) := by decide +kernel
theorem d_L_law_616 : decode code 616 = .ok (.iaload, 1) := by decide +kernel
theorem d_L_law_617 : decode code 617 = .ok (.aload_n 0, 1) := by decide +kernel
theorem d_L_law_618 : decode code 618 = .ok (.iload_n 3, 1) := by decide +kernel
theorem d_L_law_619 : decode code 619 = .ok (.iconst 2, 1) := by decide +kernel
theorem d_L_law_620 : decode code 620 = .ok (.iadd, 1) := by decide +kernel
theorem d_L_law_621 : decode code 621 = .ok (.iaload, 1) := by decide +kernel
theorem d_L_law_622 : decode code 622 = .ok (.invokevirtual 64, 3) := by decide +kernel
theorem d_L_law_625 : decode code 625 = .ok (.if_icmp .eq 326, 3) := by decide +kernel
theorem d_L_law_628 : decode code 628 = .ok (.iconst 0, 1) := by decide +kernel
theorem d_L_law_629 : decode code 629 = .ok (.ireturn, 1) := by decide +kernel
theorem d_L_law_630 : decode code 630 = .ok (.aload_n 1, 1) := by decide +kernel
theorem d_L_law_631 : decode code 631 = .ok (.aload_n 0, 1) := by decide +kernel
theorem d_L_law_632 : decode code 632 = .ok (.iload_n 3, 1) := by decide +kernel
theorem d_L_law_633 : decode code 633 = .ok (.iconst 1, 1) := by decide +kernel
theorem d_L_law_634 : decode code 634 = .ok (.iadd, 1) := by decide +kernel
theorem d_L_law_635 : decode code 635 = .ok (.iaload, 1) := by decide +kernel
theorem d_L_law_636 : decode code 636 = .ok (.aload_n 0, 1) := by decide +kernel
theorem d_L_law_637 : decode code 637 = .ok (.iload_n 3, 1) := by decide +kernel
theorem d_L_law_638 : decode code 638 = .ok (.iconst 2, 1) := by decide +kernel
theorem d_L_law_639 : decode code 639 = .ok (.iadd, 1) := by decide +kernel
theorem d_L_law_640 : decode code 640 = .ok (.iaload, 1) := by decide +kernel
theorem d_L_law_641 : decode code 641 = .ok (.invokevirtual 65, 3) := by decide +kernel
theorem d_L_law_644 : decode code 644 = .ok (.aload_n 2, 1) := by decide +kernel
theorem d_L_law_645 : decode code 645 = .ok (.aload_n 0, 1) := by decide +kernel
theorem d_L_law_646 : decode code 646 = .ok (.iload_n 3, 1) := by decide +kernel
theorem d_L_law_647 : decode code 647 = .ok (.iconst 1, 1) := by decide +kernel
theorem d_L_law_648 : decode code 648 = .ok (.iadd, 1) := by decide +kernel
theorem d_L_law_649 : decode code 649 = .ok (.iaload, 1) := by decide +kernel
theorem d_L_law_650 : decode code 650 = .ok (.aload_n 0, 1) := by decide +kernel
theorem d_L_law_651 : decode code 651 = .ok (.iload_n 3, 1) := by decide +kernel
theorem d_L_law_652 : decode code 652 = .ok (.iconst 2, 1) := by decide +kernel
theorem d_L_law_653 : decode code 653 = .ok (.iadd, 1) := by decide +kernel
theorem d_L_law_654 : decode code 654 = .ok (.iaload, 1) := by decide +kernel
theorem d_L_law_655 : decode code 655 = .ok (.invokevirtual 69, 3) := by decide +kernel
theorem d_L_law_658 : decode code 658 = .ok (.lcmp, 1) := by decide +kernel
theorem d_L_law_659 : decode code 659 = .ok (.ifCond .eq 292, 3) := by decide +kernel
theorem d_L_law_662 : decode code 662 = .ok (.iconst 0, 1) := by decide +kernel
theorem d_L_law_663 : decode code 663 = .ok (.ireturn, 1) := by decide +kernel
theorem d_L_law_664 : decode code 664 = .ok (.aload_n 1, 1) := by decide +kernel
theorem d_L_law_665 : decode code 665 = .ok (.aload_n 0, 1) := by decide +kernel
