/** Edges of the Terms SEARCH and SYNC, and of promises 6 and 7. */
final class SyncEdges {
    private static final int R = Sender.RUINED;
    private static final int PI = 7;
    private static final int[] OTHER_WHATS = {-1, -2, -7, -11, Integer.MIN_VALUE, Integer.MIN_VALUE + 4, Integer.MAX_VALUE};

    private SyncEdges() {
    }

    static void run(Edges t) {
        latestTwentySix(t);
        hitOfItsPlace(t);
        hitsAhead(t);
        hitsAtOtherDistances(t);
        blocksAheadOfIt(t);
        blocksAheadThatAreMissing(t);
        furtherTwentySix(t);
        okWithTheLetterOfItsPlace(t);
        rightedToTheLetterOfItsPlace(t);
        placeTwoRighted(t);
        placeTwoNotAtAll(t);
        known(t);
        fiftyCount(t);
        countFromTheSync(t);
        countOfTheNextSync(t);
        lossOrMore(t);
        lossOfFiftyAmongFifty(t);
        lossesEdges(t);
        lostAtASync(t);
        newSearch(t);
        groupAtHand(t);
        lostByABlockThree(t);
        taken(t);
        whole(t);
        stateInSync(t);
        stateInAll(t);
        stateOfASearch(t);
        stateOfAnotherWhat(t);
        groupHas(t);
        groupHow(t);
        groupType(t);
        groupAheadOfAny(t);
    }

    private static void latestTwentySix(Edges t) {
        t.edge(6, "SEARCH (at first): with each bit that comes, the latest 26 since the SEARCH began (if there are so many) "
                + "are looked at:");
        t.state(new Sender(), 0, 0);
        // A's highest bit is 0, as those are that never came: its other 25 are still no block.
        Sender sender = new Sender();
        sender.desk.feed(Sender.block(PI, Sender.A), 25);
        sender.one(0x2000, Sender.B);
        t.state(sender, 0, 0);
        for (int ahead = 0; ahead <= 26; ahead++) {
            sender = new Sender();
            if (ahead > 0) {
                sender.desk.feed(0x1B3, ahead);
            }
            sender.one(PI, Sender.A);
            sender.desk.feed(Sender.block(0x2000, Sender.B) >>> 1, 25);
            t.state(sender, 0, 0);
            sender.desk.feed(Sender.block(0x2000, Sender.B), 1);
            t.state(sender, 0, 1);
        }
    }

    private static int placeOf(int letter) {
        return letter == Sender.C_PRIME ? 2 : letter;
    }

    private static void hitOfItsPlace(Edges t) {
        t.edge(6, "if they are GOOD with a LETTER, that is a HIT of its PLACE (C' as C).");
        for (int first = 0; first <= 4; first++) {
            for (int then = 0; then <= 4; then++) {
                Sender sender = new Sender();
                sender.one(0x1111, first);
                sender.one(0x2222, then);
                boolean isSync = placeOf(then) == (placeOf(first) + 1) % 4;
                t.state(sender, 0, isSync ? 1 : 0);
                t.state(sender, 9, isSync ? (placeOf(then) + 1) % 4 : -1);
            }
        }
    }

    /** The second hit so many blocks behind the first one, ruined ones between them. */
    private static Sender twoHits(int first, int blocks, int then) {
        Sender sender = new Sender();
        sender.one(0x1111, first);
        for (int i = 1; i < blocks; i++) {
            sender.one(R, (first + i) % 4);
        }
        sender.one(0x2222, then);
        return sender;
    }

    private static void hitsAhead(Edges t) {
        t.edge(6, "It is SYNC, if there was a HIT 26 n bits ahead, n 1, 2 or 3, whose PLACE is n less (modulo 4).");
        for (int first = 0; first <= 4; first++) {
            for (int n = 1; n <= 5; n++) {
                for (int then = 0; then <= 4; then++) {
                    boolean isSync = n <= 3 && placeOf(then) == (placeOf(first) + n) % 4;
                    Sender sender = twoHits(first, n, then);
                    t.due("state(0), LETTER " + then + " " + n + " behind " + first, sender.desk.state(0), isSync ? 1 : 0);
                    t.state(sender, 7, isSync ? 1 : 0);
                }
            }
        }
        // One that does not fit does not stand in the way of one that does.
        Sender sender = new Sender();
        sender.one(0x1111, Sender.A);
        sender.one(0x1111, Sender.A);
        t.state(sender, 0, 0);
        sender.one(0x2222, Sender.C);
        t.state(sender, 0, 1);
        t.state(sender, 9, 3);
    }

    private static void hitsAtOtherDistances(Edges t) {
        t.edge(6, "It is SYNC, if there was a HIT 26 n bits ahead, n 1, 2 or 3, whose PLACE is n less (modulo 4).");
        for (int n = 1; n <= 3; n++) {
            for (int more = -1; more <= 1; more++) {
                Sender sender = new Sender();
                sender.one(0x1111, Sender.A);
                int between = 26 * (n - 1) + more;
                for (int left = between; left > 0; left -= 26) {
                    sender.desk.feed(0x0155AA55, Math.min(left, 26));
                }
                // One bit less between them: the second one's highest bit is the first one's lowest.
                int word = Sender.block(n == 2 ? 0x0F0F : 0x2222, n);
                sender.desk.feed(word, between < 0 ? 25 : 26);
                t.due("state(0), " + (26 * n + more) + " bits ahead", sender.desk.state(0), more == 0 ? 1 : 0);
            }
        }
    }

    private static void blocksAheadOfIt(Edges t) {
        t.edge(7, "Then the BLOCKS of its GROUP that lie ahead of it are LOOKED AT,");
        Sender sender = new Sender();
        sender.one(0x1234, Sender.A);
        sender.one(R, Sender.B);
        sender.one(R, Sender.C);
        sender.one(0x4321, Sender.D);
        t.group(sender, 0x1234, -1, -1, 0x4321, 0, 2, 2, 0, -1);
        t.state(sender, 2, 2);
        t.state(sender, 4, 2);
        t.state(sender, 10, 2);
        sender = new Sender();
        sender.words(Sender.block(0x1234, Sender.A) ^ 0b10001 << 21);
        sender.words(Sender.block(0x0800, Sender.B) ^ 0b10001);
        sender.one(0x0F0F, Sender.C_PRIME);
        sender.one(0x4321, Sender.D);
        t.group(sender, 0x1234, 0x0800, 0x0F0F, 0x4321, 1, 1, 0, 0, 1);
        t.state(sender, 3, 2);
        // Those of the GROUP before it are not: a SYNC at PLACE 0 has none ahead of it.
        sender = twoHits(Sender.B, 3, Sender.A);
        t.state(sender, 2, 1);
        t.state(sender, 4, 0);
        t.state(sender, 10, 0);
        t.state(sender, 5, 0);
        sender = twoHits(Sender.C, 3, Sender.B);
        t.state(sender, 2, 1);
        t.state(sender, 4, 1);
    }

    /** So many of the bits of the GROUP ahead of BLOCKS 2 and 3 came: 26 more are one more BLOCK. */
    private static void blocksAheadThatAreMissing(Edges t) {
        t.edge(7, "as far as all their bits came in this SEARCH (the others are MISSING), and it.");
        int a = Sender.block(0x1234, Sender.A);
        int b = Sender.block(0x1000, Sender.B);
        int[] counts = {0, 1, 25, 26, 27, 51, 52};
        for (int count : counts) {
            Sender sender = new Sender();
            if (count > 26) {
                sender.desk.feed(a, count - 26);
            }
            if (count > 0) {
                // The B is ruined, so that the SYNC is not ahead of the D.
                sender.desk.feed(b ^ Sender.WRONG_BITS, Math.min(count, 26));
            }
            sender.one(0x0F0F, Sender.C);
            sender.one(0x4321, Sender.D);
            boolean hasA = count == 52;
            boolean hasB = count >= 26;
            t.group(sender, hasA ? 0x1234 : -1, -1, 0x0F0F, 0x4321, hasA ? 0 : 3, hasB ? 2 : 3, 0, 0, -1);
            t.state(sender, 2, hasA ? 3 : 2);
            t.state(sender, 4, hasB ? 1 : 0);
            t.state(sender, 10, hasB ? 1 : 0);
        }
        for (int count = 25; count <= 26; count++) {
            Sender sender = new Sender();
            sender.desk.feed(a, count);
            sender.one(0x1000, Sender.B);
            sender.one(0x0F0F, Sender.C);
            sender.one(0x4321, Sender.D);
            t.group(sender, count == 26 ? 0x1234 : -1, 0x1000, 0x0F0F, 0x4321, count == 26 ? 0 : 3, 0, 0, 0, 2);
        }
    }

    private static void furtherTwentySix(Edges t) {
        t.edge(6, "In SYNC each further 26 bits are the BLOCK of the next PLACE, and LOOKED AT:");
        Sender sender = Sender.synced(PI);
        for (int i = 0; i < 9; i++) {
            int word = Sender.block(i, i % 4);
            t.state(sender, 9, i % 4);
            sender.desk.feed(word >>> 1, 25);
            t.state(sender, 2, 4 + i);
            sender.desk.feed(word, 1);
            t.state(sender, 2, 5 + i);
            t.state(sender, 9, (i + 1) % 4);
        }
        // Blocks that lie one bit off are none, however good they are.
        sender.desk.set(0, 50);
        sender.desk.feed(0, 1);
        for (int i = 1; i <= 4; i++) {
            sender.one(0x1111, i % 4);
            t.state(sender, 2, 13);
            t.state(sender, 4, i);
            t.state(sender, 7, 1);
        }
    }

    private static void okWithTheLetterOfItsPlace(Edges t) {
        t.edge(7, "it is OK if it is GOOD with the LETTER of its PLACE (PLACE 2: with C or C');");
        for (int place = 0; place < 4; place++) {
            for (int letter = 0; letter <= 4; letter++) {
                Sender sender = Sender.synced(PI);
                sender.desk.set(0, 50);
                for (int i = 0; i < 4; i++) {
                    sender.one(0x0F0F, i == place ? letter : i);
                }
                boolean isOk = placeOf(letter) == place;
                t.due("group(" + (4 + place) + "), LETTER " + letter, sender.desk.group(4 + place), isOk ? 0 : 2);
                t.due("group(" + place + "), LETTER " + letter, sender.desk.group(place), isOk ? 0x0F0F : -1);
            }
        }
        // C and C' are OK whichever version BLOCK 1 tells, and without one.
        int[] seconds = {0x0000, 0x0800, R};
        for (int b : seconds) {
            for (int letter = 2; letter <= 4; letter += 2) {
                Sender sender = Sender.synced(PI);
                sender.one(PI, Sender.A);
                sender.one(b, Sender.B);
                sender.one(0xFFFF, letter);
                sender.one(0, Sender.D);
                t.group(sender, PI, b, 0xFFFF, 0, 0, b == R ? 2 : 0, 0, 0);
            }
        }
    }

    private static void rightedToTheLetterOfItsPlace(Edges t) {
        t.edge(7, "else RIGHTED, if it can be CORRECTED to it;");
        for (int place = 0; place < 4; place++) {
            for (int n = 5; n <= 6; n++) {
                Sender sender = Sender.synced(PI);
                for (int i = 0; i < 4; i++) {
                    int wrong = i == place ? (1 << n) - 1 << 11 : 0;
                    sender.words(Sender.block(0x0505, i) ^ wrong);
                }
                t.due("group(" + (4 + place) + "), burst of " + n, sender.desk.group(4 + place), n == 5 ? 1 : 2);
                t.due("group(" + place + "), burst of " + n, sender.desk.group(place), n == 5 ? 0x0505 : -1);
            }
        }
    }

    /** One wrong bit, which no burst of five makes the other one of C and C'. */
    private static Sender wrongBlockTwo(int b, int wrongOfB, int letter) {
        Sender sender = Sender.synced(PI);
        sender.one(PI, Sender.A);
        sender.words(Sender.block(b, Sender.B) ^ wrongOfB);
        sender.words(Sender.block(0x0F0F, letter) ^ 1 << 16);
        sender.one(0, Sender.D);
        return sender;
    }

    private static void placeTwoRighted(Edges t) {
        t.edge(7, "PLACE 2: to C' if the GROUP's BLOCK 1 is OK or RIGHTED and has version 1, to C if it has version 0,");
        // The version's own bit (21 of the block) may be the wrong one: what was put right counts.
        int[] wrongs = {0, 1, 1 << 21};
        for (int wrong : wrongs) {
            for (int version = 0; version <= 1; version++) {
                for (int letter = 2; letter <= 4; letter += 2) {
                    boolean fits = letter == (version == 1 ? 4 : 2);
                    Sender sender = wrongBlockTwo(version << 11, wrong, letter);
                    t.group(sender, PI, version << 11, fits ? 0x0F0F : -1, 0, 0, wrong == 0 ? 0 : 1, fits ? 1 : 2, 0);
                }
            }
        }
    }

    private static void placeTwoNotAtAll(Edges t) {
        t.edge(7, "else (it is not) not at all; else BAD.");
        for (int letter = 2; letter <= 4; letter += 2) {
            for (int before = 0; before <= 1; before++) {
                // The BLOCK 1 of the GROUP before it does not count.
                Sender sender = Sender.synced(PI);
                sender.typed(PI, 22 + before, 0, PI, 0);
                sender.one(PI, Sender.A);
                sender.one(R, Sender.B);
                sender.words(Sender.block(0x0F0F, letter) ^ 1 << 16);
                sender.one(0, Sender.D);
                t.group(sender, PI, -1, -1, 0, 0, 2, 2, 0, -1);
                t.state(sender, 4, 2);
            }
        }
    }

    private static void known(Edges t) {
        t.edge(7, "With OK and RIGHTED ones what they have is known.");
        Sender sender = Sender.synced(PI);
        sender.words(Sender.block(0, Sender.A) ^ 1 << 25);
        sender.words(Sender.block(0xF7FF, Sender.B) ^ 0b11111 << 10);
        sender.words(Sender.block(0, Sender.C) ^ 1 << 10);
        sender.words(Sender.block(0xFFFF, Sender.D) ^ 1 << 9);
        t.group(sender, 0, 0xF7FF, 0, 0xFFFF, 1, 1, 1, 1, 30);
        t.programme(sender, 0, 0);
        t.programme(sender, 1, 1);
        t.programme(sender, 2, 31);
        sender.group(R, R, R, R);
        t.group(sender, -1, -1, -1, -1, 2, 2, 2, 2, -1);
    }

    private static void fiftyCount(Edges t) {
        t.edge(6, "Of those that were LOOKED AT the latest 50 count");
        for (int bad = 1; bad <= 3; bad++) {
            Sender sender = Sender.synced(PI);
            for (int i = 0; i < 50; i++) {
                sender.one(i < bad ? R : 0, i % 4);
            }
            // All of them are among the latest fifty; then they go one by one.
            for (int i = 0; i <= bad; i++) {
                t.state(sender, 10, bad - i);
                sender.one(0, (50 + i) % 4);
            }
            t.state(sender, 4, bad);
        }
        // The very first one that was LOOKED AT, by the SYNC of B and C behind it.
        Sender sender = new Sender();
        for (int i = 0; i < 50; i++) {
            sender.one(i == 0 ? R : 0, i % 4);
        }
        t.state(sender, 10, 1);
        sender.one(0, 50 % 4);
        t.state(sender, 10, 0);
        // One that goes while another one comes.
        sender = Sender.synced(PI);
        for (int i = 0; i < 102; i++) {
            sender.one(i % 50 == 0 ? R : 0, i % 4);
            t.state(sender, 10, 1);
        }
    }

    private static void countFromTheSync(Edges t) {
        t.edge(6, "(from the SYNC on, with those ahead of it):");
        // A, ruined B, ruined C, then the SYNC with D: three of the fifty came with it, and two are BAD.
        Sender sender = twoHits(Sender.A, 3, Sender.D);
        t.state(sender, 10, 2);
        for (int i = 0; i < 46; i++) {
            sender.one(0, i % 4);
        }
        t.state(sender, 10, 2);
        sender.one(0, 46 % 4);
        t.state(sender, 10, 2);
        sender.one(0, 47 % 4);
        t.state(sender, 10, 1);
        sender.one(0, 48 % 4);
        t.state(sender, 10, 0);
        // Those of the SYNC before it don't count, nor do MISSING ones, nor those ahead of its GROUP.
        sender = Sender.synced(PI);
        sender.desk.set(5, 3);
        sender.group(R, R, 0, R);
        t.state(sender, 8, 1);
        sender.one(R, Sender.B);
        sender.one(0, Sender.C);
        sender.one(0, Sender.D);
        t.state(sender, 10, 1);
        sender.one(R, Sender.A);
        t.state(sender, 10, 2);
        t.state(sender, 0, 1);
        sender = twoHits(Sender.B, 3, Sender.A);
        t.state(sender, 10, 0);
    }

    /** Fifty and more of an earlier SYNC, BAD ones among them: the next SYNC counts from none on. */
    private static void countOfTheNextSync(Edges t) {
        t.edge(6, "(from the SYNC on, with those ahead of it):");
        Sender sender = Sender.synced(PI);
        sender.desk.set(5, 20);
        for (int i = 0; i < 56; i++) {
            sender.one(i % 3 == 0 ? R : 0, i % 4);
        }
        t.state(sender, 8, 0);
        for (int i = 56; sender.desk.state(0) == 1 && i < 80; i++) {
            sender.one(R, i % 4);
        }
        t.state(sender, 8, 1);
        sender.one(R, Sender.A);
        for (int i = 1; i < 50; i++) {
            sender.one(0, i % 4);
            t.state(sender, 10, i == 1 ? 0 : 1);
        }
        sender.one(0, 50 % 4);
        t.state(sender, 10, 0);
    }

    private static void lossOrMore(Edges t) {
        t.edge(6, "as soon as, behind one that was LOOKED AT, LOSS or more of them are BAD");
        for (int loss = 1; loss <= 50; loss++) {
            Sender sender = Sender.synced(PI);
            sender.desk.set(5, loss);
            for (int i = 1; i <= loss; i++) {
                t.state(sender, 8, 0);
                t.state(sender, 10, i - 1);
                sender.one(R, (i - 1) % 4);
            }
            t.state(sender, 8, 1);
            t.state(sender, 0, 0);
        }
        // With a lower LOSS than there are BAD ones it is LOST behind the next one, an OK one too.
        for (int loss = 1; loss <= 4; loss++) {
            Sender sender = Sender.synced(PI);
            sender.group(R, R, 0, R);
            sender.desk.set(5, loss);
            t.state(sender, 0, 1);
            sender.desk.feed(Sender.block(PI, Sender.A) >>> 1, 25);
            t.state(sender, 8, 0);
            sender.desk.feed(Sender.block(PI, Sender.A), 1);
            t.state(sender, 8, loss <= 3 ? 1 : 0);
            t.state(sender, 0, loss <= 3 ? 0 : 1);
        }
    }

    /** LOSS is as many as count: one OK among fifty holds the SYNC, and it is LOST when that one goes. */
    private static void lossOfFiftyAmongFifty(Edges t) {
        t.edge(6, "as soon as, behind one that was LOOKED AT, LOSS or more of them are BAD");
        Sender sender = Sender.synced(PI);
        sender.desk.set(5, 50);
        for (int i = 0; i < 49; i++) {
            sender.one(R, i % 4);
        }
        t.state(sender, 10, 49);
        sender.one(0, 49 % 4);
        t.state(sender, 10, 49);
        for (int i = 50; i < 99; i++) {
            sender.one(R, i % 4);
            t.state(sender, 10, 49);
        }
        t.state(sender, 8, 0);
        sender.one(R, 99 % 4);
        t.state(sender, 8, 1);
        t.state(sender, 10, 0);
    }

    private static void lossesEdges(Edges t) {
        t.edge(4, "(LOSS 1 .. 50; 30 at first), it is LOST");
        Sender sender = Sender.synced(PI);
        for (int i = 0; i < 29; i++) {
            sender.one(R, i % 4);
        }
        t.state(sender, 8, 0);
        t.state(sender, 0, 1);
        sender.one(R, 29 % 4);
        t.state(sender, 8, 1);
        t.state(sender, 0, 0);
        int[] edges = {1, 50};
        for (int loss : edges) {
            t.due("set(5, " + loss + ")", sender.desk.set(5, loss), true);
        }
        t.due("set(5, 0)", sender.desk.set(5, 0), false);
        t.due("set(5, 51)", sender.desk.set(5, 51), false);
    }

    private static void lostAtASync(Edges t) {
        t.edge(6, "(at a SYNC, too: what is still to be looked at is not):");
        for (int loss = 1; loss <= 3; loss++) {
            Sender sender = new Sender();
            sender.desk.set(5, loss);
            sender.one(PI, Sender.A);
            sender.one(R, Sender.B);
            sender.one(R, Sender.C);
            sender.one(0, Sender.D);
            t.state(sender, 7, 1);
            t.state(sender, 8, loss <= 2 ? 1 : 0);
            t.state(sender, 0, loss <= 2 ? 0 : 1);
            t.state(sender, 2, loss <= 2 ? 1 : 2);
            t.state(sender, 4, loss <= 2 ? loss : 2);
            t.state(sender, 5, loss <= 2 ? 0 : 1);
            t.state(sender, 9, loss <= 2 ? -1 : 0);
            t.programme(sender, 0, loss <= 2 ? -1 : PI);
        }
        // Its very first one may do it: then none of the others is looked at.
        Sender sender = new Sender();
        sender.desk.set(5, 1);
        sender.one(R, Sender.A);
        sender.one(0, Sender.B);
        sender.one(0, Sender.C);
        t.state(sender, 7, 1);
        t.state(sender, 8, 1);
        t.state(sender, 4, 1);
        t.state(sender, 2, 0);
    }

    private static void newSearch(Edges t) {
        t.edge(6, "a new SEARCH, none of whose bits have come;");
        // In SYNC: the HIT that a BLOCK ahead of LOST would be is none.
        Sender sender = Sender.synced(PI);
        sender.desk.set(5, 1);
        sender.one(PI, Sender.A);
        sender.one(R, Sender.B);
        sender.one(1, Sender.C);
        t.state(sender, 0, 0);
        sender.one(2, Sender.D);
        t.state(sender, 0, 1);
        t.group(sender, -1, -1, 1, 2, 3, 3, 0, 0, -1);
        // At a SYNC: the HIT that made it is none of the new SEARCH's.
        sender = new Sender();
        sender.desk.set(5, 1);
        sender.one(R, Sender.A);
        sender.one(0, Sender.B);
        sender.one(0, Sender.C);
        t.state(sender, 8, 1);
        sender.one(0, Sender.D);
        t.state(sender, 0, 0);
        sender.one(PI, Sender.A);
        t.state(sender, 0, 1);
        t.state(sender, 7, 2);
        // 25 bits behind LOST are no block, not even with the last bit ahead of it.
        for (int last = 0; last <= 1; last++) {
            sender = Sender.synced(PI);
            sender.desk.set(0, 1);
            int lost = Sender.block(last, Sender.A) ^ Sender.WRONG_BITS;
            sender.words(lost);
            sender.desk.feed(Sender.block((lost & 1) << 15 | 7, Sender.C), 25);
            sender.one(0x0F0F, Sender.D);
            t.state(sender, 7, 1);
            t.state(sender, 8, 1);
        }
    }

    private static void groupAtHand(Edges t) {
        t.edge(6, "the GROUP at hand is not taken");
        for (int place = 0; place < 3; place++) {
            Sender sender = Sender.synced(PI);
            sender.desk.set(5, 1);
            for (int i = 0; i <= place; i++) {
                sender.one(i == place ? R : 9, i);
            }
            t.state(sender, 8, 1);
            t.state(sender, 5, 1);
            t.state(sender, 6, 1);
            t.group(sender, PI);
            t.programme(sender, 0, PI);
        }
    }

    private static void lostByABlockThree(Edges t) {
        t.edge(6, "(if it is LOST by a BLOCK 3, it is, ahead of that).");
        Sender sender = Sender.synced(PI);
        sender.desk.set(5, 1);
        sender.group(9, Sender.second(0, 0, 5, 0b11000), 225 << 8 | 9, R);
        t.state(sender, 0, 0);
        t.state(sender, 8, 1);
        t.state(sender, 5, 2);
        t.state(sender, 6, 1);
        t.group(sender, 9, Sender.second(0, 0, 5, 0b11000), 225 << 8 | 9, -1, 0, 0, 0, 2, 0);
        t.programme(sender, 0, 9);
        t.programme(sender, 2, 5);
        t.list(sender, 1, 88400);
    }

    private static void taken(Edges t) {
        t.edge(6, "When BLOCK 3 was LOOKED AT, the GROUP is TAKEN.");
        Sender sender = Sender.synced(PI);
        t.state(sender, 5, 1);
        for (int i = 0; i < 8; i++) {
            sender.one(R, i % 4);
            t.state(sender, 5, 1 + (i + 1) / 4);
        }
        t.group(sender, -1, -1, -1, -1, 2, 2, 2, 2, -1);
        // A SYNC at PLACE 3 takes one at once, at another PLACE not yet.
        for (int place = 0; place < 4; place++) {
            t.state(twoHits((place + 3) % 4, 1, place), 5, place == 3 ? 1 : 0);
        }
    }

    private static void whole(Edges t) {
        t.edge(6, "It is WHOLE, if all four are known.");
        for (int bad = 0; bad < 16; bad++) {
            Sender sender = Sender.synced(PI);
            sender.group((bad & 1) != 0 ? R : PI, (bad & 2) != 0 ? R : 0, (bad & 4) != 0 ? R : 0, (bad & 8) != 0 ? R : 0);
            t.state(sender, 5, 2);
            t.state(sender, 6, bad == 0 ? 2 : 1);
        }
        // RIGHTED ones are known, MISSING ones are not.
        Sender sender = Sender.synced(PI);
        for (int i = 0; i < 4; i++) {
            sender.words(Sender.block(0, i) ^ 1);
        }
        t.state(sender, 6, 2);
        sender = new Sender();
        sender.one(0, Sender.B);
        sender.one(0, Sender.C);
        sender.one(0, Sender.D);
        t.state(sender, 5, 1);
        t.state(sender, 6, 0);
    }

    private static void stateInSync(Edges t) {
        t.edge(6, "0 whether it is in SYNC (1, 0),");
        Sender sender = new Sender();
        t.state(sender, 0, 0);
        sender.one(PI, Sender.A);
        t.state(sender, 0, 0);
        sender.one(0, Sender.B);
        t.state(sender, 0, 1);
        sender.desk.set(5, 1);
        sender.one(R, Sender.C);
        t.state(sender, 0, 0);
    }

    private static void stateInAll(Edges t) {
        t.edge(6, "1 bits that have come in all, 2 BLOCKS that were OK, 3 RIGHTED, 4 BAD (in all), 5 GROUPS TAKEN, "
                + "6 WHOLE ones, 7 how often it was SYNC, 8 LOST,");
        Sender sender = Sender.synced(PI);
        sender.desk.set(5, 2);
        for (int round = 1; round <= 5; round++) {
            // Four OK of the SYNC, one RIGHTED, then two BAD: LOST, in the SEARCH the counts stay.
            sender.words(Sender.block(0, Sender.A) ^ 1);
            sender.one(R, Sender.B);
            sender.one(R, Sender.C);
            int[] wants = {0, 182 * round, 4 * round, round, 2 * round, round, round, round, round};
            for (int what = 0; what < wants.length; what++) {
                t.state(sender, what, wants[what]);
            }
            sender.typed(PI, 22, 0, 0, 0);
        }
    }

    private static void stateOfASearch(Edges t) {
        t.edge(6, "9 the PLACE of the BLOCK that comes next (NONE in a SEARCH), "
                + "10 BAD ones of those that count (0 in a SEARCH).");
        Sender sender = new Sender();
        t.state(sender, 9, -1);
        t.state(sender, 10, 0);
        for (int i = 0; i < 9; i++) {
            sender.one(0, i % 4);
            t.state(sender, 9, i == 0 ? -1 : (i + 1) % 4);
        }
        sender.one(R, Sender.B);
        t.state(sender, 10, 1);
        sender.desk.set(5, 2);
        sender.one(R, Sender.C);
        t.state(sender, 9, -1);
        t.state(sender, 10, 0);
        sender.one(R, Sender.D);
        t.state(sender, 10, 0);
        t.state(sender, 4, 2);
    }

    private static void stateOfAnotherWhat(Edges t) {
        t.edge(6, "NONE for another what.");
        Sender sender = Sender.synced(PI);
        t.state(sender, 11, -1);
        for (int what : OTHER_WHATS) {
            t.state(sender, what, -1);
            t.state(new Sender(), what, -1);
        }
    }

    private static void groupHas(Edges t) {
        t.edge(7, "Of the latest GROUP that was TAKEN: what BLOCK 0 .. 3 has (NONE if it isn't known);");
        Sender sender = Sender.synced(PI);
        sender.group(0xFFFF, 0xF7FF, 0xFFFF, 0xFFFF);
        t.group(sender, 0xFFFF, 0xF7FF, 0xFFFF, 0xFFFF);
        sender.one(0, Sender.A);
        sender.one(0, Sender.B);
        sender.one(0, Sender.C);
        sender.desk.feed(Sender.block(0, Sender.D) >>> 1, 25);
        t.group(sender, 0xFFFF, 0xF7FF, 0xFFFF, 0xFFFF);
        sender.desk.feed(Sender.block(0, Sender.D), 1);
        t.group(sender, 0, 0, 0, 0, 0, 0, 0, 0, 0);
        for (int place = 0; place < 4; place++) {
            sender.group(place == 0 ? R : 1, place == 1 ? R : 1, place == 2 ? R : 1, place == 3 ? R : 1);
            for (int what = 0; what < 4; what++) {
                t.due("group(" + what + ")", sender.desk.group(what), what == place ? -1 : 1);
            }
        }
    }

    private static void groupHow(Edges t) {
        t.edge(7, "4 .. 7: 0 OK, 1 RIGHTED, 2 BAD, 3 MISSING;");
        Sender sender = new Sender();
        sender.one(0, Sender.C);
        sender.one(0, Sender.D);
        t.group(sender, -1, -1, 0, 0, 3, 3, 0, 0);
        // None is MISSING of the next one.
        sender.group(R, R, R, R);
        t.group(sender, -1, -1, -1, -1, 2, 2, 2, 2);
        for (int i = 0; i < 4; i++) {
            sender.words(Sender.block(5, i) ^ (i % 2 == 0 ? 1 : 0));
        }
        t.group(sender, 5, 5, 5, 5, 1, 0, 1, 0);
    }

    private static void groupType(Edges t) {
        t.edge(7, "8 its TYPE times 2 and the version (NONE if BLOCK 1 isn't known).");
        for (int type = 0; type < 32; type++) {
            Sender sender = Sender.synced(PI);
            sender.typed(PI, type, 31, PI, 0);
            t.due("group(8)", sender.desk.group(8), type);
            sender.group(PI, Sender.second(type, 0, 0, 0), PI, 0);
            t.due("group(8)", sender.desk.group(8), type);
            sender.group(PI, R, PI, 0);
            t.due("group(8)", sender.desk.group(8), -1);
        }
        Sender sender = new Sender();
        sender.one(0, Sender.C);
        sender.one(0, Sender.D);
        t.due("group(8), BLOCK 1 MISSING", sender.desk.group(8), -1);
    }

    private static void groupAheadOfAny(Edges t) {
        t.edge(7, "NONE ahead of any, and for another what.");
        Sender sender = new Sender();
        sender.one(PI, Sender.A);
        sender.one(0, Sender.B);
        sender.one(0, Sender.C);
        t.group(sender, -1, -1, -1, -1, -1, -1, -1, -1, -1, -1);
        sender.one(0, Sender.D);
        t.group(sender, PI, 0, 0, 0, 0, 0, 0, 0, 0, -1, -1);
        for (int what : OTHER_WHATS) {
            t.due("group(" + what + ")", sender.desk.group(what), -1);
        }
    }
}
