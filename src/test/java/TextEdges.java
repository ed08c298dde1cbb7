/** Tests of what the document says of texts: Terms II, promises 5 to 10. */
final class TextEdges {
    private static final int NONE = GameOfNoes.NONE;
    private static final int LEAST = Integer.MIN_VALUE;
    private static final int MOST = Integer.MAX_VALUE;
    private static final String NEVERS_19 = "never 1=1;".repeat(19);
    private static final String NEVERS_20 = "never 1=1;".repeat(20);
    private static final String[] ONCE = {"place", "offer", "refuse", "choose"};

    private TextEdges() {
    }

    static void tell(Sentences all) {
        tape(all);
        tokens(all);
        clauses(all);
        askings(all);
        values(all);
        faults(all);
        use(all);
        promises(all);
    }

    private static void tape(Sentences all) {
        all.on("Promise 5", "Twenty bytes come behind the tape, the highest of a first: how many it has.",
            TextEdges::feedCounts, TextEdges::feedOrder, TextEdges::feedBehindWhatIsThere);
        all.on("Promise 5", "NONE, and none come, if there would be more than 300.", TextEdges::feedUpTo300, TextEdges::feedBeyond300);
        all.on("Promise 6", "The tape has its first n bytes alone: n.", TextEdges::endCuts, TextEdges::endCutsATokenShort, TextEdges::endAtAll, TextEdges::endAtNone);
        all.on("Promise 6", "NONE, and nothing is done, if it has not so many, or n is below 0.",
            TextEdges::endBeyondTheTape, TextEdges::endBelowZero);
    }

    private static void tokens(Sentences all) {
        all.on("Terms", "TEXTS 0 .. 5: of up to 300 bytes.", TextEdges::sixTexts, TextEdges::textOf300Bytes,
            TextEdges::fullTextsOneBehindTheOther);
        all.on("Terms", "TOKENS, blanks (32, 10) aside:", TextEdges::blanks, TextEdges::otherBytesAreNoBlanks, TextEdges::blanksDivide);
        all.on("Terms", "letters a .. z, A .. Z one behind the other (one TOKEN)", TextEdges::letters, TextEdges::bytesBesideTheLetters);
        all.on("Terms", ", digits likewise (NUMBERS, 0 .. 9999)", TextEdges::digits, TextEdges::bytesBesideTheDigits,
            TextEdges::greatestNumber);
        all.on("Terms", ", <= >= < > = # + - * / ( ) , ; (the longest).", TextEdges::everySign, TextEdges::noSignForAnother,
            TextEdges::longestSign);
    }

    private static void clauses(Sentences all) {
        all.on("Terms", "{CLAUSE}, 20 at most:", TextEdges::noClause, TextEdges::twentyClauses);
        all.on("Terms", "move N ACT K , D ; or move N ACT K , D while EITHER ;", TextEdges::moveClause, TextEdges::moveClauseCutShort);
        all.on("Terms", "(ACT: step, leap, push, change; N 0 .. 7, K and D 0 .. 3)",
            TextEdges::everyAct, TextEdges::noAct, TextEdges::numbersOfMoves, TextEdges::numbersOfKinds, TextEdges::numbersOfDirections);
        all.on("Terms", "or place SUM ; or offer SUM ; or refuse SUM ; or choose SUM ; (each once) or never EITHER ;.",
            TextEdges::sumClauses, TextEdges::eachOnce, TextEdges::neverOften, TextEdges::clauseCutShort);
    }

    private static void askings(Sentences all) {
        all.on("Terms", "EITHER: BOTH {or BOTH}.", TextEdges::either, TextEdges::eitherCutShort);
        all.on("Terms", "BOTH: ASK {and ASK}.", TextEdges::both, TextEdges::bothCutShort);
        all.on("Terms", "ASK: not ASK, or SUM one of < <= > >= = # (unlike) SUM.",
            TextEdges::comparing, TextEdges::not, TextEdges::askIsNoSum, TextEdges::oneComparingAlone);
        all.on("Terms", "SUM: PRODUCT {+ or - PRODUCT}.", TextEdges::sum, TextEdges::sumCutShort);
        all.on("Terms", "PRODUCT: ONE {* or / ONE}.", TextEdges::product, TextEdges::productCutShort);
        all.on("Terms", "ONE: NUMBER, NAME, ( SUM ), - ONE.", TextEdges::one, TextEdges::oneThatIsNone);
        all.on("Terms", "NAMES: move (its number), count (of it in THE HEAP), from, to (PLACES), mine (how many PIECES the SIDE to offer has), "
            + "theirs, side (the SIDE to offer).",
            TextEdges::nameMove, TextEdges::nameCount, TextEdges::namesFromAndTo, TextEdges::namesMineAndTheirs, TextEdges::nameSide,
            TextEdges::noName);
    }

    private static void values(Sentences all) {
        all.on("Terms", "From the left;", TextEdges::fromTheLeft);
        all.on("Terms", "/ cuts towards 0, by 0 it is 0;", TextEdges::cutsTowardsZero, TextEdges::byZero);
        all.on("Terms", "what is above 1000000 (below the same less) is that, at each step.",
            TextEdges::atTheLimit, TextEdges::aboveTheLimit, TextEdges::belowTheLimit, TextEdges::limitAtEachStep);
        all.on("Terms", "or and and look at both sides always.", TextEdges::bothSides);
    }

    private static void faults(Sentences all) {
        all.on("Terms", "FAULTS, the first as TOKENS are come to,", TextEdges::firstFault);
        all.on("Terms", "at the TOKEN's first byte (of the end at the length)", TextEdges::firstByte, TextEdges::endOfTheText);
        all.on("Terms", ", of one the least:", TextEdges::leastFault);
        all.on("Terms", "1 it can't stand there, or is none.", TextEdges::cantStand, TextEdges::isNone);
        all.on("Terms", "2 a NUMBER above 9999, or one of a move clause that isn't of those told.",
            TextEdges::numberAbove9999, TextEdges::numberThatWrapsAround, TextEdges::numberOfAMoveClause);
        all.on("Terms", "3 the 9th of ( not and - (of one ONE) that are open around one another (at it).",
            TextEdges::eightOpen, TextEdges::ninthOpen, TextEdges::openOfAllSorts, TextEdges::closedOnesAside, TextEdges::minusBetween);
        all.on("Terms", "4 place, offer, refuse, choose for the second time (at it).", TextEdges::secondTime);
        all.on("Terms", "5 the 21st CLAUSE (at its first TOKEN).", TextEdges::clause21);
    }

    private static void use(Sentences all) {
        all.on("Terms", "THE BOOK: a TEXT's move and place clauses (at first none: no MOVE can be done).",
            TextEdges::noBookAtFirst, TextEdges::bookOfMoveAndPlaceAlone, TextEdges::bookWithoutMoves);
        all.on("Terms", "A WAY of a SIDE: a TEXT's offer, refuse, choose and never clauses (at first none).",
            TextEdges::noWayAtFirst, TextEdges::wayWithoutMoves);
    }

    private static void promises(Sentences all) {
        all.on("Promise 7", "The tape (empty then) is a TEXT: its number.", TextEdges::textNumbers, TextEdges::tapeIsEmptyThen,
            TextEdges::textOfAnEmptyTape);
        all.on("Promise 7", "NONE: it has a FAULT;", TextEdges::textWithAFault);
        all.on("Promise 7", "or (the tape stays) there are 6.", TextEdges::seventhText, TextEdges::seventhTextWithAFault);
        all.on("Promise 8", "Of the latest text that was read: 0 its FAULT (0 without), 1 its place (NONE without).",
            TextEdges::latestFault, TextEdges::withoutFault, TextEdges::seventhTextIsNotRead);
        all.on("Promise 8", "NONE for others, and ahead of any.", TextEdges::faultOfOthers, TextEdges::faultAheadOfAny);
        all.on("Promise 9", "THE BOOK (NONE: none): true.", TextEdges::everyBook, TextEdges::noBook);
        all.on("Promise 9", "False for others.", TextEdges::bookOfNoText);
        all.on("Promise 10", "A SIDE's WAY (NONE: none): true.", TextEdges::everyWay, TextEdges::noWay);
        all.on("Promise 10", "False for others.", TextEdges::wayOfNoText, TextEdges::wayOfNoSide);
    }

    /** Where a text has its fault; a fault of 0 is none. */
    private static void isFault(Due due, String text, int fault, int place) {
        GameOfNoes x = new GameOfNoes(2, 1);
        due.is("text() of " + text, Due.tell(x, text), fault == 0 ? 0 : NONE);
        due.is("fault(0) of " + text, x.fault(0), fault);
        due.is("fault(1) of " + text, x.fault(1), place);
    }

    private static void isText(Due due, String text) {
        isFault(due, text, 0, NONE);
    }

    private static void isSo(Due due, String either, boolean so) {
        GameOfNoes x = Games.board(Games.withBook(2, 1, "move 3 change 0,1 while " + either + ";"), 5, 1);
        due.is(either, x.can(3, 0), so ? 1 : NONE);
    }

    /** What a sum comes to; a value above 9999 is told by thousands and what is left. */
    private static void isSum(Due due, String sum, int value) {
        String told = value < -9999 || value > 9999 ? value / 1000 + "*1000+" + value % 1000 : "" + value;
        isSo(due, sum + "=" + told.replace("+-", "-"), true);
        isSo(due, sum + "#" + told.replace("+-", "-"), false);
    }

    private static void feedCounts(Due due) {
        GameOfNoes x = new GameOfNoes(2, 1);
        due.is("the first twenty", x.feed(0, 0, 0, 0, 0), 20);
        due.is("the second", x.feed(-1, LEAST, MOST, 1, 2), 40);
        due.is("about(8)", x.about(8), 40);
    }

    private static void feedOrder(Due due) {
        int[] words = new int[5];
        for (int byteAt = 0; byteAt < 20; byteAt++) {
            // Nothing but blanks and one ! at this byte.
            for (int i = 0; i < 5; i++) words[i] = 0x20202020;
            words[byteAt / 4] ^= 1 << 24 - byteAt % 4 * 8;
            GameOfNoes x = new GameOfNoes(2, 1);
            x.feed(words[0], words[1], words[2], words[3], words[4]);
            x.text();
            due.is("the byte", x.fault(1), byteAt);
        }
    }

    private static void feedBehindWhatIsThere(Due due) {
        GameOfNoes x = new GameOfNoes(2, 1);
        Due.tape(x, "plac");
        due.is("feed behind 4", x.feed(0x65203121, 0x20202020, 0x20202020, 0x20202020, 0x20202020), 24);
        x.text();
        due.is("plac and e 1!", x.fault(1), 7);
    }

    private static GameOfNoes withTape(int bytes) {
        GameOfNoes x = new GameOfNoes(2, 1);
        Due.tape(x, " ".repeat(bytes));
        return x;
    }

    private static void feedUpTo300(Due due) {
        GameOfNoes x = withTape(280);
        due.is("feed on 280", x.feed(1, 2, 3, 4, 5), 300);
        due.is("feed on 279", withTape(279).feed(1, 2, 3, 4, 5), 299);
    }

    private static void feedBeyond300(Due due) {
        for (int bytes : new int[] {281, 282, 299, 300}) {
            GameOfNoes x = withTape(bytes);
            due.is("feed on " + bytes, x.feed(1, 2, 3, 4, 5), NONE);
            due.is("about(8)", x.about(8), bytes);
            due.is("text() of blanks alone", x.text(), 0);
        }
    }

    private static void endCuts(Due due) {
        GameOfNoes x = new GameOfNoes(2, 1);
        Due.tape(x, "place 1; !");
        due.is("end(8)", x.end(8), 8);
        due.is("about(8)", x.about(8), 8);
        due.is("text()", x.text(), 0);
    }

    private static void endCutsATokenShort(Due due) {
        String[] texts = {"place moved;", "place 1234;", "never 1<=1;", "place 1 ;"};
        int[] cuts = {10, 8, 8, 7};
        for (int i = 0; i < texts.length; i++) {
            GameOfNoes x = new GameOfNoes(2, 1);
            Due.tape(x, texts[i]);
            x.end(cuts[i]);
            x.text();
            due.is("fault(0) of what is left of " + texts[i], x.fault(0), 1);
            due.is("fault(1): its end", x.fault(1), cuts[i]);
        }
    }

    private static void endAtAll(Due due) {
        GameOfNoes x = withTape(20);
        due.is("end(20)", x.end(20), 20);
        due.is("about(8)", x.about(8), 20);
        GameOfNoes y = withTape(300);
        due.is("end(300)", y.end(300), 300);
    }

    private static void endAtNone(Due due) {
        GameOfNoes x = withTape(20);
        due.is("end(0)", x.end(0), 0);
        due.is("about(8)", x.about(8), 0);
        due.is("end(0) of an empty tape", new GameOfNoes(2, 1).end(0), 0);
    }

    private static void endBeyondTheTape(Due due) {
        for (int bytes : new int[] {0, 7, 20, 300}) {
            GameOfNoes x = withTape(bytes);
            due.is("end(" + (bytes + 1) + ")", x.end(bytes + 1), NONE);
            due.is("end(greatest)", x.end(MOST), NONE);
            due.is("about(8)", x.about(8), bytes);
        }
        GameOfNoes cut = withTape(20);
        cut.end(7);
        due.is("end(8) behind end(7)", cut.end(8), NONE);
    }

    private static void endBelowZero(Due due) {
        for (int n : new int[] {-1, -2, LEAST}) {
            GameOfNoes x = withTape(20);
            due.is("end(" + n + ")", x.end(n), NONE);
            due.is("about(8)", x.about(8), 20);
        }
    }

    private static void sixTexts(Due due) {
        GameOfNoes x = new GameOfNoes(2, 1);
        for (int i = 0; i < 6; i++) due.is("text", Due.tell(x, "place " + i + ";"), i);
        due.is("the 7th", Due.tell(x, "place 6;"), NONE);
        due.is("about(3)", x.about(3), 6);
    }

    private static void textOf300Bytes(Due due) {
        isText(due, " ".repeat(292) + "place 1;");
        isFault(due, " ".repeat(299) + "!", 1, 299);
        isFault(due, " ".repeat(293) + "place 1", 1, 300);
        // The last byte is within a word, a number, a sign of two bytes.
        isFault(due, " ".repeat(291) + "place mov", 1, 297);
        isFault(due, " ".repeat(290) + "place move", 1, 300);
        isFault(due, " ".repeat(290) + "place 1234", 1, 300);
        isFault(due, " ".repeat(292) + "never 1<", 1, 300);
    }

    private static void fullTextsOneBehindTheOther(Due due) {
        // 300 bytes that are nearly all of a sum, and a fault at the end: what comes behind has as much room.
        String full = "place 1" + "+1".repeat(146) + "!";
        GameOfNoes x = new GameOfNoes(2, 1);
        for (int i = 0; i < 3; i++) {
            due.is("text() of a fault", Due.tell(x, full), NONE);
            due.is("fault(1)", x.fault(1), 299);
        }
        due.is("text()", Due.tell(x, "move 0change0,1 while 1" + "+1".repeat(130) + "=131;place from;"), 0);
        Games.board(x, 1, 1);
        x.book(0);
        due.is("it counts to 131", x.can(0, 0), 1);
    }

    private static void blanks(Due due) {
        isText(due, "place 1;");
        isText(due, " \n place\n1 \n\n ; \n");
        isText(due, "\n\n");
        isText(due, "never(1)<(2)and not(1)=2;");
    }

    private static void otherBytesAreNoBlanks(Due due) {
        for (int sign = 0; sign < 256; sign++) {
            if (sign == 32 || sign == 10) continue;
            if ("<>=#+-*/(),;".indexOf(sign) >= 0 || sign >= '0' && sign <= '9') continue;
            if (sign >= 'a' && sign <= 'z' || sign >= 'A' && sign <= 'Z') continue;
            isFault(due, "place " + (char) sign + "1;", 1, 6);
        }
    }

    private static void blanksDivide(Due due) {
        isFault(due, "pla ce 1;", 1, 0);
        isFault(due, "place 1 1;", 1, 8);
        isFault(due, "never 1< =2;", 1, 9);
    }

    private static void letters(Due due) {
        isFault(due, "placemove;", 1, 0);
        for (char letter : new char[] {'a', 'z', 'A', 'Z'}) isFault(due, "place" + letter + " 1;", 1, 0);
        isFault(due, "Place 1;", 1, 0);
        isFault(due, "placE 1;", 1, 0);
        isFault(due, "plac 1;", 1, 0);
        isText(due, "place1;");
    }

    private static void bytesBesideTheLetters(Due due) {
        for (char sign : new char[] {'`', '{', '@', '['}) isFault(due, "place" + sign + "1;", 1, 5);
    }

    private static void digits(Due due) {
        isText(due, "place 0;");
        isFault(due, "place 12 34;", 1, 9);
        isSum(due, "12", 3 * 4);
        isSum(due, "0012", 12);
        isFault(due, "place 1move;", 1, 7);
    }

    private static void bytesBesideTheDigits(Due due) {
        isFault(due, "place 1:;", 1, 7);
        // The byte below 0 is a sign of its own.
        isSum(due, "8/2", 4);
        isFault(due, "place 1.;", 1, 7);
    }

    private static void greatestNumber(Due due) {
        isSum(due, "9999", 9998 + 1);
        isText(due, "place 00000000009999;");
        isFault(due, "place 10000;", 2, 6);
    }

    private static void everySign(Due due) {
        isText(due, "never 1<=2;never 1>=2;never 1<2;never 1>2;never 1=2;never 1#2;");
        isText(due, "place 1+2-3*4/(5);move 0 step 0,0;");
    }

    private static void noSignForAnother(Due due) {
        for (String sign : new String[] {"<=", ">=", "<", ">", "=", "#", "+", "-", "*", "/", "(", ")", ",", ";"}) {
            boolean joins = "+-*/".contains(sign);
            if (!sign.equals(",")) isFault(due, "move 0 step 0" + sign + "0;", 1, 13);
            if (!sign.equals(")")) isFault(due, "place (1" + sign + ";", 1, joins ? 9 : 8);
            if (!sign.equals(";")) isFault(due, "place 1" + sign, 1, joins ? 8 : 7);
            if (!sign.equals("(")) isFault(due, "place " + sign + "1);", 1, sign.equals("-") ? 8 : 6);
        }
    }

    private static void longestSign(Due due) {
        isSo(due, "2<=2", true);
        isSo(due, "2>=2", true);
        isFault(due, "never 1<==2;", 1, 9);
        isFault(due, "never 1>==2;", 1, 9);
        isFault(due, "never 1=<2;", 1, 8);
        isFault(due, "never 1=>2;", 1, 8);
        isFault(due, "never 1<>2;", 1, 8);
        isFault(due, "never 1<", 1, 8);
        isFault(due, "never 1>", 1, 8);
    }

    private static void noClause(Due due) {
        isText(due, "");
        isText(due, " ");
    }

    private static void twentyClauses(Due due) {
        isText(due, NEVERS_19);
        isText(due, NEVERS_20);
        isFault(due, NEVERS_20 + "never 1=1;", 5, 200);
    }

    private static void moveClause(Due due) {
        isText(due, "move 0 step 1,2;");
        isText(due, "move 0 step 1,2 while 1=1;");
        isFault(due, "move 0 step 1,2 while;", 1, 21);
        isFault(due, "move 0 step 1,2 1=1;", 1, 16);
        isFault(due, "move 0 step 1,2 while 1=1 while 1=1;", 1, 26);
        isFault(due, "move 0 step 1 2;", 1, 14);
        isFault(due, "move step 1,2;", 1, 5);
        isFault(due, "move 0 1,2;", 1, 7);
        isFault(due, "move -1 step 1,2;", 1, 5);
        isFault(due, "move 0 step (1),2;", 1, 12);
        isFault(due, "move 0 step 1,1+1;", 1, 15);
    }

    private static void moveClauseCutShort(Due due) {
        String[] tokens = {"move", " 0", " step", " 1", ",", "2", " while", " 1", "=", "1", ";"};
        StringBuilder text = new StringBuilder();
        for (String token : tokens) {
            text.append(token);
            if (!token.equals(";")) isFault(due, text.toString(), 1, text.length());
        }
        isText(due, text.toString());
    }

    private static void everyAct(Due due) {
        for (String act : new String[] {"step", "leap", "push", "change"}) isText(due, "move 0 " + act + " 1,2;");
    }

    private static void noAct(Due due) {
        for (String act : new String[] {"hop", "move", "while", "to", "side", "Step", "steps", "never"}) {
            isFault(due, "move 0 " + act + " 1,2;", 1, 7);
        }
    }

    private static void numbersOfMoves(Due due) {
        for (int n = 0; n < 8; n++) isText(due, "move " + n + " step 1,2;");
        for (int n : new int[] {8, 9, 10, 9999, 10000}) isFault(due, "move " + n + " step 1,2;", 2, 5);
        isText(due, "move 07 step 1,2;");
    }

    private static void numbersOfKinds(Due due) {
        for (String act : new String[] {"step", "leap", "push", "change"}) {
            for (int k = 0; k < 4; k++) isText(due, "move 0 " + act + " " + k + ",1;");
            for (int k : new int[] {4, 7, 9999, 10000}) isFault(due, "move 0 " + act + " " + k + ",1;", 2, 8 + act.length());
        }
    }

    private static void numbersOfDirections(Due due) {
        for (String act : new String[] {"step", "leap", "push", "change"}) {
            for (int d = 0; d < 4; d++) isText(due, "move 0 " + act + " 1," + d + ";");
            for (int d : new int[] {4, 7, 9999, 10000}) isFault(due, "move 0 " + act + " 1," + d + ";", 2, 10 + act.length());
        }
    }

    private static void sumClauses(Due due) {
        for (String type : ONCE) {
            isText(due, type + " 1;");
            isFault(due, type + " 1<2;", 1, type.length() + 2);
            isFault(due, type + " 1 while 1=1;", 1, type.length() + 3);
        }
        isText(due, "never 1<2;");
        isFault(due, "never 1;", 1, 7);
    }

    private static void eachOnce(Due due) {
        isText(due, "place 1;offer 1;refuse 1;choose 1;");
        for (String type : ONCE) isFault(due, type + " 1;" + type + " 1;", 4, type.length() + 3);
    }

    private static void neverOften(Due due) {
        isText(due, "never 1=1;never 1=1;");
        isText(due, NEVERS_20);
    }

    private static void clauseCutShort(Due due) {
        for (String type : ONCE) {
            isFault(due, type, 1, type.length());
            isFault(due, type + ";", 1, type.length());
            isFault(due, type + " 1", 1, type.length() + 2);
        }
        isFault(due, "never", 1, 5);
        isFault(due, "never;", 1, 5);
        isFault(due, "never 1=1", 1, 9);
        isFault(due, ";", 1, 0);
        isFault(due, "place 1;;", 1, 8);
    }

    private static void either(Due due) {
        isSo(due, "1=2 or 1=2", false);
        isSo(due, "1=1 or 1=2", true);
        isSo(due, "1=2 or 1=1", true);
        isSo(due, "1=1 or 1=1", true);
        isSo(due, "1=2 or 1=2 or 1=2 or 1=1", true);
        // or is looser than and, on either side of it.
        isSo(due, "1=1 or 1=1 and 1=2", true);
        isSo(due, "1=2 and 1=1 or 1=1", true);
    }

    private static void eitherCutShort(Due due) {
        isFault(due, "never 1=1 or;", 1, 12);
        isFault(due, "never or 1=1;", 1, 6);
        isFault(due, "never 1 or 1=1;", 1, 8);
        isFault(due, "never 1=1 or 1;", 1, 14);
        isFault(due, "never 1=1 or or 1=1;", 1, 13);
        isFault(due, "place 1 or 1;", 1, 8);
    }

    private static void both(Due due) {
        isSo(due, "1=2 and 1=2", false);
        isSo(due, "1=1 and 1=2", false);
        isSo(due, "1=2 and 1=1", false);
        isSo(due, "1=1 and 1=1", true);
        isSo(due, "1=1 and 1=1 and 1=1 and 1=2", false);
        isSo(due, "1<2 and 2<=2 and 3>2 and 2>=2 and 2=2 and 1#2 and not 1=2", true);
        for (String so : new String[] {"1<2", "2<=2", "3>2", "2>=2", "2=2", "1#2"}) isSo(due, so + " and 1=1", true);
    }

    private static void bothCutShort(Due due) {
        isFault(due, "never 1=1 and;", 1, 13);
        isFault(due, "never and 1=1;", 1, 6);
        isFault(due, "never 1 and 1=1;", 1, 8);
        isFault(due, "never 1=1 and 1;", 1, 15);
        isFault(due, "place 1 and 1;", 1, 8);
    }

    private static void comparing(Due due) {
        String[] signs = {"<", "<=", ">", ">=", "=", "#"};
        // As bits: what is so of 1 and 2, of 2 and 2, of 3 and 2.
        int[] so = {0b100, 0b110, 0b001, 0b011, 0b010, 0b101};
        for (int i = 0; i < 6; i++) {
            for (int x = 1; x <= 3; x++) isSo(due, x + signs[i] + "2", (so[i] >> 3 - x & 1) != 0);
        }
        isSo(due, "-1<0", true);
        isSo(due, "-1>-2", true);
    }

    private static void not(Due due) {
        isSo(due, "not 1=1", false);
        isSo(due, "not 1=2", true);
        isSo(due, "not not 1=1", true);
        for (String so : new String[] {"1<2", "2<=2", "3>2", "2>=2", "2=2", "1#2"}) isSo(due, "not " + so, false);
        for (String so : new String[] {"2<2", "3<=2", "2>2", "1>=2", "1=2", "2#2"}) isSo(due, "not " + so, true);
        // not is of one ASK, not of all behind it.
        isSo(due, "not 1=2 and 1=2", false);
        isSo(due, "not 1=1 or 1=1", true);
    }

    private static void askIsNoSum(Due due) {
        isFault(due, "never (1=1);", 1, 8);
        isFault(due, "never not 1;", 1, 11);
        isFault(due, "place not 1;", 1, 6);
        isFault(due, "never 1=not 1;", 1, 8);
        isFault(due, "never not;", 1, 9);
    }

    private static void oneComparingAlone(Due due) {
        isFault(due, "never 1<2<3;", 1, 9);
        isFault(due, "never 1=;", 1, 8);
        isFault(due, "never =1;", 1, 6);
        isFault(due, "never 1 2;", 1, 8);
    }

    private static void sum(Due due) {
        isSum(due, "1+2", 3);
        isSum(due, "1-2", -1);
        isSum(due, "1+2-3+4", 4);
        isSum(due, "1+2*3", 7);
        isSum(due, "2*3+1", 7);
        isSum(due, "1--2", 3);
    }

    private static void sumCutShort(Due due) {
        isFault(due, "place 1+;", 1, 8);
        isFault(due, "place 1-;", 1, 8);
        isFault(due, "place +1;", 1, 6);
        isFault(due, "place 1++1;", 1, 8);
        isFault(due, "place;", 1, 5);
    }

    private static void product(Due due) {
        isSum(due, "2*3", 6);
        isSum(due, "7/2", 3);
        isSum(due, "2*3*4/5", 4);
        isSum(due, "2*-3", -6);
    }

    private static void productCutShort(Due due) {
        isFault(due, "place 1*;", 1, 8);
        isFault(due, "place 1/;", 1, 8);
        isFault(due, "place *1;", 1, 6);
        isFault(due, "place /1;", 1, 6);
        isFault(due, "place 1*/1;", 1, 8);
    }

    private static void one(Due due) {
        isSum(due, "5", 5);
        isSum(due, "move", 3);
        isSum(due, "(5)", 5);
        isSum(due, "-5", -5);
        isSum(due, "--5", 5);
        isSum(due, "-(1+2)", -3);
        isSum(due, "(1+2)*3", 9);
        isSum(due, "-2+5", 3);
        // All that can wait at once: eight open ones with a sum and a product each, inside or, and, a comparing.
        isSo(due, "1=2 or 1=1 and 9=" + "1+1*(".repeat(8) + "1" + ")".repeat(8), true);
        isSo(due, "1=2 or 1=1 and 9#" + "1+1*(".repeat(8) + "1" + ")".repeat(8), false);
    }

    private static void oneThatIsNone(Due due) {
        isFault(due, "place ();", 1, 7);
        isFault(due, "place (1;", 1, 8);
        isFault(due, "place 1);", 1, 7);
        isFault(due, "place (1+);", 1, 9);
        isFault(due, "place -;", 1, 7);
        isFault(due, "place (1)2;", 1, 9);
        isFault(due, "place ,;", 1, 6);
    }

    private static void nameMove(Due due) {
        for (int move = 0; move < 8; move++) {
            GameOfNoes x = Games.board(Games.withBook(2, 1, "move " + move + " change 0,1 while move=" + move + ";"), 1);
            due.is("move " + move, x.can(move, 0), 0);
        }
    }

    private static void nameCount(Due due) {
        GameOfNoes x = Games.board(Games.withBook(2, 1, "move 0 change 0,1 while count=3;move 7 change 0,1 while count=0;"), 1);
        due.is("0 of move 0", x.can(0, 0), NONE);
        due.is("0 of move 7", x.can(7, 0), 0);
        x.heap(0, 3);
        x.heap(6, 2);
        due.is("3 of move 0", x.can(0, 0), 0);
        due.is("still 0 of move 7", x.can(7, 0), 0);
        x.heap(7, 1);
        due.is("1 of move 7", x.can(7, 0), NONE);
    }

    private static void namesFromAndTo(Due due) {
        String book = "move 0 step 0,1 while from=10 and to=11;move 1 step 0,3 while from=1 and to=0;move 2 change 0,1 while from=to;";
        GameOfNoes x = Games.withBook(4, 3, book);
        x.piece(1, 0, 0);
        x.piece(10, 0, 0);
        due.is("from 10 to 11", x.can(0, 1), 11);
        due.is("from 1 to 0", x.can(1, 1), 0);
        due.is("of change the same", x.can(2, 0), 1);
    }

    private static void namesMineAndTheirs(Due due) {
        GameOfNoes x = Games.withBook(4, 3, "move 0 change 0,1 while mine=11 and theirs=1;move 1 change 0,1 while mine=12 and theirs=0;"
            + "move 2 change 0,1 while mine=1 and theirs=11;");
        Games.board(x, 1, 2, 3, 4, 1, 1, 1, 1, 1, 1, 1, 5);
        due.is("11 and 1", x.can(0, 0), 0);
        due.is("not 12 and 0", x.can(1, 0), NONE);
        x.turn(1);
        due.is("1 and 11 for the other side", x.can(2, 0), 11);
        x.turn(0);
        x.piece(11, 0, 0);
        due.is("12 and 0", x.can(1, 0), 0);
    }

    private static void nameSide(Due due) {
        GameOfNoes x = Games.board(Games.withBook(2, 1, "move 0 change 0,1 while side=0;move 1 change 0,1 while side=1;"), 1, 5);
        due.is("side 0", x.can(0, 0), 0);
        due.is("not side 1", x.can(1, 0), NONE);
        x.turn(1);
        due.is("side 1", x.can(1, 0), 1);
        due.is("not side 0", x.can(0, 0), NONE);
    }

    private static void noName(Due due) {
        for (String word : new String[] {"place", "offer", "refuse", "choose", "never", "step", "leap", "push", "change", "while", "and", "or",
            "not", "kind", "Count", "counts", "fro"}) {
            isFault(due, "place " + word + ";", 1, 6);
        }
        for (String word : new String[] {"move", "count", "from", "to", "mine", "theirs", "side"}) {
            isText(due, "place " + word + ";");
            isFault(due, word + " 1;", 1, word.equals("move") ? 6 : 0);
        }
    }

    private static void fromTheLeft(Due due) {
        isSum(due, "9-3-2", 4);
        isSum(due, "9-3+2", 8);
        isSum(due, "100/10/2", 5);
        isSum(due, "7/2*2", 6);
        isSum(due, "2*7/4", 3);
    }

    private static void cutsTowardsZero(Due due) {
        isSum(due, "7/2", 3);
        isSum(due, "-7/2", -3);
        isSum(due, "7/-2", -3);
        isSum(due, "-7/-2", 3);
        isSum(due, "1/2", 0);
        isSum(due, "-1/2", 0);
    }

    private static void byZero(Due due) {
        isSum(due, "5/0", 0);
        isSum(due, "-5/0", 0);
        isSum(due, "0/0", 0);
        isSum(due, "5/(2-2)", 0);
        isSum(due, "1+9999*9999/0", 1);
        isSum(due, "5/0/0", 0);
    }

    private static void atTheLimit(Due due) {
        isSum(due, "1000*1000", 1000000);
        isSum(due, "1000*1000-1", 999999);
        isSum(due, "999*1000+999", 999999);
        isSum(due, "999*1000+1000-1", 999999);
        isSum(due, "-1000*1000", -1000000);
        isSum(due, "-1000*1000+1", -999999);
    }

    private static void aboveTheLimit(Due due) {
        isSum(due, "1000*1000+1", 1000000);
        isSum(due, "1000*1000+1-1", 999999);
        isSum(due, "9999*9999", 1000000);
        isSum(due, "-9999*-9999", 1000000);
        isSum(due, "1000*1000--1", 1000000);
        // Far beyond what an int holds.
        isSum(due, "9999*9999*(9999*9999)", 1000000);
        isSum(due, "9999*9999*9999", 1000000);
    }

    private static void belowTheLimit(Due due) {
        isSum(due, "-1000*1000-1", -1000000);
        isSum(due, "-1000*1000-1+1", -999999);
        isSum(due, "-9999*9999", -1000000);
        isSum(due, "9999*-9999", -1000000);
        isSum(due, "9999*9999*(-9999*9999)", -1000000);
    }

    private static void limitAtEachStep(Due due) {
        isSum(due, "9999*9999-9999*9999+7", 7);
        isSum(due, "9999*9999/9999", 100);
        isSum(due, "(1000*1000+9)-9", 999991);
        isSum(due, "-(9999*9999)+1", -999999);
        isSum(due, "1000*1000+9-9+9", 1000000);
    }

    private static void bothSides(Due due) {
        // What is asked of one side changes nothing of the other; no side of it fails.
        isSo(due, "1=1 or 1/0=1", true);
        isSo(due, "1/0=1 or 1=1", true);
        isSo(due, "1=2 and 1/0=0", false);
        isSo(due, "1/0=0 and 1=2", false);
        isSo(due, "1=1 or 1=1 or 1=2", true);
        isSo(due, "1=2 and 1=2 and 1=1", false);
    }

    private static void firstFault(Due due) {
        isFault(due, "place !;offer 10000;", 1, 6);
        isFault(due, "offer 10000;place !;", 2, 6);
        isFault(due, "move 8 step 4,4;", 2, 5);
        isFault(due, "move 0 step 4,4;", 2, 12);
        isFault(due, "place 1;place !;", 4, 8);
        isFault(due, "place 1;offer !;place 1;", 1, 14);
        isFault(due, "place (((((((((10000", 3, 14);
        isFault(due, "place 10000)", 2, 6);
        isFault(due, NEVERS_20 + "never 10000", 5, 200);
    }

    private static void firstByte(Due due) {
        isFault(due, "place 1; \n wrong 1;", 1, 11);
        isFault(due, "place\n\n\n10000;", 2, 8);
        isFault(due, "never 1 <= <= 1;", 1, 11);
        isFault(due, "move 0 step 0 , 0044 ;", 2, 16);
        isFault(due, "place 1 ;\n choose 1; place 1;", 4, 21);
    }

    private static void endOfTheText(Due due) {
        isFault(due, "place", 1, 5);
        isFault(due, "place ", 1, 6);
        isFault(due, "place 1 \n\n", 1, 10);
        isFault(due, " move", 1, 5);
        isFault(due, "place 1;offer", 1, 13);
        GameOfNoes x = new GameOfNoes(2, 1);
        Due.tape(x, "place 1;");
        x.end(7);
        x.text();
        due.is("of what end left", x.fault(1), 7);
    }

    private static void leastFault(Due due) {
        // A number that can't stand there and is above 9999; or is of a move clause and above 9999.
        isFault(due, "place 1 10000;", 1, 8);
        isFault(due, "10000", 1, 0);
        isFault(due, "move 10000 step 0,0;", 2, 5);
        // The 9th one open, where it can't stand.
        isFault(due, "place ((((((((1(", 1, 15);
        isFault(due, "place ((((((((not", 1, 14);
        isFault(due, "never not not not not not not not not 1 not 1=1;", 1, 40);
        // The 21st clause, of one that was there already, and of one that is none.
        isFault(due, "place 1;" + NEVERS_19 + "place 1;", 4, 198);
        isFault(due, NEVERS_20 + "step", 1, 200);
        isFault(due, NEVERS_20 + "10000", 1, 200);
    }

    private static void cantStand(Due due) {
        isFault(due, "step 0,1;", 1, 0);
        isFault(due, "count 1;", 1, 0);
        isFault(due, "1", 1, 0);
        isFault(due, "while 1=1;", 1, 0);
        isFault(due, "place 1 place 2;", 1, 8);
        isFault(due, "never 1=1;=", 1, 10);
        isFault(due, "move move step 0,0;", 1, 5);
    }

    private static void isNone(Due due) {
        isFault(due, "!", 1, 0);
        isFault(due, "place 1;&", 1, 8);
        isFault(due, "place 1\u0000;", 1, 7);
        isFault(due, "place 1\u00ff;", 1, 7);
        isFault(due, "place xyz;", 1, 6);
        isFault(due, "xyz", 1, 0);
        isFault(due, "move 0 step 0,1 when 1=1;", 1, 16);
    }

    private static void numberAbove9999(Due due) {
        isText(due, "place 9999;");
        isFault(due, "place 10000;", 2, 6);
        isFault(due, "never 1=10000;", 2, 8);
        isFault(due, "move 0 step 0,1 while 10000=1;", 2, 22);
        isFault(due, "place -(1+10000);", 2, 10);
    }

    private static void numberThatWrapsAround(Due due) {
        for (String number : new String[] {"65536", "65537", "2147483648", "4294967296", "4294967297", "18446744073709551616", "1" + "0".repeat(99)}) {
            isFault(due, "place " + number + ";", 2, 6);
            isFault(due, "move " + number + " step 0,1;", 2, 5);
        }
    }

    private static void numberOfAMoveClause(Due due) {
        isFault(due, "move 8 step 3,3;", 2, 5);
        isFault(due, "move 7 step 4,3;", 2, 12);
        isFault(due, "move 7 step 3,4;", 2, 14);
        isText(due, "move 7 step 3,3;");
        isText(due, "move 7 step 3,3 while 8=9999;");
    }

    private static void eightOpen(Due due) {
        isText(due, "place ((((((((1))))))));");
        isText(due, "place --------1;");
        isText(due, "never not not not not not not not not 1=1;");
        isText(due, "move 0 step 0,0 while not not not not not not not not 1=1;");
        isText(due, "move 0 step 0,0 while ((((((((1))))))))=1;");
    }

    private static void ninthOpen(Due due) {
        isFault(due, "place (((((((((1)))))))));", 3, 14);
        isFault(due, "place ---------1;", 3, 14);
        isFault(due, "never not not not not not not not not not 1=1;", 3, 38);
        isFault(due, "move 0 step 0,0 while not not not not not not not not not 1=1;", 3, 54);
        isFault(due, "move 0 step 0,0 while (((((((((1)))))))))=1;", 3, 30);
        for (String type : ONCE) isFault(due, type + " ---------1;", 3, type.length() + 9);
    }

    private static void openOfAllSorts(Due due) {
        isText(due, "never not not not(-(-(1)))=1;");
        isFault(due, "never not not not(-(-((1))))=1;", 3, 22);
        isFault(due, "never not not not(-(-(-1)))=1;", 3, 22);
        isFault(due, "place -(-(-(-(-1))));", 3, 14);
        isFault(due, "never not not not not not not not not -1=1;", 3, 38);
        isFault(due, "never not not not not not not not not 1=(1);", 3, 40);
        isText(due, "never not not not not not not not(1)=-1;");
    }

    private static void closedOnesAside(Due due) {
        isText(due, "place (1)+(1)+(1)+(1)+(1)+(1)+(1)+(1)+(1)+(1);");
        isText(due, "place -1+-1+-1+-1+-1+-1+-1+-1+-1+-1;");
        isText(due, "never not not not not not not not not 1=1 and not 1=1 or not 1=1;");
        isText(due, "place -------(1)+--------1;");
        isText(due, "place (((((((-1)))))))+((((((((1))))))));");
        isText(due, "place (((((((-1+(2)))))))); ");
        isFault(due, "place ((((((((1)+(-1))))))));", 3, 18);
    }

    private static void minusBetween(Due due) {
        isText(due, "place 1-1-1-1-1-1-1-1-1-1-1;");
        isText(due, "place ((((((((1-1-1))))))));");
        isFault(due, "place ((((((((1--1))))))));", 3, 16);
    }

    private static void secondTime(Due due) {
        for (String type : ONCE) {
            isFault(due, type + " 1;never 1=1;" + type + " 2;", 4, type.length() + 13);
            isFault(due, type + " 1;" + type, 4, type.length() + 3);
            isFault(due, type + " 1; \n" + type + " 2;", 4, type.length() + 5);
        }
        isText(due, "never 1=1;move 0 step 0,0;never 1=1;move 0 step 0,0;");
    }

    private static void clause21(Due due) {
        isText(due, NEVERS_20);
        isFault(due, NEVERS_20 + "never 1=1;", 5, 200);
        isFault(due, NEVERS_20 + " \nmove", 5, 202);
        isFault(due, NEVERS_20 + "place", 5, 200);
        isFault(due, "move0step0,0;".repeat(20) + "place1;", 5, 260);
        isText(due, NEVERS_20 + " ");
    }

    private static void noBookAtFirst(Due due) {
        GameOfNoes x = Games.heap(Games.board(new GameOfNoes(2, 1), 1, 5), 3, 3, 3);
        due.is("about(4)", x.about(4), NONE);
        Due.tell(x, Games.FLIPS);
        for (int move = 0; move < 8; move++) due.is("can(" + move + ", 0)", x.can(move, 0), NONE);
        due.is("so it is over", x.won(), 0);
    }

    private static void bookOfMoveAndPlaceAlone(Due due) {
        // 2 would be left out by never, and 1 refused, if the book's other clauses were of use.
        GameOfNoes x = Games.flips(Games.FLIPS_4 + "offer move;refuse move;choose -move;never move=2;place -from;", 2, 2, 2, 2);
        due.is("run(1)", x.run(1), 1);
        due.is("0 1 2, no to 0, 1 is done", Games.heapOf(x, 4), 13122);
    }

    private static void bookWithoutMoves(Due due) {
        GameOfNoes x = Games.withBook(3, 3, "place from;offer 1;refuse 1;choose 1;never 1=2;");
        for (int side = 0; side < 2; side++) {
            Games.board(x, 1, 5, 0, 2, 6, 1, 0, 3, 8);
            x.turn(side);
            for (int move = 0; move < 8; move++) due.is("can(" + move + ", 0)", x.can(move, 0), NONE);
            Games.board(x, 0, 5, 1, 2, 6, 0, 1, 5, 5);
            for (int move = 0; move < 8; move++) due.is("can(" + move + ", 0) on another board", x.can(move, 0), NONE);
        }
    }

    private static void noWayAtFirst(Due due) {
        GameOfNoes x = Games.flips(Games.FLIPS_4, 2, 2, 2, 2);
        Due.tell(x, "offer move;refuse move;choose move;");
        due.is("about(5)", x.about(5), NONE);
        due.is("about(6)", x.about(6), NONE);
        x.run(1);
        due.is("0 1 2, no to 0, 1 is done", Games.heapOf(x, 4), 13122);
    }

    private static void wayWithoutMoves(Due due) {
        GameOfNoes x = Games.flips(Games.FLIPS, 2, 2, 2);
        Due.tell(x, "move 3 change 0,1;place -from;refuse move;");
        x.way(0, 1);
        x.way(1, 1);
        x.heap(3, 3);
        due.is("move 3 isn't there", x.can(3, 0), NONE);
        x.run(1);
        due.is("no to 2, 0 is done", Games.heapOf(x, 4), 11233);
    }

    private static void textNumbers(Due due) {
        GameOfNoes x = new GameOfNoes(2, 1);
        due.is("the first", Due.tell(x, "place 1;"), 0);
        due.is("the second", Due.tell(x, "place 1;"), 1);
        due.is("a fault", Due.tell(x, "place;"), NONE);
        due.is("the third", Due.tell(x, "place 1;"), 2);
        due.is("about(3)", x.about(3), 3);
    }

    private static void tapeIsEmptyThen(Due due) {
        GameOfNoes x = new GameOfNoes(2, 1);
        Due.tell(x, "place 1;");
        due.is("about(8)", x.about(8), 0);
        due.is("feed", x.feed(0, 0, 0, 0, 0), 20);
        due.is("text() of what is none", x.text(), NONE);
        due.is("about(8) behind a fault", x.about(8), 0);
    }

    private static void textOfAnEmptyTape(Due due) {
        GameOfNoes x = new GameOfNoes(2, 1);
        due.is("text()", x.text(), 0);
        due.is("fault(0)", x.fault(0), 0);
        due.is("about(3)", x.about(3), 1);
        due.is("book(0)", x.book(0), true);
        due.is("can(0, 0)", x.can(0, 0), NONE);
    }

    private static void textWithAFault(Due due) {
        GameOfNoes x = new GameOfNoes(2, 1);
        for (String text : new String[] {"!", "place 10000;", "place (((((((((1", "place 1;place 1;", NEVERS_20 + "never"}) {
            due.is("text()", Due.tell(x, text), NONE);
            due.is("about(3)", x.about(3), 0);
            due.is("book(0)", x.book(0), false);
        }
        // A text behind it has nothing of what was read ahead of the fault.
        due.is("a fault behind a clause", Due.tell(x, "move 0 change 0,1;place from;!"), NONE);
        due.is("a text", Due.tell(x, "move 1 change 0,1;"), 0);
        x.book(0);
        Games.board(x, 1, 1);
        due.is("move 0", x.can(0, 0), NONE);
        due.is("move 1", x.can(1, 0), 0);
    }

    private static GameOfNoes withSixTexts() {
        GameOfNoes x = new GameOfNoes(2, 1);
        for (int i = 0; i < 6; i++) Due.tell(x, "move " + i + " change 0,1;");
        return x;
    }

    private static void seventhText(Due due) {
        GameOfNoes x = withSixTexts();
        Due.tape(x, "place 1;");
        due.is("text()", x.text(), NONE);
        due.is("the tape stays", x.about(8), 8);
        due.is("once more", x.text(), NONE);
        due.is("about(3)", x.about(3), 6);
        Games.board(x, 1, 1);
        x.book(5);
        due.is("the 6th is as it was", x.can(5, 0), 0);
        x.back();
        due.is("with none it is read", x.text(), 0);
        due.is("the tape is empty then", x.about(8), 0);
    }

    private static void seventhTextWithAFault(Due due) {
        GameOfNoes x = withSixTexts();
        Due.tape(x, "!");
        due.is("text()", x.text(), NONE);
        due.is("the tape stays", x.about(8), 1);
    }

    private static void latestFault(Due due) {
        GameOfNoes x = new GameOfNoes(2, 1);
        Due.tell(x, "place 10000;");
        due.is("fault(0)", x.fault(0), 2);
        due.is("fault(1)", x.fault(1), 6);
        Due.tell(x, "!");
        due.is("fault(0) of the latest", x.fault(0), 1);
        due.is("fault(1) of the latest", x.fault(1), 0);
        Due.tape(x, "place 1;");
        due.is("what is on the tape isn't read yet", x.fault(0), 1);
    }

    private static void withoutFault(Due due) {
        GameOfNoes x = new GameOfNoes(2, 1);
        Due.tell(x, "place 10000;");
        Due.tell(x, "place 1;");
        due.is("fault(0)", x.fault(0), 0);
        due.is("fault(1)", x.fault(1), NONE);
    }

    private static void seventhTextIsNotRead(Due due) {
        GameOfNoes x = withSixTexts();
        Due.tell(x, "!");
        due.is("fault(0)", x.fault(0), 0);
        due.is("fault(1)", x.fault(1), NONE);
    }

    private static void faultOfOthers(Due due) {
        GameOfNoes x = new GameOfNoes(2, 1);
        Due.tell(x, "place 10000;");
        for (int what : new int[] {-1, 2, 3, LEAST, MOST}) due.is("fault(" + what + ")", x.fault(what), NONE);
    }

    private static void faultAheadOfAny(Due due) {
        GameOfNoes x = new GameOfNoes(2, 1);
        Due.tape(x, "!");
        due.is("fault(0)", x.fault(0), NONE);
        due.is("fault(1)", x.fault(1), NONE);
        due.is("fault(2)", x.fault(2), NONE);
    }

    private static void everyBook(Due due) {
        GameOfNoes x = withSixTexts();
        Games.board(x, 1, 5);
        for (int text = 0; text < 6; text++) {
            due.is("book(" + text + ")", x.book(text), true);
            due.is("about(4)", x.about(4), text);
            due.is("its move", x.can(text, 0), 0);
        }
    }

    private static void noBook(Due due) {
        GameOfNoes x = Games.flips(Games.FLIPS);
        due.is("book(NONE)", x.book(NONE), true);
        due.is("about(4)", x.about(4), NONE);
        due.is("can(0, 0)", x.can(0, 0), NONE);
        due.is("book(NONE) of a new object", new GameOfNoes(2, 1).book(NONE), true);
    }

    private static void bookOfNoText(Due due) {
        GameOfNoes x = new GameOfNoes(2, 1);
        due.is("book(0) of none", x.book(0), false);
        Due.tell(x, Games.FLIPS);
        x.book(0);
        for (int text : new int[] {1, 2, 5, 6, -2, LEAST, MOST}) due.is("book(" + text + ")", x.book(text), false);
        due.is("about(4)", x.about(4), 0);
        due.is("book(6) of six", withSixTexts().book(6), false);
    }

    private static void everyWay(Due due) {
        GameOfNoes x = withSixTexts();
        for (int text = 0; text < 6; text++) {
            for (int side = 0; side < 2; side++) {
                due.is("way(" + side + ", " + text + ")", x.way(side, text), true);
                due.is("about", x.about(5 + side), text);
            }
        }
        x.way(0, 2);
        due.is("the other side's stays", x.about(6), 5);
    }

    private static void noWay(Due due) {
        GameOfNoes x = withSixTexts();
        for (int side = 0; side < 2; side++) {
            x.way(side, 3);
            due.is("way(" + side + ", NONE)", x.way(side, NONE), true);
            due.is("about", x.about(5 + side), NONE);
            due.is("way(" + side + ", NONE) of a new object", new GameOfNoes(2, 1).way(side, NONE), true);
        }
    }

    private static void wayOfNoText(Due due) {
        GameOfNoes x = new GameOfNoes(2, 1);
        due.is("way(0, 0) of none", x.way(0, 0), false);
        Due.tell(x, "offer 1;");
        x.way(0, 0);
        for (int text : new int[] {1, 2, 6, -2, LEAST, MOST}) {
            due.is("way(0, " + text + ")", x.way(0, text), false);
            due.is("way(1, " + text + ")", x.way(1, text), false);
        }
        due.is("about(5)", x.about(5), 0);
        due.is("about(6)", x.about(6), NONE);
        due.is("way(0, 6) of six", withSixTexts().way(0, 6), false);
    }

    private static void wayOfNoSide(Due due) {
        GameOfNoes x = new GameOfNoes(2, 1);
        Due.tell(x, "offer 1;");
        for (int side : new int[] {-1, 2, 3, LEAST, MOST}) {
            due.is("way(" + side + ", 0)", x.way(side, 0), false);
            due.is("way(" + side + ", NONE)", x.way(side, NONE), false);
        }
        due.is("about(5)", x.about(5), NONE);
        due.is("about(6)", x.about(6), NONE);
    }
}
