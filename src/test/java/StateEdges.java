/** Tests of what the document says of states, best play and images: Terms IV, promises 21 to 30. */
final class StateEdges {
    private static final int NONE = GameOfNoes.NONE;
    private static final int SPENT = GameOfNoes.SPENT;
    private static final int LEAST = Integer.MIN_VALUE;
    private static final int MOST = Integer.MAX_VALUE;
    private static final int OPEN = 0;
    private static final int WON = 1;
    private static final int LOST = 2;

    // Found by trying: a game of just 2000 states, and one of just 2001.
    private static final String BOOK_2000 = "move 0 change 1,0;move 0 change 0,1;move 1 change 0,1;move 2 step 1,3;move 2 change 1,0;"
        + "move 2 step 0,1;move 3 change 1,0;move 3 change 0,1;";
    private static final int[] BOARD_2000 = {1, 0, 5};
    private static final int[] HEAP_2000 = {3, 3, 2, 2};
    private static final String BOOK_2001 = "move 0 step 1,1;move 0 change 1,0;move 1 change 1,0;move 1 change 0,1;move 2 step 0,1;"
        + "move 2 change 0,1;move 3 step 1,3;move 3 change 0,1;move 3 change 1,0;";
    private static final int[] BOARD_2001 = {1, 0, 0, 5};
    private static final int[] HEAP_2001 = {1, 2, 2, 2};

    private StateEdges() {
    }

    static void tell(Sentences all) {
        all.on("What it is", "An object is used for at most 512 calls after it has been made", StateEdges::call512);
        states(all);
        lines(all);
        rest(all);
        promises(all);
        promisesOfImages(all);
    }

    private static void states(Sentences all) {
        all.on("Terms", "STATES: BOARD, THE HEAP, TURN.", StateEdges::statesByTheHeap, StateEdges::statesByTheBoard, StateEdges::statesByTheLastPlaces,
            StateEdges::statesByTheTurn);
        all.on("Terms", "From now on by all OFFERS, NOES and choices: the 2001st state ends it: SPENT (found by fewest PLIES, "
            + "of like ones in the order of states, then NO, then what is done).",
            StateEdges::states2000, StateEdges::states2001, StateEdges::statesFromNowOn, StateEdges::statesOfWhatIsNow,
            StateEdges::statesBehindOtherGames);
        all.on("Terms", "BEST PLAY: a state is WON in 0, if the game is over there.", StateEdges::wonIn0);
        all.on("Terms", "It is WON in t, if there is an OFFER by which for each NO one of the other two leads to a state that is LOST "
            + "in less than t (t the least such, 1 at least).",
            StateEdges::wonInTwo, StateEdges::wonByOneOfTheOffers, StateEdges::wonByOneOfTheOtherTwo, StateEdges::wonInTheLeast,
            StateEdges::notWonByAllNoesButOne);
        all.on("Terms", "It is LOST in t, if by each OFFER there is a NO by which both others lead to states that are WON in less than t (likewise).",
            StateEdges::lostInOne, StateEdges::lostByOneOfTheNoes, StateEdges::lostInTheLeast, StateEdges::notLostByAllOffersButOne);
        all.on("Terms", "Else it is OPEN (for ever).", StateEdges::open);
        all.on("Terms", "GOOD: OFFERS by which the SIDE wins, whatever the NO.", StateEdges::goodOnes, StateEdges::goodOfALongerWin);
        all.on("Terms", "LOSES: of an OFFER the NOES (MOVES as bits) by which the SIDE wins.",
            StateEdges::losingNoes, StateEdges::losingNoesAsBits, StateEdges::losingNoesOfWhatIsLost);
    }

    private static void lines(Sentences all) {
        all.on("Terms", "THE LINE from a state that is WON or LOST:", StateEdges::lineOfWon, StateEdges::lineOfLost, StateEdges::lineByWayOfOpenStates,
            StateEdges::lineOfOpen);
        all.on("Terms", "WON in t: the lowest OFFER by which each NO leads to LOST in less than t;",
            StateEdges::lineNotByALongerOffer, StateEdges::lineNotByAnOfferThatIsNotGood, StateEdges::lineByTheLowestOffer);
        all.on("Terms", "the NO by which it takes longest (the other SIDE choosing so, this one the shortest of both), of like ones the lowest;",
            StateEdges::lineByTheLongestNo, StateEdges::lineByTheShortestOfBoth, StateEdges::lineByTheLowestNo);
        all.on("Terms", "of the two the one that is LOST shortest, of like ones the lowest.",
            StateEdges::lineByTheShortestLost, StateEdges::lineByTheOnlyLost, StateEdges::lineByTheLowestLost, StateEdges::lineByOneOfTheTwo);
        all.on("Terms", "LOST in t: the OFFER by which it takes longest, of like ones the lowest;",
            StateEdges::lineByTheLongestOffer, StateEdges::lineByTheLowestOfLongest, StateEdges::lineByTheLowestOfAll);
        all.on("Terms", "the NO by which it is shortest (each OFFER and NO by the longer one of both), of like ones the lowest;",
            StateEdges::lineByTheShortestNo, StateEdges::lineByTheOnlyNo, StateEdges::lineByTheLowestOfLikeNoes,
            StateEdges::lineByANoToWhatIsOffered);
        all.on("Terms", "of the two that by which it takes longest, of like ones the lowest.",
            StateEdges::lineByTheLongestWon, StateEdges::lineByTheLowerLongestWon, StateEdges::lineByTheLowestWon);
    }

    private static void rest(Sentences all) {
        all.on("Terms", "RUNS for ever: whether some state can be come to again from itself.",
            StateEdges::runsFromNow, StateEdges::runsFromAnotherState, StateEdges::runsByOneNarrowWay, StateEdges::runsNot);
        all.on("Terms", "BALANCED by a MOVE: the least COUNT of it (0 .. 3, THE HEAP else as it is) by which now is OPEN; none.",
            StateEdges::balancedByEachCount, StateEdges::balancedByTheLeast, StateEdges::balancedByNone, StateEdges::balancedLeavesTheHeap);
        all.on("Terms", "AN IMAGE: all as it is, but the tape and the latest FAULT;",
            StateEdges::imageOfAll, StateEdges::imageWithoutTheTape, StateEdges::imageWithoutTheFault);
        all.on("Terms", "TEXTS told behind it are gone behind going back.", StateEdges::laterTextsAreGone, StateEdges::nothingOfLaterTextsStays,
            StateEdges::earlierTextsStay);
    }

    private static void promises(Sentences all) {
        all.on("Promise 21", "How many states.", StateEdges::statesCounted);
        all.on("Promise 21", "SPENT.", due -> isSpentBy2001(due, "states()", GameOfNoes::states));
        all.on("Promise 22", "By BEST PLAY: what 0: 1 WON, 2 LOST, 0 OPEN; what 1: in how many PLIES (NONE: OPEN).", StateEdges::bestOfEach);
        all.on("Promise 22", "SPENT.", due -> isSpentBy2001(due, "best(0)", x -> x.best(0)), due -> isSpentBy2001(due, "best(1)", x -> x.best(1)));
        all.on("Promise 22", "-3 for others.", StateEdges::bestOfOthers);
        all.on("Promise 23", "GOOD: how many (i NONE), the i-th: 100 a + 10 b + c.", StateEdges::goodCounted);
        all.on("Promise 23", "NONE if there is none such, and for others.", StateEdges::goodBehindTheLast, StateEdges::goodBelowNone,
            StateEdges::goodOfNone);
        all.on("Promise 23", "SPENT.", due -> isSpentBy2001(due, "good(NONE)", x -> x.good(NONE)),
            due -> isSpentBy2001(due, "good(0)", x -> x.good(0)), StateEdges::goodOfOthersWhereSpent);
        all.on("Promise 24", "LOSES of an OFFER.", StateEdges::losesOfEach);
        all.on("Promise 24", "NONE: it is none.", StateEdges::losesOfNoOffer);
        all.on("Promise 24", "SPENT.", due -> isSpentBy2001(due, "loses", StateEdges::losesOfTheFirst), StateEdges::losesOfNoOfferWhereSpent);
        all.on("Promise 25", "THE LINE's i-th PLY: 0, 1, 2 what is offered, 3 the NO, 4 what is done.", StateEdges::lineOfSixPlies);
        all.on("Promise 25", "NONE: OPEN, it has none such, and for others.",
            StateEdges::lineOfAnOpenState, StateEdges::lineBehindTheLast, StateEdges::lineOfOthers);
        all.on("Promise 25", "SPENT.", due -> isSpentBy2001(due, "line(0, 0)", x -> x.line(0, 0)), StateEdges::lineOfOthersWhereSpent);
        all.on("Promise 26", "Whether it RUNS for ever (1, 0).", StateEdges::runsOneOrZero);
        all.on("Promise 26", "SPENT.", due -> isSpentBy2001(due, "runs()", GameOfNoes::runs));
        all.on("Promise 27", "BALANCED by a MOVE.", StateEdges::balancedOfEachMove);
        all.on("Promise 27", "NONE: none (SPENT ones aside), and for others.",
            StateEdges::balancedBehindASpentOne, StateEdges::balancedOfSpentOnes, StateEdges::balancedOfNoMove);
    }

    private static void promisesOfImages(Sentences all) {
        all.on("Promise 28", "THE IMAGE is as all is now: how many PIECES there are.", StateEdges::imageCounts, StateEdges::laterImage);
        all.on("Promise 29", "All is as at THE IMAGE again (it stays): how many PIECES there are.",
            StateEdges::backCounts, StateEdges::backTwice, StateEdges::backWithoutImage);
        all.on("Promise 30", "0 W, 1 H, 2 TURN, 3 TEXTS, 4 THE BOOK (NONE), 5, 6 WAYS of the SIDES (NONE), 7 PLIES of THE GAME, "
            + "8 bytes of the tape,", StateEdges::aboutAtFirst, StateEdges::aboutEach);
        all.on("Promise 30", "10 + move: its COUNT,", StateEdges::aboutCounts);
        all.on("Promise 30", "20 + place: 0 empty, else 1 + KIND + 4 SIDE.", StateEdges::aboutPlaces);
        all.on("Promise 30", "-2 for others.", StateEdges::aboutOthers, StateEdges::aboutPlacesThatAreNotThere);
    }

    private static void call512(Due due) {
        GameOfNoes x = Games.flips(Games.FLIPS_4, 1, 1, 1, 1);
        // Eleven calls made it; 500 more are dear ones.
        for (int call = 0; call < 500; call += 4) {
            x.balanced(call % 8);
            x.drawn(call, 20, 0);
            x.text();
            x.runs();
        }
        due.is("the 512th", x.line(1, 3), 0);
    }

    // States

    private static void statesByTheHeap(Due due) {
        // By each of six noes and choices another heap, on the same board.
        due.is("1 1 1", Games.flips(Games.FLIPS, 1, 1, 1).states(), 7);
        // At 3 a NO changes nothing, so what is done is all.
        due.is("3 3 3 of one ply", Games.flips("move 0 change 0,1;move 1 change 0,1;move 2 change 0,1;", 3, 3, 3, 3).states(), 13);
    }

    private static void statesByTheBoard(Due due) {
        // One ply of each side: 3 by what is done; then 3 of the same move, 6 of unlike ones with a NO to the first and
        // 6 with a NO to the third. Without the board the last two were 3 each.
        GameOfNoes x = Games.flips("move 0 change 0,1;move 1 change 0,2;move 2 change 0,3;", 3, 3, 3);
        due.is("states()", x.states(), 19);
    }

    private static void statesByTheLastPlaces(Due due) {
        for (int place = 0; place < 11; place++) {
            GameOfNoes x = Games.heap(Games.withBook(4, 3, Games.FLIPS), 1, 1, 1);
            x.piece(place, 0, 0);
            x.piece(11, 0, 1);
            due.is("1 1 1 of pieces at " + place + " and 11", x.states(), 7);
            due.is("lost in", x.best(1), 1);
            Games.heap(x, 2, 2, 2);
            due.is("as many of 2 2 2 as on two places", x.states(), Games.flips(Games.FLIPS, 2, 2, 2).states());
        }
    }

    private static void statesByTheTurn(Due due) {
        // Step, step, push leads to the same board and, by 2 2 2, to the same heap, but it is the other side's turn.
        String book = "move 0 step 0,3;move 1 step 0,3;move 2 step 0,3;move 0 push 0,1;move 1 push 0,1;move 2 push 0,1;";
        GameOfNoes x = Games.heap(Games.board(Games.withBook(4, 1, book), 0, 1, 5, 0), 2, 2, 2);
        int states = x.states();
        x.play(0, 1, 2, 0, 1);
        x.play(0, 1, 2, 1, 2);
        x.play(0, 1, 2, 2, 0);
        due.is("the board", Games.boardOf(x), 10150);
        due.is("the heap", Games.heapOf(x, 3), 1222);
        due.is("side 1 can do nothing there, side 0 could at first", x.won(), 1);
        due.is("states()", states, 54);
    }

    private static GameOfNoes of2000() {
        return Games.heap(Games.board(Games.withBook(3, 1, BOOK_2000), BOARD_2000), HEAP_2000);
    }

    private static GameOfNoes of2001() {
        return Games.heap(Games.board(Games.withBook(4, 1, BOOK_2001), BOARD_2001), HEAP_2001);
    }

    private static void statesBehindOtherGames(Due due) {
        // An object that has looked through greater games answers as a new one does.
        String[] books = {Games.FLIPS, Games.FLIPS_4,
            "move 1change0,2;move 2change0,1;move 3change0,1;move 0change1,2;move 1change1,0;move 3change1,2;",
            "move 0 change 0,1;move 1 change 0,1;move 2 change 0,1;move 0 change 1,2;move 1 change 1,2;move 2 change 1,2;"};
        GameOfNoes used = Games.withBook(2, 1, Games.flipsOf(0, 1, 2, 3, 4, 5, 6, 7));
        for (int i = 0; i < books.length; i++) due.is("text", Due.tell(used, books[i]), i + 1);
        for (int i = 0; i < books.length; i++) {
            for (int count = 1; count < 4; count++) {
                used.book(0);
                Games.heap(Games.board(used, 1, 5), 1, 1, 1, 1, count, 0, 0, 0);
                used.states();
                used.book(i + 1);
                int[] heap = {1, 3, count, 1, 0, 0, 0, 0};
                Games.heap(Games.board(used, 2, 6), heap);
                GameOfNoes fresh = Games.heap(Games.board(Games.withBook(2, 1, books[i]), 2, 6), heap);
                due.is("runs()", used.runs(), fresh.runs());
                due.is("states()", used.states(), fresh.states());
                is(due, used, fresh.best(0), fresh.best(1));
                for (int what = 0; what < 5; what++) due.is("line(0, " + what + ")", used.line(0, what), fresh.line(0, what));
            }
        }
    }

    /** How many states there are by PlainGame, which counts on up to 3000. */
    private static int countedPlainly(int w, String book, int[] board, int[] counts) {
        PlainGame x = new PlainGame(w, 1);
        for (int n = 0; 4 * n < book.length(); n += 5) {
            x.feed(Due.four(book, n), Due.four(book, n + 1), Due.four(book, n + 2), Due.four(book, n + 3), Due.four(book, n + 4));
        }
        x.book(x.text());
        for (int place = 0; place < w; place++) {
            x.piece(place, board[place] == 0 ? NONE : (board[place] - 1) % 4, board[place] == 0 ? 0 : (board[place] - 1) / 4);
        }
        for (int move = 0; move < counts.length; move++) x.heap(move, counts[move]);
        return x.statesUpTo(3000);
    }

    private interface Call {
        int of(GameOfNoes x);
    }

    private static void isSpentBy2001(Due due, String told, Call call) {
        due.is(told + " of 2001", call.of(of2001()), SPENT);
        due.is(told + " of far more", call.of(Games.spent()), SPENT);
        due.is(told + " of 2000", call.of(of2000()) != SPENT, true);
        GameOfNoes x = of2001();
        call.of(x);
        x.heap(1, 0);
        x.heap(2, 0);
        due.is(told + " behind it, of what is over", call.of(x) != SPENT, true);
    }

    private static void states2000(Due due) {
        due.is("there are 2000", countedPlainly(3, BOOK_2000, BOARD_2000, HEAP_2000), 2000);
        due.is("states()", of2000().states(), 2000);
    }

    private static void states2001(Due due) {
        due.is("there are 2001", countedPlainly(4, BOOK_2001, BOARD_2001, HEAP_2001), 2001);
        due.is("states()", of2001().states(), SPENT);
    }

    private static void statesFromNowOn(Due due) {
        GameOfNoes x = Games.flips(Games.FLIPS, 1, 1, 1);
        due.is("ahead of a ply", x.states(), 7);
        x.play(0, 1, 2, 0, 1);
        due.is("behind it", x.states(), 1);
    }

    private static void statesOfWhatIsNow(Due due) {
        // Each change by itself leads to another answer, and back again.
        GameOfNoes x = Games.flips(Games.FLIPS, 1, 1, 1);
        Due.tell(x, "move 0 change 0,1;");
        due.is("at first", x.states(), 7);
        x.piece(0, 2, 0);
        due.is("by another board", x.states(), 1);
        x.turn(1);
        due.is("by another turn", x.states(), 7);
        x.book(1);
        due.is("by another book", x.states(), 1);
        x.book(0);
        x.heap(0, 0);
        due.is("by another heap", x.states(), 1);
        x.heap(0, 1);
        due.is("as before", x.states(), 7);
        Games.heap(Games.board(x, 0, 0), 0, 0, 0);
        x.turn(0);
        due.is("of nothing at all", x.states(), 1);
        due.is("by best play of it", x.best(0), WON);
    }

    private static void is(Due due, GameOfNoes x, int what, int plies) {
        due.is("best(0)", x.best(0), what);
        due.is("best(1)", x.best(1), plies);
    }

    private static void wonIn0(Due due) {
        for (int side = 0; side < 2; side++) {
            GameOfNoes x = Games.flips(Games.FLIPS, 3, 3, 0);
            x.turn(side);
            is(due, x, WON, 0);
        }
        is(due, new GameOfNoes(2, 1), WON, 0);
        GameOfNoes empty = Games.flips(Games.FLIPS, 3, 3, 3);
        empty.piece(0, NONE, 0);
        is(due, empty, WON, 0);
    }

    private static int[] two(int[] offer, int no) {
        return new int[] {no == offer[0] ? offer[1] : offer[0], no == offer[2] ? offer[1] : offer[2]};
    }

    /** What each NO and choice of an offer leads to, as best tells it: W won, L lost, O open, and in how many plies. */
    private static String leads(GameOfNoes x, int a, int b, int c) {
        int[] offer = {a, b, c};
        StringBuilder told = new StringBuilder();
        for (int no : offer) {
            told.append(told.length() > 0 ? ", " : "").append("no ").append(no).append(':');
            for (int done : two(offer, no)) {
                x.image();
                x.play(a, b, c, no, done);
                told.append(' ').append(done).append("OWL".charAt(x.best(0))).append(x.best(1));
                x.back();
            }
        }
        return told.toString();
    }

    private static void isLeading(Due due, GameOfNoes x, int offer, String want) {
        String got = leads(x, offer / 100, offer / 10 % 10, offer % 10);
        due.is("offer " + offer + " leads to " + got + ", as in " + want, got.equals(want), true);
    }

    private static GameOfNoes kinds(String book, int piece, int others, int... heap) {
        return Games.heap(Games.board(Games.withBook(2, 1, book), piece, others), heap);
    }

    private static void wonInTwo(Due due) {
        GameOfNoes x = Games.flips(Games.FLIPS_4, 1, 1, 1, 1);
        isLeading(due, x, 12, "no 0: 1L1 2L1, no 1: 0L1 2L1, no 2: 0L1 1L1");
        is(due, x, WON, 2);
    }

    private static GameOfNoes secondOfferWins() {
        return kinds("move 0 change 0,2;move 1 change 0,1;move 2 change 0,1;move 3 change 0,2;move 0 change 1,2;move 2 change 1,3;"
            + "move 3 change 1,2;", 1, 5, 2, 2, 2, 2);
    }

    private static void wonByOneOfTheOffers(Due due) {
        GameOfNoes x = secondOfferWins();
        isLeading(due, x, 12, "no 0: 1W2 2W2, no 1: 0L1 2W2, no 2: 0L1 1W2");
        isLeading(due, x, 13, "no 0: 1W2 3L1, no 1: 0L1 3L1, no 3: 0L1 1W2");
        is(due, x, WON, 2);
    }

    private static GameOfNoes oneOfTheTwoWins() {
        return kinds("move 0 change 0,2;move 1 change 0,1;move 2 change 0,2;", 1, 5, 2, 1, 3);
    }

    private static void wonByOneOfTheOtherTwo(Due due) {
        GameOfNoes x = oneOfTheTwoWins();
        isLeading(due, x, 12, "no 0: 1W0 2L1, no 1: 0L1 2L1, no 2: 0L1 1W0");
        is(due, x, WON, 2);
    }

    private static GameOfNoes shorterOfferIsSecond() {
        return kinds("move 0 change 0,1;move 1 change 0,2;move 2 change 0,2;move 3 change 0,2;move 1 change 1,2;move 2 change 1,0;"
            + "move 3 change 1,0;", 1, 6, 1, 2, 1, 3);
    }

    private static void wonInTheLeast(Due due) {
        GameOfNoes x = shorterOfferIsSecond();
        isLeading(due, x, 12, "no 0: 1L1 2W0, no 1: 0L3 2W0, no 2: 0W4 1L1");
        isLeading(due, x, 13, "no 0: 1L1 3L1, no 1: 0L3 3L1, no 3: 0L3 1L1");
        is(due, x, WON, 2);
        is(due, sixPlies(), WON, 6);
    }

    private static void notWonByAllNoesButOne(Due due) {
        // A NO to 0 or to 2 would lose, but a NO to 1 wins.
        GameOfNoes x = Games.flips(Games.FLIPS, 1, 2, 1);
        isLeading(due, x, 12, "no 0: 1L1 2W0, no 1: 0W0 2W0, no 2: 0W0 1L1");
        is(due, x, LOST, 1);
    }

    private static void lostInOne(Due due) {
        GameOfNoes x = Games.flips(Games.FLIPS, 1, 1, 1);
        isLeading(due, x, 12, "no 0: 1W0 2W0, no 1: 0W0 2W0, no 2: 0W0 1W0");
        is(due, x, LOST, 1);
    }

    private static void lostByOneOfTheNoes(Due due) {
        GameOfNoes x = longerChoiceIsHigher();
        isLeading(due, x, 12, "no 0: 1W0 2W2, no 1: 0L1 2L3, no 2: 0L1 1W0");
        is(due, x, LOST, 3);
    }

    private static void lostInTheLeast(Due due) {
        // By a NO to 0 it would take 3 plies, by one to 1 it takes one.
        GameOfNoes x = shorterNoIsSecond();
        isLeading(due, x, 12, "no 0: 1W2 2W0, no 1: 0W0 2W0, no 2: 0W0 1W2");
        is(due, x, LOST, 1);
        is(due, longerOfferIsSecond(), LOST, 3);
    }

    private static void notLostByAllOffersButOne(Due due) {
        // 1 2 3 leaves a NO that wins, 0 1 3 doesn't.
        GameOfNoes x = secondOfferWins();
        isLeading(due, x, 123, "no 1: 2W2 3L1, no 2: 1W2 3L1, no 3: 1W2 2W2");
        due.is("it isn't lost", x.best(0), WON);
    }

    private static void open(Due due) {
        is(due, Games.flips(Games.FLIPS, 2, 2, 2), OPEN, NONE);
        is(due, Games.flips(Games.FLIPS_4, 2, 2, 2, 2), OPEN, NONE);
        // There are states that are won and lost ahead of it, but nobody can be made to go there.
        due.is("it leads to some that are won", leads(Games.flips(Games.FLIPS, 2, 2, 1), 0, 1, 2).contains("W"), true);
        is(due, Games.flips(Games.FLIPS, 2, 2, 1), OPEN, NONE);
    }

    private static void isGood(Due due, GameOfNoes x, int... offers) {
        due.is("good(NONE)", x.good(NONE), offers.length);
        for (int i = 0; i < offers.length; i++) due.is("good(" + i + ")", x.good(i), offers[i]);
        due.is("good behind the last", x.good(offers.length), NONE);
    }

    private static void goodOnes(Due due) {
        // 0 1 2 and 1 2 3 leave a NO that wins.
        isGood(due, secondOfferWins(), 13, 23);
        isGood(due, oneOfTheTwoWins(), 12);
    }

    private static void goodOfALongerWin(Due due) {
        isGood(due, shorterOfferIsSecond(), 12, 13, 23, 123);
    }

    private static void losingNoes(Due due) {
        GameOfNoes x = secondOfferWins();
        due.is("a NO to 1 or 2 loses", x.loses(0, 1, 2), 0b0110);
        due.is("each loses", x.loses(0, 1, 3), 0b1011);
        due.is("a NO to 1 or 2 of 1 2 3 loses", x.loses(1, 2, 3), 0b0110);
    }

    private static void losingNoesAsBits(Due due) {
        GameOfNoes x = Games.flips(Games.flipsOf(4, 5, 6, 7), 0, 0, 0, 0, 1, 1, 1, 1);
        due.is("4 5 6", x.loses(4, 5, 6), 0b01110000);
        due.is("5 6 7", x.loses(5, 6, 7), 0b11100000);
    }

    private static void losingNoesOfWhatIsLost(Due due) {
        due.is("none loses", Games.flips(Games.FLIPS, 1, 1, 1).loses(0, 1, 2), 0);
        due.is("some lose all the same", Games.flips(Games.FLIPS, 1, 2, 1).loses(0, 1, 2), 0b101);
    }

    // The line

    private static void isLine(Due due, GameOfNoes x, int i, int... ply) {
        for (int what = 0; what < 5; what++) due.is("line(" + i + ", " + what + ")", x.line(i, what), ply[what]);
    }

    private static void lineOfWon(Due due) {
        GameOfNoes x = Games.flips(Games.FLIPS_4, 1, 1, 1, 1);
        isLine(due, x, 0, 0, 1, 2, 0, 1);
        isLine(due, x, 1, 0, 2, 3, 0, 2);
        due.is("no more", x.line(2, 0), NONE);
    }

    private static void lineOfLost(Due due) {
        GameOfNoes x = Games.flips(Games.FLIPS, 1, 1, 1);
        isLine(due, x, 0, 0, 1, 2, 0, 1);
        due.is("no more", x.line(1, 0), NONE);
    }

    private static void lineByWayOfOpenStates(Due due) {
        // The first state that is found behind now, by a NO to 1 and 0 done, is open.
        GameOfNoes x = Games.heap(Games.board(Games.withBook(3, 1, "move 0change0,2;move 1change0,1;move 2change0,1;move 3change0,1;"
            + "move 0change1,0;move 1change1,0;move 2change1,0;move 3change1,0;"), 0, 6, 2), 2, 2, 2, 2);
        due.is("open", leads(x, 0, 1, 2).contains("no 1: 0O-1"), true);
        is(due, x, WON, 8);
        isLine(due, x, 0, 1, 2, 3, 1, 2);
        isLine(due, x, 7, 0, 1, 3, 0, 1);
    }

    private static void lineOfOpen(Due due) {
        for (int what = 0; what < 5; what++) due.is("line(0, " + what + ")", Games.flips(Games.FLIPS, 2, 2, 2).line(0, what), NONE);
    }

    private static void lineNotByALongerOffer(Due due) {
        // 0 1 2 is good too, but by a NO to 1 it takes longer.
        GameOfNoes x = shorterOfferIsSecond();
        isLeading(due, x, 12, "no 0: 1L1 2W0, no 1: 0L3 2W0, no 2: 0W4 1L1");
        isLine(due, x, 0, 0, 1, 3, 0, 1);
    }

    private static void lineNotByAnOfferThatIsNotGood(Due due) {
        isLine(due, secondOfferWins(), 0, 0, 1, 3, 0, 3);
    }

    private static void lineByTheLowestOffer(Due due) {
        GameOfNoes x = Games.flips(Games.FLIPS_4, 1, 1, 1, 1);
        due.is("four are good", x.good(NONE), 4);
        isLine(due, x, 0, 0, 1, 2, 0, 1);
    }

    private static GameOfNoes sixPlies() {
        return kinds("move 0 change 0,1;move 1 change 0,1;move 3 change 0,2;move 0 change 1,0;move 1 change 1,0;move 3 change 1,0;",
            1, 6, 2, 3, 1, 2);
    }

    private static void lineByTheLongestNo(Due due) {
        GameOfNoes x = sixPlies();
        isLeading(due, x, 13, "no 0: 1W8 3L1, no 1: 0L5 3L1, no 3: 0L5 1L5");
        isLine(due, x, 0, 0, 1, 3, 3, 0);
    }

    private static void lineByTheShortestOfBoth(Due due) {
        // By the longer of both a NO to 0 would be as long as one to 1.
        GameOfNoes x = kinds("move 0 change 0,1;move 1 change 0,2;move 2 change 0,1;move 0 change 1,0;move 1 change 1,0;move 2 change 1,2;",
            1, 6, 2, 2, 2);
        isLeading(due, x, 12, "no 0: 1L1 2L5, no 1: 0L3 2L5, no 2: 0W2 1L1");
        isLine(due, x, 0, 0, 1, 2, 1, 0);
    }

    private static void lineByTheLowestNo(Due due) {
        GameOfNoes x = kinds("move 0 change 0,1;move 1 change 0,1;move 2 change 0,1;", 1, 5, 3, 3, 3);
        isLeading(due, x, 12, "no 0: 1L1 2L1, no 1: 0L1 2L1, no 2: 0L1 1L1");
        due.is("the NO", x.line(0, 3), 0);
        GameOfNoes y = kinds("move 1 change 0,2;move 2 change 0,1;move 3 change 0,1;move 1 change 1,2;move 2 change 1,0;move 3 change 1,2;",
            1, 5, 1, 1, 2, 3);
        isLeading(due, y, 123, "no 1: 2L3 3L3, no 2: 1W0 3L3, no 3: 1W0 2L1");
        due.is("the NO of two alike", y.line(0, 3), 1);
    }

    private static void lineByTheShortestLost(Due due) {
        GameOfNoes x = kinds("move 0 change 0,1;move 1 change 0,2;move 2 change 0,1;move 0 change 1,2;move 1 change 1,0;move 2 change 1,0;",
            1, 6, 3, 3, 3);
        isLeading(due, x, 12, "no 0: 1L1 2L5, no 1: 0L7 2L5, no 2: 0L7 1L1");
        isLine(due, x, 0, 0, 1, 2, 1, 2);
    }

    private static void lineByTheOnlyLost(Due due) {
        isLine(due, oneOfTheTwoWins(), 0, 0, 1, 2, 0, 2);
    }

    private static void lineByOneOfTheTwo(Due due) {
        // 3 would do as well as 4, but it isn't offered.
        GameOfNoes x = Games.heap(Games.board(Games.withBook(4, 1, "move 0change0,2;move 1change0,3;move 3change0,3;move 0step1,3;move 1change1,3;"
            + "move 2change1,3;move 4change1,3;move 0change2,1;move 1change2,3;move 2step2,3;move 3change2,0;"), 0, 0, 2, 7), 1, 1, 1, 1, 1);
        is(due, x, WON, 2);
        isLine(due, x, 0, 0, 1, 4, 0, 4);
    }

    private static void lineByTheLowestLost(Due due) {
        GameOfNoes x = sixPlies();
        isLeading(due, x, 13, "no 0: 1W8 3L1, no 1: 0L5 3L1, no 3: 0L5 1L5");
        due.is("0 and 1 are alike", x.line(0, 4), 0);
    }

    private static GameOfNoes longerOfferIsSecond() {
        return kinds("move 0 change 0,3;move 1 change 0,3;move 2 change 0,1;move 3 change 0,2;move 1 change 1,3;move 2 change 1,3;"
            + "move 3 change 1,3;move 0 change 2,0;move 2 change 2,1;move 3 change 2,1;", 1, 6, 2, 1, 1, 3);
    }

    private static void lineByTheLongestOffer(Due due) {
        GameOfNoes x = longerOfferIsSecond();
        isLeading(due, x, 12, "no 0: 1W0 2W0, no 1: 0L1 2W0, no 2: 0L1 1W0");
        isLeading(due, x, 13, "no 0: 1W0 3W2, no 1: 0L1 3W2, no 3: 0L1 1W0");
        isLine(due, x, 0, 0, 1, 3, 0, 3);
    }

    private static void lineByTheLowestOfLongest(Due due) {
        // 0 2 3 takes as long as 0 1 3; 1 2 3 is shorter.
        GameOfNoes x = longerOfferIsSecond();
        isLeading(due, x, 23, "no 0: 2W0 3W2, no 2: 0L1 3W2, no 3: 0L1 2W0");
        isLeading(due, x, 123, "no 1: 2W0 3W2, no 2: 1W0 3W2, no 3: 1W0 2W0");
        due.is("the offer's b", x.line(0, 1), 1);
    }

    private static void lineByTheLowestOfAll(Due due) {
        GameOfNoes x = kinds("move 0 change 0,1;move 1 change 0,1;move 2 change 0,2;move 3 change 0,2;", 1, 6, 1, 1, 1, 1);
        is(due, x, LOST, 1);
        isLine(due, x, 0, 0, 1, 2, 0, 1);
    }

    private static GameOfNoes shorterNoIsSecond() {
        return kinds("move 0 change 0,2;move 1 change 0,1;move 2 change 0,2;move 0 change 1,0;move 1 change 1,0;move 2 change 1,0;",
            1, 5, 1, 3, 1);
    }

    private static void lineByTheShortestNo(Due due) {
        // By the shorter one of both all three would be alike.
        GameOfNoes x = shorterNoIsSecond();
        isLeading(due, x, 12, "no 0: 1W2 2W0, no 1: 0W0 2W0, no 2: 0W0 1W2");
        isLine(due, x, 0, 0, 1, 2, 1, 0);
    }

    private static void lineByTheOnlyNo(Due due) {
        GameOfNoes x = Games.flips(Games.FLIPS, 1, 2, 1);
        isLeading(due, x, 12, "no 0: 1L1 2W0, no 1: 0W0 2W0, no 2: 0W0 1L1");
        due.is("the NO", x.line(0, 3), 1);
    }

    private static void lineByTheLowestOfLikeNoes(Due due) {
        due.is("of three alike", Games.flips(Games.FLIPS, 1, 1, 1).line(0, 3), 0);
    }

    private static void lineByANoToWhatIsOffered(Due due) {
        // A NO to 2 would be as short as one to 3, but 2 isn't offered.
        GameOfNoes x = Games.heap(Games.board(Games.withBook(4, 1, "move 0change0,1;move 1step0,3;move 2step0,3;move 3step0,1;move 4push0,3;"
            + "move 1step1,1;move 2change1,2;move 3step1,3;move 4change1,2;"), 6, 0, 1, 0), 3, 2, 1, 2, 3);
        is(due, x, LOST, 3);
        isLine(due, x, 0, 0, 1, 3, 3, 0);
    }

    private static GameOfNoes longerChoiceIsHigher() {
        return kinds("move 0 change 0,3;move 1 change 0,2;move 2 change 0,2;move 0 change 2,1;move 1 change 2,0;move 2 change 2,0;",
            1, 5, 2, 1, 3);
    }

    private static void lineByTheLongestWon(Due due) {
        GameOfNoes x = longerChoiceIsHigher();
        isLeading(due, x, 12, "no 0: 1W0 2W2, no 1: 0L1 2L3, no 2: 0L1 1W0");
        isLine(due, x, 0, 0, 1, 2, 0, 2);
    }

    private static void lineByTheLowerLongestWon(Due due) {
        GameOfNoes x = kinds("move 0 change 0,1;move 1 change 0,1;move 2 change 0,2;move 0 change 1,0;move 1 change 1,2;move 2 change 1,2;",
            1, 5, 3, 1, 2);
        isLeading(due, x, 12, "no 0: 1W0 2L1, no 1: 0L3 2L1, no 2: 0W2 1W0");
        isLine(due, x, 0, 0, 1, 2, 2, 0);
    }

    private static void lineByTheLowestWon(Due due) {
        due.is("of two alike", Games.flips(Games.FLIPS, 1, 1, 1).line(0, 4), 1);
        due.is("of two alike behind a NO to 1", Games.flips(Games.FLIPS, 1, 2, 1).line(0, 4), 0);
    }

    // For ever, balance, images

    private static void runsFromNow(Due due) {
        due.is("2 2 2", Games.flips(Games.FLIPS, 2, 2, 2).runs(), 1);
        due.is("1 2 1, although it is lost in 1", Games.flips(Games.FLIPS, 1, 2, 1).runs(), 1);
    }

    private static void runsFromAnotherState(Due due) {
        // No piece comes to be of kind 2 again, so now is never come to again.
        String away = "move 0 change 2,0;move 1 change 2,0;move 2 change 2,0;";
        due.is("2 2 2 behind the first plies", kinds(Games.FLIPS + away, 3, 7, 2, 2, 2).runs(), 1);
    }

    private static void runsByOneNarrowWay(Due due) {
        // From each state that is come to again all exits but one lead to an end.
        String book = "move 0change0,1;move 1change0,2;move 3change0,2;move 0change1,2;move 3change1,0;move 4change1,2;";
        due.is("runs()", Games.heap(Games.board(Games.withBook(3, 1, book), 0, 2, 5), 3, 3, 3, 3, 3).runs(), 1);
        due.is("runs() of another one", kinds("move 1change0,2;move 2change0,1;move 3change0,1;move 0change1,2;move 1change1,0;move 3change1,2;",
            2, 6, 1, 3, 1, 1).runs(), 1);
    }

    private static void runsNot(Due due) {
        due.is("1 1 1", Games.flips(Games.FLIPS, 1, 1, 1).runs(), 0);
        due.is("1 1 1 1", Games.flips(Games.FLIPS_4, 1, 1, 1, 0).runs(), 0);
        due.is("over", Games.flips(Games.FLIPS, 3, 3, 0).runs(), 0);
        due.is("1 1 . 3", Games.flips("move 0 change 0,1;move 1 change 0,1;move 3 change 0,1;", 1, 1, 1, 3).runs(), 0);
        // Kinds only rise, so no board comes again, but states are come to in more than one way.
        String up = "move 0 change 0,1;move 1 change 0,1;move 2 change 0,1;move 0 change 1,2;move 1 change 1,2;move 2 change 1,2;";
        due.is("3 3 3 by a board that ends", Games.flips(up, 3, 3, 3).runs(), 0);
    }

    private static void balancedByEachCount(Due due) {
        due.is("by 0", Games.flips(Games.FLIPS_4, 2, 2, 2, 1).balanced(3), 0);
        due.is("by 1", Games.flips(Games.FLIPS, 2, 2, 3).balanced(2), 1);
        due.is("by 2", Games.flips(Games.FLIPS, 2, 1, 0).balanced(2), 2);
        String last = Games.flipsOf(0, 1) + "move 2 change 0,1 while count=3;move 2 change 1,0 while count=3;";
        due.is("by 3", Games.flips(last, 3, 3, 0).balanced(2), 3);
    }

    private static void balancedByTheLeast(Due due) {
        // By 1 2 and 3 it is open, whatever the count is now.
        for (int count = 0; count < 4; count++) due.is("now " + count, Games.flips(Games.FLIPS, 2, 2, count).balanced(2), 1);
    }

    private static void balancedByNone(Due due) {
        due.is("1 1 .", Games.flips(Games.FLIPS, 1, 1, 1).balanced(2), NONE);
        due.is("a new object", new GameOfNoes(2, 1).balanced(0), NONE);
        due.is("a move that changes nothing", Games.flips(Games.FLIPS, 1, 1, 1).balanced(7), NONE);
    }

    private static void balancedLeavesTheHeap(Due due) {
        GameOfNoes x = Games.flips(Games.FLIPS, 2, 1, 1);
        String before = Games.standOf(x);
        due.is("balanced(2)", x.balanced(2), 2);
        due.is("all is as before", Games.standOf(x).equals(before), true);
        is(due, x, LOST, 1);
    }

    /** A game in which all that an image holds is something. */
    private static GameOfNoes full() {
        GameOfNoes x = Games.heap(Games.board(Games.withBook(3, 2, Games.FLIPS), 1, 0, 6, 3, 0, 8), 1, 2, 3, 0, 1, 2, 3, 1);
        Due.tell(x, "offer 1;");
        Due.tell(x, "offer 2;");
        x.turn(1);
        x.way(0, 1);
        x.way(1, 2);
        x.ply(0, 1, 2, 0, 1);
        x.ply(0, 1, 2, 0, 2);
        return x;
    }

    private static void change(GameOfNoes x) {
        Games.heap(Games.board(x, 2, 2, 2, 2, 2, 2), 3, 0, 1, 1, 2, 0, 0, 2);
        x.turn(0);
        x.book(1);
        x.way(0, 2);
        x.way(1, NONE);
        x.ply(NONE, 0, 0, 0, 0);
        x.ply(0, 1, 3, 0, 1);
        x.ply(0, 1, 3, 0, 1);
        x.ply(0, 1, 3, 0, 1);
    }

    private static void imageOfAll(Due due) {
        GameOfNoes x = full();
        String before = Games.standOf(x);
        due.is("judge()", x.judge(), NONE);
        x.image();
        change(x);
        due.is("all is changed", Games.standOf(x).equals(before), false);
        x.back();
        due.is("all is as it was", Games.standOf(x).equals(before), true);
        due.is("the plies too", x.judge(), NONE);
    }

    private static void imageWithoutTheTape(Due due) {
        GameOfNoes x = new GameOfNoes(2, 1);
        Due.tape(x, "place 1;!");
        x.image();
        x.end(8);
        x.back();
        due.is("it stays as it is now", x.about(8), 8);
        due.is("it is read", x.text(), 0);
        x.back();
        due.is("it stays empty", x.about(8), 0);
    }

    private static void imageWithoutTheFault(Due due) {
        GameOfNoes x = new GameOfNoes(2, 1);
        Due.tell(x, "place 10000;");
        x.image();
        Due.tell(x, "offer !;");
        x.back();
        due.is("fault(0)", x.fault(0), 1);
        due.is("fault(1)", x.fault(1), 6);
        Due.tell(x, "offer 1;");
        x.back();
        due.is("fault(0) of a text that is gone", x.fault(0), 0);
        due.is("fault(1) of it", x.fault(1), NONE);
    }

    private static void laterTextsAreGone(Due due) {
        GameOfNoes x = Games.flips(Games.FLIPS, 1, 1, 1);
        x.image();
        for (int i = 1; i < 6; i++) Due.tell(x, Games.FLIPS_4);
        due.is("six", x.about(3), 6);
        x.book(5);
        x.back();
        due.is("one", x.about(3), 1);
        due.is("book()", x.about(4), 0);
        due.is("book(1)", x.book(1), false);
        due.is("way(0, 1)", x.way(0, 1), false);
        due.is("the numbers are free", Due.tell(x, "move 0 change 0,1;"), 1);
    }

    private static void nothingOfLaterTextsStays(Due due) {
        GameOfNoes x = Games.flips(Games.FLIPS, 1, 1, 1);
        x.image();
        Due.tell(x, Games.flipsOf(0, 1, 2, 3, 4, 5, 6) + "move 7change0,1;place -from;never move=0;offer 1;refuse 1;choose 1;");
        x.book(1);
        due.is("states() by text 1", x.states(), 7);
        x.back();
        due.is("another text 1", Due.tell(x, "never 1=2;move 3 change 0,1;"), 1);
        x.book(1);
        due.is("states() by it", x.states(), 1);
        for (int move = 0; move < 8; move++) due.is("can(" + move + ", 2)", x.can(move, 2), move == 3 ? 1 : NONE);
        x.book(0);
        x.way(0, 1);
        x.heap(3, 1);
        x.run(1);
        due.is("no to 0, 1 is done", Games.heapOf(x, 3), 1201);
    }

    private static void earlierTextsStay(Due due) {
        GameOfNoes x = Games.flips(Games.FLIPS, 1, 1, 1);
        Due.tell(x, "refuse move;");
        x.way(1, 1);
        x.image();
        Due.tell(x, "refuse -move;");
        x.way(1, 2);
        x.back();
        due.is("two", x.about(3), 2);
        x.run(1);
        due.is("no to 2 by the way that stayed", Games.heapOf(x, 3), 1012);
    }

    // Promises

    private static void statesCounted(Due due) {
        due.is("over", Games.flips(Games.FLIPS, 1, 1, 0).states(), 1);
        due.is("1 1 1", Games.flips(Games.FLIPS, 1, 1, 1).states(), 7);
        due.is("2000", of2000().states(), 2000);
        due.is("a new object", new GameOfNoes(4, 3).states(), 1);
        String book = "move 0step0,1;move 1step0,1;move 2change0,1;move 3step0,3;move 4change0,1;";
        int[] board = {1, 0, 0, 5};
        int[] counts = {2, 1, 1, 2, 2};
        due.is("many that are like one another", Games.heap(Games.board(Games.withBook(4, 1, book), board), counts).states(), 765);
        due.is("as many by counting plainly", countedPlainly(4, book, board, counts), 765);
    }

    private static void bestOfEach(Due due) {
        is(due, Games.flips(Games.FLIPS, 1, 1, 0), WON, 0);
        is(due, Games.flips(Games.FLIPS, 1, 1, 1), LOST, 1);
        is(due, Games.flips(Games.FLIPS_4, 1, 1, 1, 1), WON, 2);
        is(due, Games.flips(Games.FLIPS, 2, 2, 2), OPEN, NONE);
        GameOfNoes x = Games.flips(Games.FLIPS, 1, 1, 1);
        x.turn(1);
        is(due, x, LOST, 1);
    }

    private static void bestOfOthers(Due due) {
        for (int what : new int[] {-1, 2, 3, LEAST, MOST}) {
            due.is("best(" + what + ")", Games.flips(Games.FLIPS, 1, 1, 1).best(what), -3);
            due.is("best(" + what + ") where it is spent", of2001().best(what), -3);
        }
    }

    private static void goodCounted(Due due) {
        isGood(due, Games.flips(Games.FLIPS_4, 1, 1, 1, 1), 12, 13, 23, 123);
        isGood(due, Games.flips(Games.flipsOf(4, 5, 6, 7), 0, 0, 0, 0, 1, 1, 1, 1), 456, 457, 467, 567);
    }

    private static void goodBehindTheLast(Due due) {
        for (int i : new int[] {4, 5, 56, MOST}) due.is("good(" + i + ")", Games.flips(Games.FLIPS_4, 1, 1, 1, 1).good(i), NONE);
    }

    private static void goodBelowNone(Due due) {
        for (int i : new int[] {-2, -3, LEAST}) due.is("good(" + i + ")", Games.flips(Games.FLIPS_4, 1, 1, 1, 1).good(i), NONE);
    }

    private static void goodOfNone(Due due) {
        isGood(due, Games.flips(Games.FLIPS, 1, 1, 1));
        isGood(due, Games.flips(Games.FLIPS, 2, 2, 2));
        isGood(due, Games.flips(Games.FLIPS, 1, 1, 0));
    }

    private static void goodOfOthersWhereSpent(Due due) {
        due.is("good(-2)", of2001().good(-2), NONE);
        due.is("good(56)", of2001().good(56), SPENT);
    }

    private static void losesOfEach(Due due) {
        GameOfNoes x = Games.flips(Games.FLIPS_4, 1, 1, 1, 1);
        int[] offers = {12, 13, 23, 123};
        int[] noes = {0b0111, 0b1011, 0b1101, 0b1110};
        for (int i = 0; i < 4; i++) due.is("loses", x.loses(offers[i] / 100, offers[i] / 10 % 10, offers[i] % 10), noes[i]);
        due.is("of an open state", Games.flips(Games.FLIPS, 2, 2, 2).loses(0, 1, 2), 0);
    }

    private static void losesOfNoOffer(Due due) {
        int[][] wrong = {{0, 2, 1}, {0, 0, 1}, {0, 1, 1}, {0, 1, 3}, {-1, 0, 1}, {0, 1, 8}, {32, 33, 34}, {0, 1, 34}, {LEAST, 0, 1}, {0, 1, MOST}};
        for (int[] w : wrong) due.is("loses of no offer", Games.flips(Games.FLIPS_4, 1, 1, 1, 0).loses(w[0], w[1], w[2]), NONE);
        due.is("over", Games.flips(Games.FLIPS, 1, 1, 0).loses(0, 1, 2), NONE);
        due.is("a new object", new GameOfNoes(2, 1).loses(0, 1, 2), NONE);
    }

    private static int losesOfTheFirst(GameOfNoes x) {
        int told = x.offers(0);
        return told == NONE ? NONE : x.loses(told / 100, told / 10 % 10, told % 10);
    }

    private static void losesOfNoOfferWhereSpent(Due due) {
        due.is("loses(0, 1, 7)", of2001().loses(0, 1, 7), NONE);
        due.is("loses(2, 1, 3)", of2001().loses(2, 1, 3), NONE);
    }

    private static void lineOfSixPlies(Due due) {
        int[][] plies = {{0, 1, 3, 3, 0}, {0, 1, 3, 3, 1}, {0, 1, 3, 0, 3}, {0, 1, 3, 3, 0}, {0, 1, 3, 0, 3}, {0, 1, 3, 0, 1}};
        GameOfNoes x = sixPlies();
        for (int i = 0; i < 6; i++) isLine(due, x, i, plies[i]);
        for (int i = 0; i < 6; i++) {
            due.is("plies left", x.best(1), 6 - i);
            due.is("who wins", x.best(0), i % 2 == 0 ? WON : LOST);
            due.is("it can be played", x.play(plies[i][0], plies[i][1], plies[i][2], plies[i][3], plies[i][4]), true);
        }
        due.is("the side that was to offer has won", x.won(), 0);
    }

    private static void lineOfAnOpenState(Due due) {
        for (int what = 0; what < 5; what++) due.is("line(0, " + what + ")", Games.flips(Games.FLIPS_4, 2, 2, 2, 2).line(0, what), NONE);
    }

    private static void lineBehindTheLast(Due due) {
        GameOfNoes x = sixPlies();
        for (int i : new int[] {6, 7, 2000, MOST}) {
            for (int what = 0; what < 5; what++) due.is("line(" + i + ", " + what + ")", x.line(i, what), NONE);
        }
        due.is("of what is won in 0", Games.flips(Games.FLIPS, 1, 1, 0).line(0, 0), NONE);
    }

    private static void lineOfOthers(Due due) {
        GameOfNoes x = sixPlies();
        for (int what : new int[] {-1, 5, 6, LEAST, MOST}) due.is("line(0, " + what + ")", x.line(0, what), NONE);
        for (int i : new int[] {-1, -2, LEAST}) due.is("line(" + i + ", 0)", x.line(i, 0), NONE);
    }

    private static void lineOfOthersWhereSpent(Due due) {
        due.is("line(0, 5)", of2001().line(0, 5), NONE);
        due.is("line(-1, 0)", of2001().line(-1, 0), NONE);
        due.is("line(2000, 4)", of2001().line(2000, 4), SPENT);
    }

    private static void runsOneOrZero(Due due) {
        due.is("1", Games.flips(Games.FLIPS, 2, 2, 2).runs(), 1);
        due.is("0", Games.flips(Games.FLIPS, 1, 1, 1).runs(), 0);
        GameOfNoes x = Games.flips(Games.FLIPS, 2, 2, 2);
        due.is("asked again and again", x.runs() + x.runs() + x.runs(), 3);
        is(due, x, OPEN, NONE);
    }

    private static void balancedOfEachMove(Due due) {
        GameOfNoes x = Games.flips(Games.flipsOf(5, 6, 7), 0, 0, 0, 0, 0, 2, 1, 1);
        int[] want = {NONE, NONE, NONE, NONE, NONE, NONE, 2, 2};
        for (int move = 0; move < 8; move++) due.is("balanced(" + move + ")", x.balanced(move), want[move]);
    }

    private static void balancedBehindASpentOne(Due due) {
        GameOfNoes x = Games.board(Games.withBook(4, 1, Games.FLIPS + "move 3 change 0,1 while count#3;move 3 change 1,2 while count#2;"), 1, 6, 0, 5);
        Games.heap(x, 1, 3, 1);
        int[] best = {LOST, WON, SPENT, OPEN};
        for (int count = 0; count < 4; count++) {
            x.heap(3, count);
            due.is("best(0) by a count of " + count, x.best(0), best[count]);
        }
        due.is("balanced(3)", x.balanced(3), 3);
    }

    private static void balancedOfSpentOnes(Due due) {
        for (int move = 0; move < 8; move++) due.is("balanced(" + move + ")", Games.spent().balanced(move), NONE);
    }

    private static void balancedOfNoMove(Due due) {
        GameOfNoes x = Games.flips(Games.FLIPS, 2, 2, 2);
        for (int move : new int[] {-1, 8, 16, 32, LEAST, MOST}) due.is("balanced(" + move + ")", x.balanced(move), NONE);
    }

    private static void imageCounts(Due due) {
        due.is("of a new object", new GameOfNoes(2, 1).image(), 0);
        for (int pieces = 1; pieces <= 12; pieces++) {
            GameOfNoes x = new GameOfNoes(4, 3);
            for (int place = 12 - pieces; place < 12; place++) x.piece(place, place % 4, place % 2);
            due.is(pieces + " pieces", x.image(), pieces);
        }
    }

    private static void laterImage(Due due) {
        GameOfNoes x = Games.board(new GameOfNoes(2, 1), 1, 0);
        x.image();
        x.piece(1, 0, 1);
        due.is("image()", x.image(), 2);
        x.piece(0, NONE, 0);
        x.piece(1, NONE, 0);
        due.is("back() to the later one", x.back(), 2);
    }

    private static void backCounts(Due due) {
        GameOfNoes x = Games.board(new GameOfNoes(4, 3), 1, 2, 3, 4, 5, 6, 7, 8, 1, 2, 3, 4);
        x.image();
        Games.board(x, 0, 0, 0, 0, 0, 0, 0, 0, 0, 0, 0, 0);
        due.is("back()", x.back(), 12);
        due.is("the board", Games.boardOf(x), 1123456781234L);
    }

    private static void backTwice(Due due) {
        GameOfNoes x = full();
        x.image();
        String before = Games.standOf(x);
        for (int i = 0; i < 3; i++) {
            change(x);
            due.is("back()", x.back(), 4);
            due.is("all is as it was", Games.standOf(x).equals(before), true);
        }
        due.is("back() without a change", x.back(), 4);
    }

    private static void backWithoutImage(Due due) {
        GameOfNoes x = full();
        due.is("back()", x.back(), 0);
        due.is("texts", x.about(3), 0);
        due.is("heap", Games.heapOf(x, 8), 100000000);
        due.is("W stays", x.about(0), 3);
    }

    private static void aboutAtFirst(Due due) {
        int[] want = {4, 2, 0, 0, NONE, NONE, NONE, 0, 0};
        for (int what = 0; what < 9; what++) due.is("about(" + what + ")", new GameOfNoes(4, 2).about(what), want[what]);
    }

    private static void aboutEach(Due due) {
        GameOfNoes x = full();
        x.book(1);
        Due.tape(x, "1234567");
        int[] want = {3, 2, 1, 3, 1, 1, 2, 2, 7};
        for (int what = 0; what < 9; what++) due.is("about(" + what + ")", x.about(what), want[what]);
    }

    private static void aboutCounts(Due due) {
        GameOfNoes x = Games.heap(new GameOfNoes(2, 1), 0, 1, 2, 3, 3, 2, 1, 0);
        int[] want = {0, 1, 2, 3, 3, 2, 1, 0};
        for (int move = 0; move < 8; move++) due.is("about(" + (10 + move) + ")", x.about(10 + move), want[move]);
    }

    private static void aboutPlaces(Due due) {
        GameOfNoes x = Games.board(new GameOfNoes(4, 3), 0, 1, 2, 3, 4, 5, 6, 7, 8, 0, 0, 8);
        int[] want = {0, 1, 2, 3, 4, 5, 6, 7, 8, 0, 0, 8};
        for (int place = 0; place < 12; place++) due.is("about(" + (20 + place) + ")", x.about(20 + place), want[place]);
    }

    private static void aboutOthers(Due due) {
        GameOfNoes x = new GameOfNoes(4, 3);
        for (int what : new int[] {-1, -2, 9, 18, 19, 32, 33, 100, LEAST, MOST}) due.is("about(" + what + ")", x.about(what), -2);
    }

    private static void aboutPlacesThatAreNotThere(Due due) {
        for (int w = 2; w <= 4; w++) {
            for (int h = 1; h <= 3; h++) {
                GameOfNoes x = new GameOfNoes(w, h);
                due.is("the last place", x.about(19 + w * h), 0);
                for (int what = 20 + w * h; what < 33; what++) due.is("about(" + what + ") of " + w + " by " + h, x.about(what), -2);
            }
        }
    }
}
