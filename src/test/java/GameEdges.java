/** Tests of what the document says of offers, ways and games: Terms III, promises 12 to 20. */
final class GameEdges {
    private static final int NONE = GameOfNoes.NONE;
    private static final int LEAST = Integer.MIN_VALUE;
    private static final int MOST = Integer.MAX_VALUE;
    private static final String FLIPS_5 = Games.flipsOf(0, 1, 2, 3, 4);
    private static final String FLIPS_8 = Games.flipsOf(0, 1, 2, 3, 4, 5, 6, 7);
    // By this way of both sides four moves with two of each go on for ever.
    private static final String FOR_EVER = "offer count;refuse -count;choose count;";

    private GameEdges() {
    }

    static void tell(Sentences all) {
        offer(all);
        ways(all);
        told(all);
        tried(all);
        promises(all);
        promisesOfGames(all);
    }

    private static void offer(Sentences all) {
        all.on("Terms", "AN OFFER: three unlike MOVES (a < b < c), each with a COUNT of 1 or more, each of which the SIDE whose TURN it is can do.",
            GameEdges::unlikeMoves, GameEdges::movesInOrder, GameEdges::countOfOneOrMore, GameEdges::movesThatCanBeDone,
            GameEdges::offersOfTheTurn);
        all.on("Terms", "If there are fewer than three such MOVES, that SIDE has WON: the game is over.",
            GameEdges::overByTheHeap, GameEdges::overByTheBoard, GameEdges::nothingBehindTheEnd);
        all.on("Terms", "The other SIDE says NO to one of the three: its COUNT is 1 more (3 at most).",
            GameEdges::noRaises, GameEdges::noAtThree, GameEdges::noToOneOfTheThree);
        all.on("Terms", "Then the SIDE does one of the other two: its COUNT is 1 less.",
            GameEdges::doneLowers, GameEdges::doneIsAnotherOne, GameEdges::doneOnTheBoard);
        all.on("Terms", "Then it is the other SIDE's TURN: one PLY is done.", GameEdges::turnsChange);
        all.on("Terms", "(THE HEAP stays as it was offered till the NO, so what can be done doesn't change.)",
            GameEdges::doneAsOffered, GameEdges::lastOneDoneAsOffered);
    }

    private static void ways(Sentences all) {
        all.on("Terms", "By WAYS: the OFFER of greatest offer of all three together (without: 0)",
            GameEdges::greatestOffer, GameEdges::greatestOfferBelowZero, GameEdges::offerTogetherAboveTheLimit, GameEdges::withoutOffer);
        all.on("Terms", ", of like ones the lowest a, then b, then c;",
            GameEdges::likeOffersByA, GameEdges::likeOffersByB, GameEdges::likeOffersByC, GameEdges::likeOffersAtTheLimit);
        all.on("Terms", "MOVES for which a never clause of the WAY is so are left out, if three others are left then (else none is).",
            GameEdges::neverLeavesThree, GameEdges::neverLeavesTwo, GameEdges::neverLeavesNone, GameEdges::severalNevers,
            GameEdges::neverOfTheOther);
        all.on("Terms", "The NO: by the other SIDE's WAY the one of the three with the greatest refuse, of like ones the lowest.",
            GameEdges::greatestRefuse, GameEdges::greatestRefuseBelowZero, GameEdges::refuseOfTheThreeAlone, GameEdges::likeRefuses,
            GameEdges::refuseByTheOthersWay);
        all.on("Terms", "What is done: by the WAY of the SIDE whose TURN it is the greatest choose, of like ones the lowest.",
            GameEdges::greatestChoose, GameEdges::greatestChooseBelowZero, GameEdges::chooseOfTheOtherTwo, GameEdges::likeChooses,
            GameEdges::chooseByItsOwnWay);
        all.on("Terms", "(NAMES for a MOVE as it would be done, as THE HEAP is at the OFFER.)",
            GameEdges::namesOfTheSideToOffer, GameEdges::namesAsItWouldBeDone, GameEdges::countsAtTheOffer);
    }

    private static void told(Sentences all) {
        all.on("Terms", "A GAME (40 PLIES at most): a, b, c, the NO, what is done.", GameEdges::fortyPlies, GameEdges::partsOfAPly);
        all.on("Terms", "JUDGED from now on, TRIED: the first PLY that can't be; none.",
            GameEdges::firstThatCant, GameEdges::noneThatCant, GameEdges::judgedFromNowOn, GameEdges::judgedIsTried,
            GameEdges::judgedBehindTheEnd);
        all.on("Terms", "AGAIN: the first PLY behind which BOARD and TURN are as they were ahead of the first one or behind an earlier one,",
            GameEdges::asAheadOfTheFirst, GameEdges::asAheadOfTheFirstOnTheLastPlaces, GameEdges::asBehindAnEarlierOne, GameEdges::firstAgain, GameEdges::boardButNotTurn);
        all.on("Terms", "but not THE HEAP", GameEdges::sameHeap);
        all.on("Terms", "(PLIES up to the one that can't be, not it).", GameEdges::againAheadOfWhatCant, GameEdges::againBehindWhatCant);
    }

    private static void tried(Sentences all) {
        all.on("Terms", "A MATCH by WAYS, TRIED, of n PLIES at most: who has WON (ahead of a PLY or behind the last one); none; how many PLIES.",
            GameEdges::matchAtTheEnd, GameEdges::matchWonByTheLast, GameEdges::matchNotWon, GameEdges::matchIsTried);
        all.on("Terms", "DRAWN games: X is SEED (0 .. 9999) * 7 + 9; a draw by m: X mod m, X being (X * 157 + 53) mod 30113 then.",
            GameEdges::drawsByHand, GameEdges::drawsOfTheLastSeeds);
        all.on("Terms", "A game from now, TRIED: PLY by PLY (30 at most) the OFFER is drawn (of all in the order of a, b, c), "
            + "then the NO (of its three), then what is done (of the other two, the lower one first).",
            GameEdges::drawnFromNow, GameEdges::drawnIsTried, GameEdges::thirtyDrawnPlies);
        all.on("Terms", "n games (1 .. 20) one behind the other, X going on: how many SIDE 0 has WON, SIDE 1 (as in a MATCH of 30 PLIES).",
            GameEdges::gamesOneBehindTheOther, GameEdges::twentyGames, GameEdges::drawnAtTheEnd);
    }

    private static void promises(Sentences all) {
        all.on("Promise 12", "How many OFFERS there are (i NONE); the i-th: 100 a + 10 b + c.",
            GameEdges::howManyOffers, GameEdges::everyOffer);
        all.on("Promise 12", "NONE if there is none such, and for others.",
            GameEdges::offersBehindTheLast, GameEdges::offersBelowNone, GameEdges::offersOfNone);
        all.on("Promise 13", "One PLY: an OFFER, a NO, what is done: true.", GameEdges::playEach);
        all.on("Promise 13", "False, and nothing is done, if it can't be.",
            GameEdges::playNoOffer, GameEdges::playAWrongNo, GameEdges::playAWrongChoice, GameEdges::playBehindTheEnd);
        all.on("Promise 14", "n PLIES (1 .. 99) by WAYS, as long as the game isn't over: how many were done.",
            GameEdges::runOne, GameEdges::run99, GameEdges::runToTheEnd, GameEdges::runBehindTheEnd);
        all.on("Promise 14", "NONE for others.", GameEdges::runOfOthers);
        all.on("Promise 15", "Who has WON (0, 1);", GameEdges::wonByEither);
        all.on("Promise 15", "NONE: the game isn't over.", GameEdges::notWon);
    }

    private static void promisesOfGames(Sentences all) {
        all.on("Promise 16", "A PLY more of THE GAME (a NONE: it is empty): how many it has.",
            GameEdges::plyCounts, GameEdges::plyEmpties);
        all.on("Promise 16", "NONE for others (each 0 .. 7)", GameEdges::plyOfOthers);
        all.on("Promise 16", ", or if it has 40.", GameEdges::ply41);
        all.on("Promise 17", "JUDGED.", GameEdges::judgeEach);
        all.on("Promise 17", "NONE: none.", GameEdges::judgeOfNone);
        all.on("Promise 18", "AGAIN.", GameEdges::againOfTheLast);
        all.on("Promise 18", "NONE: none.", GameEdges::againOfNone);
        all.on("Promise 19", "A MATCH of n PLIES at most (1 .. 99): 0 who has WON (NONE: none), 1 how many PLIES were done.",
            GameEdges::matchOfOne, GameEdges::matchOf99);
        all.on("Promise 19", "-2 for others.", GameEdges::matchOfOtherPlies, GameEdges::matchOfOtherWhats);
        all.on("Promise 20", "DRAWN games: how many a SIDE has WON.", GameEdges::drawnOfEitherSide);
        all.on("Promise 20", "NONE for others.", GameEdges::drawnOfOtherSeeds, GameEdges::drawnOfOtherCounts, GameEdges::drawnOfOtherSides);
    }

    // An offer

    private static void unlikeMoves(Due due) {
        due.is("two moves with three of each", Games.flips(Games.FLIPS, 3, 3, 0).offers(NONE), 0);
        GameOfNoes x = Games.flips(Games.FLIPS, 3, 3, 3);
        due.is("three moves with three of each", x.offers(NONE), 1);
        due.is("0 0 1", x.play(0, 0, 1, 0, 1), false);
        due.is("0 1 1", x.play(0, 1, 1, 0, 1), false);
        due.is("1 1 1", x.play(1, 1, 1, 1, 1), false);
    }

    private static void movesInOrder(Due due) {
        int[][] orders = {{0, 2, 1}, {1, 0, 2}, {1, 2, 0}, {2, 0, 1}, {2, 1, 0}};
        for (int[] o : orders) due.is("out of order", Games.flips(Games.FLIPS, 1, 1, 1).play(o[0], o[1], o[2], 0, 1), false);
        due.is("in order", Games.flips(Games.FLIPS, 1, 1, 1).play(0, 1, 2, 0, 1), true);
    }

    private static void countOfOneOrMore(Due due) {
        for (int count = 0; count < 4; count++) {
            for (int move = 0; move < 3; move++) {
                GameOfNoes x = Games.flips(Games.FLIPS, 1, 1, 1);
                x.heap(move, count);
                due.is(count + " of move " + move, x.offers(NONE), count == 0 ? 0 : 1);
            }
        }
    }

    private static void movesThatCanBeDone(Due due) {
        GameOfNoes x = Games.flips(Games.FLIPS + "move 3 change 1,0;move 4 change 0,1 while count=2;", 1, 1, 1, 1, 1);
        due.is("neither 3 nor 4 can be done", x.offers(NONE), 1);
        x.heap(4, 2);
        due.is("4 can", x.offers(NONE), 4);
        x.piece(0, 1, 0);
        due.is("3 can, 4 can't", x.offers(3), 123);
    }

    private static void offersOfTheTurn(Due due) {
        GameOfNoes x = Games.flips(Games.FLIPS + "move 3 change 0,1 while side=1;", 1, 1, 1, 1);
        due.is("of side 0", x.offers(NONE), 1);
        x.turn(1);
        due.is("of side 1", x.offers(NONE), 4);
    }

    private static void overByTheHeap(Due due) {
        int[][] heaps = {{0, 0, 0}, {3, 0, 0}, {3, 3, 0}, {0, 3, 3}, {3, 0, 3}};
        for (int[] heap : heaps) {
            for (int side = 0; side < 2; side++) {
                GameOfNoes x = Games.flips(Games.FLIPS, heap);
                x.turn(side);
                due.is("won()", x.won(), side);
            }
        }
        due.is("of three it isn't over", Games.flips(Games.FLIPS, 1, 1, 1).won(), NONE);
    }

    private static void overByTheBoard(Due due) {
        GameOfNoes x = Games.flips(Games.FLIPS, 3, 3, 3);
        x.piece(0, 2, 0);
        due.is("side 0 can do none", x.won(), 0);
        x.turn(1);
        due.is("side 1 can", x.won(), NONE);
        x.piece(1, NONE, 0);
        due.is("side 1 has no piece", x.won(), 1);
    }

    private static void nothingBehindTheEnd(Due due) {
        GameOfNoes x = Games.flips(Games.FLIPS, 3, 3, 0);
        due.is("offers(NONE)", x.offers(NONE), 0);
        due.is("play", x.play(0, 1, 2, 0, 1), false);
        due.is("run(1)", x.run(1), 0);
    }

    private static void noRaises(Due due) {
        for (int no = 0; no < 3; no++) {
            for (int count = 1; count < 3; count++) {
                GameOfNoes x = Games.flips(Games.FLIPS, 2, 2, 2);
                x.heap(no, count);
                x.play(0, 1, 2, no, no == 0 ? 1 : 0);
                due.is("no to " + no, x.about(10 + no), count + 1);
            }
        }
    }

    private static void noAtThree(Due due) {
        for (int no = 0; no < 3; no++) {
            GameOfNoes x = Games.flips(FLIPS_8, 3, 3, 3, 3, 3, 3, 3, 3);
            due.is("play", x.play(no, 6, 7, no, 6), true);
            due.is("no to " + no, Games.heapOf(x, 8), 133333323);
        }
    }

    private static void noToOneOfTheThree(Due due) {
        GameOfNoes x = Games.flips(Games.FLIPS_4, 1, 1, 1, 1);
        due.is("no to another one", x.play(0, 1, 2, 3, 0), false);
        for (int no = 0; no < 3; no++) {
            due.is("no to " + no, Games.flips(Games.FLIPS_4, 1, 1, 1, 1).play(0, 1, 2, no, no == 0 ? 1 : 0), true);
        }
    }

    private static void doneLowers(Due due) {
        for (int count = 1; count < 4; count++) {
            GameOfNoes x = Games.flips(Games.FLIPS, 2, 2, 2);
            x.heap(1, count);
            x.play(0, 1, 2, 0, 1);
            due.is("done", x.about(11), count - 1);
            due.is("neither refused nor done", x.about(12), 2);
        }
    }

    private static void doneIsAnotherOne(Due due) {
        GameOfNoes x = Games.flips(Games.FLIPS_4, 1, 1, 1, 1);
        for (int no = 0; no < 3; no++) due.is("done is refused", x.play(0, 1, 2, no, no), false);
        due.is("done isn't offered", x.play(0, 1, 2, 0, 3), false);
    }

    private static void doneOnTheBoard(Due due) {
        String book = "move 0 change 0,1;move 1 change 0,2;move 2 change 0,3;";
        for (int done = 0; done < 3; done++) {
            GameOfNoes x = Games.flips(book, 1, 1, 1);
            x.play(0, 1, 2, done == 0 ? 1 : 0, done);
            due.is("done " + done, x.about(20), 2 + done);
            due.is("the other side's piece", x.about(21), 5);
        }
    }

    private static void turnsChange(Due due) {
        GameOfNoes x = Games.flips(Games.FLIPS_4, 2, 2, 2, 2);
        for (int ply = 0; ply < 4; ply++) {
            due.is("turn", x.about(2), ply % 2);
            due.is("play", x.play(0, 1, 2, ply % 2, 1 - ply % 2), true);
        }
    }

    private static void doneAsOffered(Due due) {
        // By a count of 2 it is done from 1, by a count of 1 or of 3 it would be from 0 or not at all.
        String acts = "move 1 change 0,1 while count=2;place (count-1)*(3-count)*from;";
        GameOfNoes x = Games.board(Games.withBook(4, 1, "move 0 change 0,2;move 2 change 0,2;" + acts), 1, 1, 0, 5);
        Games.heap(x, 1, 2, 1);
        due.is("play", x.play(0, 1, 2, 0, 1), true);
        due.is("from place 1", Games.boardOf(x), 11205);
    }

    private static void lastOneDoneAsOffered(Due due) {
        GameOfNoes x = Games.flips("move 0 change 0,1 while count=1;move 1 change 0,2 while count=1;move 2 change 0,3 while count=1;", 1, 1, 1);
        due.is("play", x.play(0, 1, 2, 1, 2), true);
        due.is("done by its act", x.about(20), 4);
        due.is("the heap", Games.heapOf(x, 3), 1120);
    }

    // By ways

    /** What side 0 offers by a way, moves being done by FLIPS of some; the counts are 1 or 2, so that a NO can be seen. */
    private static int offeredBy(String way, String book, int... counts) {
        GameOfNoes x = Games.flips(book, counts);
        Due.tell(x, way);
        Due.tell(x, "refuse move;");
        x.way(0, 1);
        x.image();
        x.run(1);
        int a = changed(x, counts, 1);
        int b = changed(x, counts, -1);
        x.back();
        x.way(1, 2);
        x.run(1);
        return 100 * a + 10 * b + changed(x, counts, 1);
    }

    private static int changed(GameOfNoes x, int[] counts, int by) {
        for (int move = 0; move < counts.length; move++) {
            if (x.about(10 + move) == counts[move] + by) return move;
        }
        return NONE;
    }

    private static void greatestOffer(Due due) {
        due.is("by move", offeredBy("offer move;", FLIPS_5, 2, 2, 2, 2, 2), 234);
        due.is("by -move", offeredBy("offer -move;", FLIPS_5, 2, 2, 2, 2, 2), 12);
        due.is("by count", offeredBy("offer count;", FLIPS_5, 2, 1, 2, 1, 2), 24);
        due.is("together: one that is far less", offeredBy("offer move-100*(move/4);", FLIPS_5, 2, 2, 2, 2, 2), 123);
    }

    private static void greatestOfferBelowZero(Due due) {
        due.is("all below 0", offeredBy("offer move-99;", FLIPS_5, 2, 2, 2, 2, 2), 234);
    }

    private static void offerTogetherAboveTheLimit(Due due) {
        // Each is below 1000000; all three together are told apart above it.
        due.is("above", offeredBy("offer 999*1000+move;", FLIPS_5, 2, 2, 2, 2, 2), 234);
        due.is("below the same less", offeredBy("offer move-999*1000;", FLIPS_5, 2, 2, 2, 2, 2), 234);
    }

    private static void withoutOffer(Due due) {
        due.is("by a way without offer", offeredBy("refuse 1;", FLIPS_5, 2, 2, 2, 2, 2), 12);
        due.is("0 isn't there", offeredBy("", FLIPS_5, 0, 2, 2, 2, 2), 123);
    }

    private static void likeOffersByA(Due due) {
        // Of 0 1 1 0 0 by moves: 0 1 2, 1 2 3 and 1 2 4 are alike.
        due.is("the lowest a", offeredBy("offer move*(3-move)/2-move/4;", FLIPS_5, 2, 2, 2, 2, 2), 12);
        due.is("all alike", offeredBy("offer 5;", FLIPS_5, 2, 2, 2, 2, 2), 12);
    }

    private static void likeOffersByB(Due due) {
        // Of 4 1 0 1 4: 0 1 4 and 0 3 4 are alike.
        due.is("the lowest b", offeredBy("offer (move-2)*(move-2);", FLIPS_5, 2, 2, 2, 2, 2), 14);
    }

    private static void likeOffersByC(Due due) {
        // Of 1 1 0 0 0: 0 1 2, 0 1 3 and 0 1 4 are alike.
        due.is("the lowest c", offeredBy("offer 1/(move/2+1);", FLIPS_5, 2, 2, 2, 2, 2), 12);
        due.is("the lowest c that is there", offeredBy("offer 1/(move/2+1);", FLIPS_5, 2, 2, 0, 2, 2), 13);
    }

    private static void likeOffersAtTheLimit(Due due) {
        due.is("each is held at 1000000", offeredBy("offer 9999*9999+move;", FLIPS_5, 2, 2, 2, 2, 2), 12);
    }

    private static void neverLeavesThree(Due due) {
        due.is("three are left", offeredBy("never move=1;", Games.FLIPS_4, 2, 2, 2, 2), 23);
        due.is("more are left", offeredBy("never move=1;", FLIPS_5, 2, 2, 2, 2, 2), 23);
        due.is("by the greatest of what is left", offeredBy("never move=4;offer move;", FLIPS_5, 2, 2, 2, 2, 2), 123);
    }

    private static void neverLeavesTwo(Due due) {
        due.is("none is left out", offeredBy("never move<2;offer -move;", Games.FLIPS_4, 2, 2, 2, 2), 12);
        due.is("of three", offeredBy("never move=0;", Games.FLIPS, 2, 2, 2), 12);
    }

    private static void neverLeavesNone(Due due) {
        due.is("none is left out", offeredBy("never 1=1;", FLIPS_5, 2, 2, 2, 2, 2), 12);
        due.is("never isn't so", offeredBy("never 1=2;", FLIPS_5, 2, 2, 2, 2, 2), 12);
    }

    private static void severalNevers(Due due) {
        due.is("by either", offeredBy("never move=0;never move=2;", FLIPS_5, 2, 2, 2, 2, 2), 134);
        due.is("by both too many", offeredBy("never move=0;never move=2;", Games.FLIPS_4, 2, 2, 2, 2), 12);
        due.is("twice the same", offeredBy("never move=0;never move=0;", Games.FLIPS_4, 2, 2, 2, 2), 123);
        due.is("the 20th of twenty", offeredBy("never 1=2;".repeat(19) + "never move=0;", Games.FLIPS_4, 2, 2, 2, 2), 123);
    }

    private static void neverOfTheOther(Due due) {
        GameOfNoes x = Games.flips(Games.FLIPS_4, 2, 2, 2, 2);
        Due.tell(x, "never move=0;");
        x.way(1, 1);
        x.run(1);
        due.is("side 0 offers 0, no to it", x.about(10), 3);
        x.run(1);
        due.is("side 1 leaves it out: no to 1", Games.heapOf(x, 4), 13212);
    }

    /** The heap behind one ply of 0 1 2 by a way of the other side, or of both. */
    private static long heapBehind(String own, String others) {
        GameOfNoes x = Games.flips(Games.FLIPS, 2, 2, 2);
        Due.tell(x, own);
        Due.tell(x, others);
        x.way(0, 1);
        x.way(1, 2);
        x.run(1);
        return Games.heapOf(x, 3);
    }

    private static void greatestRefuse(Due due) {
        due.is("no to 2, 0 is done", heapBehind("", "refuse move;"), 1123);
        due.is("no to 1, 0 is done", heapBehind("", "refuse move*(2-move);"), 1132);
        due.is("no to 0, 1 is done", heapBehind("", "refuse -move;"), 1312);
    }

    private static void greatestRefuseBelowZero(Due due) {
        due.is("no to 2, 0 is done", heapBehind("", "refuse move-9;"), 1123);
    }

    private static void refuseOfTheThreeAlone(Due due) {
        GameOfNoes x = Games.flips(FLIPS_5, 2, 2, 2, 2, 2);
        Due.tell(x, "refuse move;");
        x.way(1, 1);
        x.run(1);
        due.is("no to 2, not to 4", Games.heapOf(x, 5), 112322);
    }

    private static void likeRefuses(Due due) {
        due.is("all alike: no to 0", heapBehind("", "refuse 7;"), 1312);
        due.is("1 and 2 alike: no to 1", heapBehind("", "refuse (move+1)/2;"), 1132);
        due.is("0 and 2 alike: no to 0", heapBehind("", "refuse (move-1)*(move-1);"), 1312);
        due.is("without: no to 0", heapBehind("", "offer 1;"), 1312);
    }

    private static void refuseByTheOthersWay(Due due) {
        due.is("not by its own", heapBehind("refuse move;", ""), 1312);
        due.is("by the other's", heapBehind("refuse -move;", "refuse move;"), 1123);
    }

    private static void greatestChoose(Due due) {
        due.is("no to 0, 2 is done", heapBehind("choose move;", ""), 1321);
        due.is("no to 0, 1 is done", heapBehind("choose -move;", ""), 1312);
    }

    private static void greatestChooseBelowZero(Due due) {
        due.is("no to 0, 2 is done", heapBehind("choose move-9;", ""), 1321);
    }

    private static void chooseOfTheOtherTwo(Due due) {
        due.is("no to 2, 1 is done", heapBehind("choose move;", "refuse move;"), 1213);
        due.is("no to 1, 2 is done", heapBehind("choose move;", "refuse move*(2-move);"), 1231);
    }

    private static void likeChooses(Due due) {
        due.is("1 and 2 alike: 1 is done", heapBehind("choose 7;", ""), 1312);
        due.is("0 and 2 alike: 0 is done", heapBehind("choose 7;", "refuse move*(2-move);"), 1132);
        due.is("0 and 1 alike: 0 is done", heapBehind("choose 7;", "refuse move;"), 1123);
        due.is("without: 1 is done", heapBehind("offer 1;", ""), 1312);
    }

    private static void chooseByItsOwnWay(Due due) {
        due.is("not by the other's", heapBehind("", "choose move;"), 1312);
        due.is("by its own", heapBehind("choose move;", "choose -move;"), 1321);
    }

    private static void namesOfTheSideToOffer(Due due) {
        due.is("side is 0, so no to 2", heapBehind("", "refuse (1-2*side)*move;"), 1123);
        GameOfNoes x = Games.heap(Games.board(Games.withBook(3, 1, Games.FLIPS), 1, 2, 5), 2, 2, 2);
        Due.tell(x, "refuse (mine-theirs)*move;");
        x.way(1, 1);
        x.run(1);
        due.is("mine is 2, theirs 1, so no to 2", Games.heapOf(x, 3), 1123);
    }

    private static void namesAsItWouldBeDone(Due due) {
        // From 2: 0 comes to 3, 1 to 1, and 2 stays; by -to the lower one of those not refused is done.
        String book = "move 0 step 0,1;move 1 step 0,3;move 2 change 0,1;";
        String[] asked = {"to", "-to", "-(to-2)*(to-2)", "to-from", "from-to"};
        int[] heaps = {1312, 1231, 1213, 1312, 1231};
        for (int i = 0; i < asked.length; i++) {
            GameOfNoes x = Games.heap(Games.board(Games.withBook(4, 1, book), 0, 0, 1, 0), 2, 2, 2);
            Due.tell(x, "refuse " + asked[i] + ";choose -to;");
            x.way(0, 1);
            x.way(1, 1);
            x.run(1);
            due.is("refuse " + asked[i], Games.heapOf(x, 3), heaps[i]);
        }
    }

    private static void countsAtTheOffer(Due due) {
        GameOfNoes x = Games.flips(Games.FLIPS, 1, 3, 2);
        Due.tell(x, "choose count;");
        Due.tell(x, "refuse count;");
        x.way(0, 1);
        x.way(1, 2);
        x.run(1);
        due.is("no to 1, of 1 and 2 the 2 is done", Games.heapOf(x, 3), 1131);
    }

    // Games that are told

    private static void fortyPlies(Due due) {
        GameOfNoes x = Games.flips(Games.FLIPS, 2, 2, 2);
        for (int i = 0; i < 39; i++) x.ply(0, 1, 2, i % 2, 1 - i % 2);
        due.is("the 40th", x.ply(0, 1, 2, 1, 1), 40);
        due.is("it is judged", x.judge(), 39);
        due.is("the 41st", x.ply(0, 1, 2, 0, 1), NONE);
        due.is("the 40th stays", x.judge(), 39);
    }

    private static void partsOfAPly(Due due) {
        int[][] plies = {{0, 1, 3, 0, 1}, {0, 3, 2, 0, 2}, {3, 1, 2, 1, 2}, {0, 1, 2, 3, 1}, {0, 1, 2, 0, 3}};
        for (int[] p : plies) {
            GameOfNoes x = Games.flips(Games.FLIPS, 1, 1, 1);
            x.ply(p[0], p[1], p[2], p[3], p[4]);
            due.is("one part is wrong", x.judge(), 0);
        }
        GameOfNoes y = Games.flips(Games.FLIPS_4, 1, 1, 1, 1);
        y.ply(0, 1, 3, 3, 0);
        due.is("all are right", y.judge(), NONE);
    }

    private static void firstThatCant(Due due) {
        for (int wrong = 0; wrong < 5; wrong++) {
            GameOfNoes x = Games.flips(Games.FLIPS, 2, 2, 2);
            for (int i = 0; i < 5; i++) x.ply(0, 1, 2, i % 2, i >= wrong ? i % 2 : 1 - i % 2);
            due.is("the first", x.judge(), wrong);
        }
    }

    private static void noneThatCant(Due due) {
        GameOfNoes x = Games.flips(Games.FLIPS, 2, 2, 2);
        for (int i = 0; i < 40; i++) x.ply(0, 1, 2, i % 2, 1 - i % 2);
        due.is("all forty", x.judge(), NONE);
    }

    private static void judgedFromNowOn(Due due) {
        GameOfNoes x = Games.flips(Games.FLIPS, 1, 2, 1);
        x.ply(0, 1, 2, 0, 1);
        x.ply(0, 1, 2, 0, 1);
        due.is("both can be", x.judge(), NONE);
        x.play(0, 1, 2, 0, 1);
        due.is("now but one", x.judge(), 1);
        x.play(0, 1, 2, 0, 1);
        due.is("now none", x.judge(), 0);
    }

    private static void judgedIsTried(Due due) {
        GameOfNoes x = Games.flips(Games.FLIPS, 2, 2, 2);
        x.ply(0, 1, 2, 0, 1);
        x.ply(0, 1, 2, 0, 0);
        String before = Games.standOf(x);
        x.judge();
        x.again();
        due.is("all is as before", Games.standOf(x).equals(before), true);
    }

    private static void judgedBehindTheEnd(Due due) {
        GameOfNoes x = Games.flips(Games.FLIPS, 1, 1, 1);
        x.ply(0, 1, 2, 0, 1);
        due.is("up to the end", x.judge(), NONE);
        x.ply(0, 1, 2, 0, 1);
        due.is("behind it", x.judge(), 1);
    }

    private static GameOfNoes withGame(int[]... plies) {
        GameOfNoes x = Games.flips(Games.FLIPS_4, 2, 2, 2, 2);
        for (int[] p : plies) x.ply(p[0], p[1], p[2], p[3], p[4]);
        return x;
    }

    private static void asAheadOfTheFirst(Due due) {
        // Two plies of each side put both pieces back; the heap is 1 1 3 3 then.
        int[][] plies = {{0, 2, 3, 2, 0}, {1, 2, 3, 3, 1}, {0, 1, 2, 0, 2}, {0, 1, 2, 2, 0}};
        due.is("the 4th", withGame(plies).again(), 3);
        due.is("three of them", withGame(plies[0], plies[1], plies[2]).again(), NONE);
    }

    private static void asAheadOfTheFirstOnTheLastPlaces(Due due) {
        GameOfNoes x = Games.heap(Games.withBook(4, 3, Games.FLIPS_4), 2, 2, 2, 2);
        x.piece(10, 0, 0);
        x.piece(11, 3, 0);
        x.piece(9, 0, 1);
        int[][] plies = {{0, 2, 3, 2, 0}, {1, 2, 3, 3, 1}, {0, 1, 2, 0, 2}, {0, 1, 2, 2, 0}};
        for (int i = 0; i < 4; i++) {
            due.is("not yet", x.again(), NONE);
            x.ply(plies[i][0], plies[i][1], plies[i][2], plies[i][3], plies[i][4]);
        }
        due.is("the 4th", x.again(), 3);
    }

    private static void asBehindAnEarlierOne(Due due) {
        // Behind the 4th the heap is 2 2 2 2 as at first; the 5th comes to the board behind the 1st, by 2 1 3 2.
        int[][] plies = {{0, 1, 2, 0, 1}, {0, 1, 2, 1, 0}, {0, 1, 2, 0, 1}, {0, 1, 2, 1, 0}, {0, 1, 2, 2, 1}};
        due.is("the 5th", withGame(plies).again(), 4);
    }

    private static void firstAgain(Due due) {
        int[][] plies = {{0, 2, 3, 2, 0}, {1, 2, 3, 3, 1}, {0, 1, 2, 0, 2}, {0, 1, 2, 2, 0}, {0, 2, 3, 2, 0}, {1, 2, 3, 3, 1}};
        due.is("not a later one", withGame(plies).again(), 3);
    }

    private static void boardButNotTurn(Due due) {
        // Side 0 steps to the left, side 1 too, then side 0 pushes: the board is as at first, but it is side 1's turn.
        String book = "move 0 step 0,3;move 1 step 0,3;move 2 step 0,3;move 0 push 0,1;move 1 push 0,1;move 2 push 0,1;";
        GameOfNoes x = Games.heap(Games.board(Games.withBook(4, 1, book), 0, 1, 5, 0), 3, 3, 3);
        x.ply(0, 1, 2, 0, 1);
        x.ply(0, 1, 2, 0, 2);
        x.ply(0, 1, 2, 1, 0);
        due.is("all three can be", x.judge(), NONE);
        due.is("again()", x.again(), NONE);
        x.play(0, 1, 2, 0, 1);
        x.play(0, 1, 2, 0, 2);
        x.play(0, 1, 2, 1, 0);
        due.is("the board is as at first", Games.boardOf(x), 10150);
        due.is("the turn isn't", x.about(2), 1);
    }

    private static void sameHeap(Due due) {
        int[][] plies = {{0, 1, 2, 0, 1}, {0, 1, 2, 1, 0}, {0, 1, 2, 0, 1}, {0, 1, 2, 1, 0}};
        due.is("the heap is the same too", withGame(plies).again(), NONE);
        due.is("it goes on so", withGame(plies[0], plies[1], plies[2], plies[3], plies[0], plies[1], plies[2], plies[3]).again(), NONE);
    }

    private static void againAheadOfWhatCant(Due due) {
        int[][] plies = {{0, 2, 3, 2, 0}, {1, 2, 3, 3, 1}, {0, 1, 2, 0, 2}, {0, 1, 2, 2, 0}, {0, 1, 2, 0, 0}};
        due.is("the 5th can't be", withGame(plies).again(), 3);
    }

    private static void againBehindWhatCant(Due due) {
        int[][] plies = {{0, 2, 3, 2, 0}, {1, 2, 3, 3, 1}, {0, 1, 2, 0, 2}, {0, 1, 2, 2, 2}, {0, 1, 2, 2, 0}};
        due.is("the 4th can't be", withGame(plies).again(), NONE);
        int[][] first = {{0, 2, 3, 2, 2}, {0, 2, 3, 2, 0}, {1, 2, 3, 3, 1}, {0, 1, 2, 0, 2}, {0, 1, 2, 2, 0}};
        due.is("the 1st can't be", withGame(first).again(), NONE);
    }

    // Games that are tried

    private static void matchAtTheEnd(Due due) {
        for (int side = 0; side < 2; side++) {
            GameOfNoes x = Games.flips(Games.FLIPS, 1, 1, 0);
            x.turn(side);
            due.is("who", x.match(1, 0), side);
            due.is("plies", x.match(1, 1), 0);
        }
    }

    private static void matchWonByTheLast(Due due) {
        GameOfNoes x = Games.flips(Games.FLIPS, 1, 2, 1);
        // No to 0 and 1 is done twice: 2 1 1, 3 0 1.
        due.is("by 2 plies", x.match(2, 0), 0);
        due.is("2 plies", x.match(2, 1), 2);
        due.is("by 3 plies at most", x.match(3, 0), 0);
        due.is("2 of 3 plies", x.match(3, 1), 2);
    }

    private static void matchNotWon(Due due) {
        GameOfNoes x = Games.flips(Games.FLIPS, 1, 2, 1);
        due.is("by 1 ply", x.match(1, 0), NONE);
        due.is("1 ply", x.match(1, 1), 1);
    }

    private static void matchIsTried(Due due) {
        GameOfNoes x = Games.flips(Games.FLIPS, 1, 2, 1);
        String before = Games.standOf(x);
        x.match(99, 0);
        due.is("all is as before", Games.standOf(x).equals(before), true);
    }

    private static void isDrawn(Due due, String book, int[] counts, int seed, int n) {
        GameOfNoes x = Games.flips(book, counts);
        int[] chance = {seed * 7 + 9};
        int[] wins = new int[3];
        for (int game = 0; game < n; game++) wins[1 + Games.drawnByHand(chance, counts)]++;
        due.is("side 0 by seed " + seed, x.drawn(seed, n, 0), wins[1]);
        due.is("side 1 by seed " + seed, x.drawn(seed, n, 1), wins[2]);
    }

    private static void drawsByHand(Due due) {
        // Seed 0 of 3 1 1: X is 9, 1466, 19424: no to 2, 0 is done: 2 1 2. 8208, 23963, 28232: the same: 1 1 3.
        // 5866, 17625, 26895: no to 0, 2 is done: 2 1 2. 6748, 5534, 25727: no to 2, 1 is done: 2 0 3: side 0 has won.
        GameOfNoes x = Games.flips(Games.FLIPS, 3, 1, 1);
        due.is("drawn(0, 1, 0)", x.drawn(0, 1, 0), 1);
        due.is("drawn(0, 1, 1)", x.drawn(0, 1, 1), 0);
        for (int seed = 1; seed < 40; seed++) isDrawn(due, FLIPS_5, new int[] {2, 2, 2, 2, 2}, seed, 1);
    }

    private static void drawsOfTheLastSeeds(Due due) {
        // Here X is above 30113 at the first draw.
        for (int seed = 9999; seed > 9960; seed--) isDrawn(due, FLIPS_5, new int[] {2, 2, 2, 2, 2}, seed, 1);
    }

    private static void drawnFromNow(Due due) {
        GameOfNoes x = Games.flips(Games.FLIPS, 1, 1, 1);
        due.is("side 1 wins", x.drawn(5, 1, 1), 1);
        x.turn(1);
        due.is("now side 0 wins", x.drawn(5, 1, 0), 1);
    }

    private static void drawnIsTried(Due due) {
        GameOfNoes x = Games.flips(Games.FLIPS_4, 2, 2, 2, 2);
        String before = Games.standOf(x);
        x.drawn(5, 20, 0);
        due.is("all is as before", Games.standOf(x).equals(before), true);
    }

    private static void thirtyDrawnPlies(Due due) {
        // By seed 18 it takes 29 plies, by 10 just 30, by 13 and 32 it would take 31 and 32.
        GameOfNoes x = Games.flips(FLIPS_8, 3, 3, 3, 3, 3, 3, 3, 3);
        int[][] seedAndWinner = {{18, 1}, {10, 0}, {13, NONE}, {32, NONE}};
        for (int[] s : seedAndWinner) {
            due.is("side 0 by seed " + s[0], x.drawn(s[0], 1, 0), s[1] == 0 ? 1 : 0);
            due.is("side 1 by seed " + s[0], x.drawn(s[0], 1, 1), s[1] == 1 ? 1 : 0);
        }
        for (int seed = 0; seed < 40; seed++) isDrawn(due, FLIPS_8, new int[] {3, 3, 3, 3, 3, 3, 3, 3}, seed, 1);
    }

    private static void gamesOneBehindTheOther(Due due) {
        for (int n = 1; n <= 20; n++) isDrawn(due, Games.FLIPS, new int[] {3, 2, 2}, 7, n);
        for (int n = 1; n <= 20; n++) isDrawn(due, FLIPS_8, new int[] {3, 3, 3, 3, 3, 3, 3, 3}, 10, n);
    }

    private static void twentyGames(Due due) {
        GameOfNoes x = Games.flips(Games.FLIPS, 1, 1, 1);
        due.is("20 games", x.drawn(0, 20, 1), 20);
        due.is("1 game", x.drawn(0, 1, 1), 1);
        due.is("0 games", x.drawn(0, 0, 1), NONE);
        due.is("21 games", x.drawn(0, 21, 1), NONE);
    }

    private static void drawnAtTheEnd(Due due) {
        GameOfNoes x = Games.flips(Games.FLIPS, 1, 1, 0);
        due.is("side 0 has won each", x.drawn(0, 20, 0), 20);
        due.is("side 1 none", x.drawn(0, 20, 1), 0);
    }

    // Promises

    private static void howManyOffers(Due due) {
        int[] counts = {0, 0, 0, 1, 4, 10, 20, 35, 56};
        for (int moves = 0; moves <= 8; moves++) {
            GameOfNoes x = Games.flips(FLIPS_8);
            for (int move = 0; move < moves; move++) x.heap(move, 1);
            due.is("of " + moves + " moves", x.offers(NONE), counts[moves]);
        }
    }

    private static void everyOffer(Due due) {
        GameOfNoes x = Games.flips(FLIPS_8, 1, 1, 1, 1, 1, 1, 1, 1);
        int i = 0;
        for (int a = 0; a < 8; a++) {
            for (int b = a + 1; b < 8; b++) {
                for (int c = b + 1; c < 8; c++) due.is("offers(" + i + ")", x.offers(i++), 100 * a + 10 * b + c);
            }
        }
    }

    private static void offersBehindTheLast(Due due) {
        GameOfNoes x = Games.flips(FLIPS_8, 1, 1, 1, 1, 1, 1, 1, 1);
        due.is("offers(55)", x.offers(55), 567);
        for (int i : new int[] {56, 57, 1000, MOST}) due.is("offers(" + i + ")", x.offers(i), NONE);
    }

    private static void offersBelowNone(Due due) {
        GameOfNoes x = Games.flips(Games.FLIPS, 1, 1, 1);
        for (int i : new int[] {-2, -3, LEAST}) due.is("offers(" + i + ")", x.offers(i), NONE);
    }

    private static void offersOfNone(Due due) {
        GameOfNoes x = Games.flips(Games.FLIPS, 1, 1, 0);
        due.is("offers(NONE)", x.offers(NONE), 0);
        due.is("offers(0)", x.offers(0), NONE);
        due.is("offers(0) of a new object", new GameOfNoes(2, 1).offers(0), NONE);
    }

    private static void playEach(Due due) {
        for (int no = 5; no < 8; no++) {
            for (int done = 5; done < 8; done++) {
                if (no == done) continue;
                GameOfNoes x = Games.flips(FLIPS_8, 0, 0, 0, 0, 0, 2, 2, 2);
                due.is("play(5, 6, 7, " + no + ", " + done + ")", x.play(5, 6, 7, no, done), true);
                for (int move = 5; move < 8; move++) {
                    due.is("count of " + move, x.about(10 + move), move == no ? 3 : move == done ? 1 : 2);
                }
                due.is("the board", Games.boardOf(x), 125);
                due.is("the turn", x.about(2), 1);
            }
        }
    }

    private static void isRefused(Due due, int... p) {
        GameOfNoes x = Games.flips(Games.FLIPS_4, 2, 2, 2, 0);
        String before = Games.standOf(x);
        due.is("play", x.play(p[0], p[1], p[2], p[3], p[4]), false);
        due.is("nothing is done", Games.standOf(x).equals(before), true);
    }

    private static void playNoOffer(Due due) {
        int[][] wrong = {{0, 1, 3, 0, 1}, {0, 2, 1, 0, 1}, {0, 0, 1, 0, 1}, {0, 1, 8, 0, 1}, {-1, 0, 1, 0, 1}, {-1, -1, -1, 0, 1},
            {32, 33, 34, 32, 33}, {0, 1, 34, 0, 1}, {0, 1, MOST, 0, 1}, {LEAST, 0, 1, 0, 1}, {LEAST, 0, MOST, 0, 1}, {1, 2, 4, 1, 2}};
        for (int[] w : wrong) isRefused(due, w);
    }

    private static void playAWrongNo(Due due) {
        for (int no : new int[] {3, -1, 8, 32, 34, LEAST, MOST}) isRefused(due, 0, 1, 2, no, 1);
        isRefused(due, 0, 1, 2, 1, 1);
    }

    private static void playAWrongChoice(Due due) {
        for (int done : new int[] {3, -1, 8, 32, 33, LEAST, MOST}) isRefused(due, 0, 1, 2, 0, done);
        isRefused(due, 0, 1, 2, 0, 0);
    }

    private static void playBehindTheEnd(Due due) {
        GameOfNoes x = Games.flips(Games.FLIPS, 1, 1, 0);
        String before = Games.standOf(x);
        due.is("play(0, 1, 2, 0, 1)", x.play(0, 1, 2, 0, 1), false);
        due.is("nothing is done", Games.standOf(x).equals(before), true);
        due.is("of a new object", new GameOfNoes(2, 1).play(0, 1, 2, 0, 1), false);
    }

    private static GameOfNoes goingOn() {
        GameOfNoes x = Games.flips(Games.FLIPS_4, 2, 2, 2, 2);
        Due.tell(x, FOR_EVER);
        x.way(0, 1);
        x.way(1, 1);
        return x;
    }

    private static void runOne(Due due) {
        GameOfNoes x = goingOn();
        due.is("run(1)", x.run(1), 1);
        due.is("the turn", x.about(2), 1);
    }

    private static void run99(Due due) {
        GameOfNoes x = goingOn();
        due.is("run(99)", x.run(99), 99);
        due.is("the turn", x.about(2), 1);
        due.is("run(98)", x.run(98), 98);
        due.is("the turn stays", x.about(2), 1);
    }

    private static void runToTheEnd(Due due) {
        for (int n : new int[] {2, 3, 99}) {
            GameOfNoes x = Games.flips(Games.FLIPS, 1, 2, 1);
            due.is("run(" + n + ")", x.run(n), 2);
            due.is("won()", x.won(), 0);
        }
        due.is("run(1) of two plies", Games.flips(Games.FLIPS, 1, 2, 1).run(1), 1);
    }

    private static void runBehindTheEnd(Due due) {
        GameOfNoes x = Games.flips(Games.FLIPS, 1, 1, 0);
        due.is("run(1)", x.run(1), 0);
        due.is("run(99)", x.run(99), 0);
        due.is("the turn", x.about(2), 0);
    }

    private static void runOfOthers(Due due) {
        GameOfNoes x = goingOn();
        String before = Games.standOf(x);
        for (int n : new int[] {0, -1, 100, 101, LEAST, MOST}) due.is("run(" + n + ")", x.run(n), NONE);
        due.is("nothing is done", Games.standOf(x).equals(before), true);
        GameOfNoes y = Games.flips(Games.FLIPS, 1, 1, 0);
        due.is("run(0) behind the end", y.run(0), NONE);
        due.is("run(100) behind the end", y.run(100), NONE);
    }

    private static void wonByEither(Due due) {
        GameOfNoes x = Games.flips(Games.FLIPS, 1, 1, 0);
        due.is("side 0", x.won(), 0);
        x.turn(1);
        due.is("side 1", x.won(), 1);
        due.is("a new object", new GameOfNoes(2, 1).won(), 0);
    }

    private static void notWon(Due due) {
        GameOfNoes x = Games.flips(Games.FLIPS, 1, 1, 1);
        due.is("side 0", x.won(), NONE);
        x.turn(1);
        due.is("side 1", x.won(), NONE);
    }

    private static void plyCounts(Due due) {
        GameOfNoes x = new GameOfNoes(2, 1);
        int[][] plies = {{0, 0, 0, 0, 0}, {7, 7, 7, 7, 7}, {7, 0, 3, 5, 1}};
        for (int i = 0; i < plies.length; i++) {
            due.is("ply", x.ply(plies[i][0], plies[i][1], plies[i][2], plies[i][3], plies[i][4]), i + 1);
            due.is("about(7)", x.about(7), i + 1);
        }
    }

    private static void plyEmpties(Due due) {
        GameOfNoes x = new GameOfNoes(2, 1);
        due.is("of an empty game", x.ply(NONE, 0, 0, 0, 0), 0);
        for (int i = 0; i < 40; i++) x.ply(0, 1, 2, 0, 1);
        due.is("whatever the others are", x.ply(NONE, 99, -5, LEAST, MOST), 0);
        due.is("about(7)", x.about(7), 0);
        due.is("a ply then", x.ply(0, 1, 2, 0, 1), 1);
    }

    private static void plyOfOthers(Due due) {
        GameOfNoes x = new GameOfNoes(2, 1);
        x.ply(0, 1, 2, 0, 1);
        for (int part = 0; part < 5; part++) {
            for (int wrong : new int[] {8, 9, -2, LEAST, MOST, -1}) {
                if (part == 0 && wrong == -1) continue;
                int[] p = {0, 1, 2, 0, 1};
                p[part] = wrong;
                due.is("part " + part + " is " + wrong, x.ply(p[0], p[1], p[2], p[3], p[4]), NONE);
            }
        }
        due.is("about(7)", x.about(7), 1);
    }

    private static void ply41(Due due) {
        GameOfNoes x = new GameOfNoes(2, 1);
        for (int i = 1; i <= 40; i++) due.is("ply", x.ply(0, 1, 2, 0, 1), i);
        due.is("the 41st", x.ply(0, 1, 2, 0, 1), NONE);
        due.is("about(7)", x.about(7), 40);
    }

    private static void judgeEach(Due due) {
        for (int wrong : new int[] {0, 1, 20, 38, 39}) {
            GameOfNoes x = Games.flips(Games.FLIPS, 2, 2, 2);
            for (int i = 0; i < 40; i++) x.ply(0, 1, 2, i % 2, i == wrong ? 3 : 1 - i % 2);
            due.is("judge()", x.judge(), wrong);
        }
    }

    private static void judgeOfNone(Due due) {
        GameOfNoes x = Games.flips(Games.FLIPS, 2, 2, 2);
        due.is("of an empty game", x.judge(), NONE);
        x.ply(0, 1, 2, 0, 0);
        due.is("a ply that can't be", x.judge(), 0);
        x.ply(NONE, 0, 0, 0, 0);
        due.is("of one that was emptied", x.judge(), NONE);
        due.is("of a new object", new GameOfNoes(2, 1).judge(), NONE);
    }

    private static void againOfTheLast(Due due) {
        GameOfNoes x = Games.flips(Games.FLIPS, 2, 2, 2);
        for (int i = 0; i < 39; i++) x.ply(0, 1, 2, i % 2, 1 - i % 2);
        x.ply(0, 1, 2, 2, 0);
        due.is("the 40th", x.again(), 39);
    }

    private static void againOfNone(Due due) {
        GameOfNoes x = Games.flips(Games.FLIPS, 2, 2, 2);
        due.is("of an empty game", x.again(), NONE);
        x.ply(0, 1, 2, 0, 1);
        due.is("of one ply", x.again(), NONE);
        due.is("of a new object", new GameOfNoes(2, 1).again(), NONE);
        int[][] plies = {{0, 2, 3, 2, 0}, {1, 2, 3, 3, 1}, {0, 1, 2, 0, 2}, {0, 1, 2, 2, 0}};
        GameOfNoes y = withGame(plies);
        due.is("of four plies", y.again(), 3);
        y.ply(NONE, 0, 0, 0, 0);
        for (int i = 0; i < 3; i++) y.ply(plies[i][0], plies[i][1], plies[i][2], plies[i][3], plies[i][4]);
        due.is("of three, the 4th being gone", y.again(), NONE);
    }

    private static void matchOfOne(Due due) {
        GameOfNoes x = Games.flips(Games.FLIPS, 1, 1, 1);
        due.is("who", x.match(1, 0), 1);
        due.is("plies", x.match(1, 1), 1);
    }

    private static void matchOf99(Due due) {
        GameOfNoes x = goingOn();
        due.is("who", x.match(99, 0), NONE);
        due.is("plies", x.match(99, 1), 99);
        due.is("plies of 98", x.match(98, 1), 98);
    }

    private static void matchOfOtherPlies(Due due) {
        for (int n : new int[] {0, -1, 100, 101, LEAST, MOST}) {
            for (int what = 0; what < 2; what++) {
                due.is("match(" + n + ", " + what + ")", goingOn().match(n, what), -2);
                due.is("at the end", Games.flips(Games.FLIPS, 1, 1, 0).match(n, what), -2);
            }
        }
    }

    private static void matchOfOtherWhats(Due due) {
        for (int what : new int[] {-1, 2, 3, LEAST, MOST}) due.is("match(5, " + what + ")", goingOn().match(5, what), -2);
    }

    private static void drawnOfEitherSide(Due due) {
        GameOfNoes x = Games.flips(Games.FLIPS, 1, 1, 1);
        due.is("side 0", x.drawn(3, 4, 0), 0);
        due.is("side 1", x.drawn(3, 4, 1), 4);
    }

    private static void drawnOfOtherSeeds(Due due) {
        GameOfNoes x = Games.flips(Games.FLIPS, 1, 1, 1);
        for (int seed : new int[] {-1, 10000, LEAST, MOST}) due.is("seed " + seed, x.drawn(seed, 1, 1), NONE);
        due.is("seed 0", x.drawn(0, 1, 1), 1);
        due.is("seed 9999", x.drawn(9999, 1, 1), 1);
    }

    private static void drawnOfOtherCounts(Due due) {
        GameOfNoes x = Games.flips(Games.FLIPS, 1, 1, 1);
        for (int n : new int[] {0, -1, 21, LEAST, MOST}) due.is(n + " games", x.drawn(0, n, 1), NONE);
    }

    private static void drawnOfOtherSides(Due due) {
        GameOfNoes x = Games.flips(Games.FLIPS, 1, 1, 1);
        for (int side : new int[] {-1, 2, LEAST, MOST}) due.is("side " + side, x.drawn(0, 1, side), NONE);
    }
}
