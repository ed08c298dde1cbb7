/** Tests of what the document says of the board and its moves: Terms up to II, promises 1 to 4 and 11. */
final class BoardEdges {
    private static final int NONE = GameOfNoes.NONE;
    private static final int LEAST = Integer.MIN_VALUE;
    private static final int MOST = Integer.MAX_VALUE;
    // The step, leap or push of each of the four directions as moves 0 to 3.
    private static final String STEPS = "move 0 step 0,0;move 1 step 0,1;move 2 step 0,2;move 3 step 0,3;";
    private static final String LEAPS = "move 0 leap 0,0;move 1 leap 0,1;move 2 leap 0,2;move 3 leap 0,3;";
    private static final String PUSHES = "move 0 push 0,0;move 1 push 0,1;move 2 push 0,2;move 3 push 0,3;";

    private BoardEdges() {
    }

    static void tell(Sentences all) {
        newObject(all);
        settings(all);
        terms(all);
        acts(all);
        places(all);
        can(all);
    }

    private static void newObject(Sentences all) {
        all.on("Promise 1", "W by H PLACES (2 to 4, 1 to 3; others: the nearest of these)",
            BoardEdges::eachSize, BoardEdges::tooNarrow, BoardEdges::tooWide, BoardEdges::tooLow, BoardEdges::tooHigh);
        all.on("Promise 1", "THE IMAGE is this.", BoardEdges::firstImage);
    }

    private static void settings(Sentences all) {
        all.on("Promise 2", "A PIECE (kind NONE: none) at a PLACE: true.",
            BoardEdges::everyPiece, BoardEdges::pieceInsteadOfAnother, BoardEdges::noPiece, BoardEdges::noPieceOfAnySide);
        all.on("Promise 2", "False for others.",
            BoardEdges::pieceAtNoPlace, BoardEdges::noPieceAtNoPlace, BoardEdges::pieceOfNoKind, BoardEdges::pieceOfNoSide);
        all.on("Promise 3", "COUNT of a MOVE in THE HEAP: true.", BoardEdges::everyCount);
        all.on("Promise 3", "False for others.", BoardEdges::heapOfNoMove, BoardEdges::heapOfNoCount);
        all.on("Promise 4", "TURN: true.", BoardEdges::eitherTurn);
        all.on("Promise 4", "False for others.", BoardEdges::turnOfNoSide);
    }

    private static void terms(Sentences all) {
        all.on("Terms", "THE BOARD: W by H PLACES (p = x + W y, from 0), each without or with a PIECE of a KIND 0 .. 3 and a SIDE 0, 1.",
            BoardEdges::placesInRows, BoardEdges::kindsAndSidesAtBothEnds);
        all.on("Terms", "DIRECTIONS: 0 y less, 1 x more, 2 y more, 3 x less.", BoardEdges::directions);
        all.on("Terms", "THE HEAP: for each MOVE 0 .. 7 a COUNT (0 .. 3; at first 0).", BoardEdges::heapAtFirst, BoardEdges::heapRange);
        all.on("Terms", "TURN: the SIDE to offer (at first 0).", BoardEdges::turnAtFirst, BoardEdges::turnIsTheSideToOffer);
        all.on("Terms", "The constants: `NONE = -1`: None.", due -> due.is("NONE", GameOfNoes.NONE, -1));
        all.on("Terms", "`SPENT = -2`: Too many states.", due -> due.is("SPENT", GameOfNoes.SPENT, -2));
    }

    private static void acts(Sentences all) {
        all.on("Terms", "A MOVE can have more than one ACT of THE BOOK.", BoardEdges::twoActs, BoardEdges::twentyActs);
        all.on("Terms", "A PIECE of the SIDE to offer, of the ACT's KIND, does it:", BoardEdges::whoseAct, BoardEdges::whichKindsAct);
        all.on("Terms", "step D: into the PLACE beside it in D, if that is there and empty.",
            BoardEdges::step, BoardEdges::stepOffTheBoard, BoardEdges::stepIntoTheNextRow, BoardEdges::stepIntoAPiece);
        all.on("Terms", "leap D: over the PLACE beside in D, if that has a PIECE, into the one behind it in D, if that is there and empty;",
            BoardEdges::leap, BoardEdges::leapOverNothing, BoardEdges::leapOffTheBoard, BoardEdges::leapIntoTheNextRow,
            BoardEdges::leapIntoAPiece);
        all.on("Terms", "the PIECE leapt over is taken off, if it is of the other SIDE.",
            BoardEdges::leapOverTheOther, BoardEdges::leapOverItsOwn, BoardEdges::leapInEachDirection);
        all.on("Terms", "push D: if the PLACE beside in D has a PIECE and the one behind it in D is there and empty, that PIECE goes there, "
            + "the one that pushes into its PLACE.",
            BoardEdges::push, BoardEdges::pushInEachDirection, BoardEdges::pushNothing, BoardEdges::pushOffTheBoard, BoardEdges::pushIntoTheNextRow,
            BoardEdges::pushIntoAPiece, BoardEdges::pushedPieceStaysWhatItIs);
        all.on("Terms", "change L: it is of KIND L then (unlike).", BoardEdges::change, BoardEdges::changeIntoTheSame);
        all.on("Terms", "An ACT with while can be done, if what is asked is so.", BoardEdges::whileSo, BoardEdges::whileOfOneActAlone);
        all.on("Terms", "TO: where it comes to (of change: the same PLACE).", BoardEdges::to);
    }

    private static void places(Sentences all) {
        all.on("Terms", "A SIDE can do a MOVE, if it can do one of its ACTS from some PLACE:",
            BoardEdges::noActs, BoardEdges::fromTheLastPlace, BoardEdges::fromNoPlace);
        all.on("Terms", "it does it from that PLACE for which place is greatest (as it is; without: 0)",
            BoardEdges::greatestPlace, BoardEdges::greatestBelowZero, BoardEdges::placeAsItIs, BoardEdges::placesThatCanDoItAlone,
            BoardEdges::withoutPlace);
        all.on("Terms", ", of like ones from the lowest,", BoardEdges::likePlaces, BoardEdges::likePlacesAtTheLimit);
        all.on("Terms", "by the first ACT (by number of CLAUSE) that can be done there", BoardEdges::firstAct);
        all.on("Terms", "(place is asked for the TO of that ACT).", BoardEdges::placeByTheFirstActsTo);
    }

    private static void can(Sentences all) {
        all.on("Promise 11", "Of a MOVE for the SIDE whose TURN it is: 0 the PLACE from which it does it, 1 TO, 2 the CLAUSE.",
            BoardEdges::canOfEach, BoardEdges::canForTheTurn, BoardEdges::canByACountOfZero, BoardEdges::clauseAmongAll);
        all.on("Promise 11", "NONE: it can't, and for others.", BoardEdges::cannot, BoardEdges::canOfNoMove, BoardEdges::canOfNoWhat);
    }

    private static void eachSize(Due due) {
        for (int w = 2; w <= 4; w++) {
            for (int h = 1; h <= 3; h++) {
                GameOfNoes x = new GameOfNoes(w, h);
                due.is("W", x.about(0), w);
                due.is("H", x.about(1), h);
                due.is("the last place of " + w + " by " + h, x.piece(w * h - 1, 0, 0), true);
                due.is("none behind it", x.piece(w * h, 0, 0), false);
            }
        }
    }

    private static void tooNarrow(Due due) {
        for (int w : new int[] {1, 0, -1, -2, LEAST}) due.is("W of " + w, new GameOfNoes(w, 2).about(0), 2);
    }

    private static void tooWide(Due due) {
        for (int w : new int[] {5, 6, 100, MOST}) due.is("W of " + w, new GameOfNoes(w, 2).about(0), 4);
    }

    private static void tooLow(Due due) {
        for (int h : new int[] {0, -1, -2, LEAST}) due.is("H of " + h, new GameOfNoes(3, h).about(1), 1);
    }

    private static void tooHigh(Due due) {
        for (int h : new int[] {4, 5, 100, MOST}) due.is("H of " + h, new GameOfNoes(3, h).about(1), 3);
    }

    private static void firstImage(Due due) {
        GameOfNoes x = Games.heap(Games.board(Games.withBook(3, 2, STEPS), 1, 2, 3, 4, 5, 6), 1, 1, 1, 1, 1, 1, 1, 1);
        x.turn(1);
        x.way(0, 0);
        x.way(1, 0);
        x.ply(0, 1, 2, 0, 1);
        due.is("back()", x.back(), 0);
        for (int what = 2; what < 26; what++) {
            due.is("about(" + what + ")", x.about(what), new GameOfNoes(3, 2).about(what));
        }
    }

    private static void everyPiece(Due due) {
        GameOfNoes x = new GameOfNoes(4, 3);
        for (int place = 0; place < 12; place++) {
            due.is("piece at " + place, x.piece(place, place % 4, place / 4 % 2), true);
        }
        for (int place = 0; place < 12; place++) {
            due.is("place " + place, x.about(20 + place), 1 + place % 4 + 4 * (place / 4 % 2));
        }
    }

    private static void pieceInsteadOfAnother(Due due) {
        GameOfNoes x = Games.board(new GameOfNoes(2, 1), 8, 8);
        due.is("piece(0, 0, 0)", x.piece(0, 0, 0), true);
        due.is("about(20)", x.about(20), 1);
        due.is("the one beside it stays", x.about(21), 8);
    }

    private static void noPiece(Due due) {
        GameOfNoes x = Games.board(new GameOfNoes(2, 1), 8, 8);
        due.is("piece(1, NONE, 0)", x.piece(1, NONE, 0), true);
        due.is("about(21)", x.about(21), 0);
        due.is("the one beside it stays", x.about(20), 8);
        due.is("once more", x.piece(1, NONE, 0), true);
        due.is("about(21)", x.about(21), 0);
    }

    private static void noPieceOfAnySide(Due due) {
        for (int side : new int[] {0, 1, 2, -1, -2, 9, LEAST, MOST}) {
            GameOfNoes x = Games.board(new GameOfNoes(2, 1), 8, 8);
            due.is("piece(0, NONE, " + side + ")", x.piece(0, NONE, side), true);
            due.is("about(20)", x.about(20), 0);
        }
    }

    private static void isRefused(Due due, GameOfNoes x, int place, int kind, int side) {
        String before = Games.standOf(x);
        due.is("piece(" + place + ", " + kind + ", " + side + ")", x.piece(place, kind, side), false);
        due.is("nothing is done", Games.standOf(x).equals(before), true);
    }

    private static void pieceAtNoPlace(Due due) {
        GameOfNoes x = Games.board(new GameOfNoes(3, 2), 1, 1, 1, 1, 1, 1);
        for (int place : new int[] {-1, 6, 7, 12, 16, 32, 64, LEAST, MOST}) isRefused(due, x, place, 3, 1);
        for (int w = 2; w <= 4; w++) {
            for (int h = 1; h <= 3; h++) isRefused(due, new GameOfNoes(w, h), w * h, 0, 0);
        }
    }

    private static void noPieceAtNoPlace(Due due) {
        GameOfNoes x = Games.board(new GameOfNoes(3, 2), 1, 1, 1, 1, 1, 1);
        for (int place : new int[] {-1, 6, 16, LEAST, MOST}) isRefused(due, x, place, NONE, 0);
    }

    private static void pieceOfNoKind(Due due) {
        GameOfNoes x = Games.board(new GameOfNoes(2, 1), 2, 0);
        for (int kind : new int[] {4, 5, -2, LEAST, MOST}) {
            isRefused(due, x, 0, kind, 0);
            isRefused(due, x, 1, kind, 1);
        }
    }

    private static void pieceOfNoSide(Due due) {
        GameOfNoes x = Games.board(new GameOfNoes(2, 1), 2, 0);
        for (int side : new int[] {2, -1, LEAST, MOST}) {
            isRefused(due, x, 0, 0, side);
            isRefused(due, x, 1, 3, side);
        }
    }

    private static void everyCount(Due due) {
        for (int move = 0; move < 8; move++) {
            for (int count = 3; count >= 0; count--) {
                GameOfNoes x = Games.heap(new GameOfNoes(2, 1), 2, 2, 2, 2, 2, 2, 2, 2);
                due.is("heap(" + move + ", " + count + ")", x.heap(move, count), true);
                for (int other = 0; other < 8; other++) due.is("count of " + other, x.about(10 + other), other == move ? count : 2);
            }
        }
    }

    private static void heapOfNoMove(Due due) {
        GameOfNoes x = Games.heap(new GameOfNoes(2, 1), 2, 2, 2, 2, 2, 2, 2, 2);
        for (int move : new int[] {-1, 8, 16, 32, LEAST, MOST}) due.is("heap(" + move + ", 1)", x.heap(move, 1), false);
        due.is("the heap", Games.heapOf(x, 8), 122222222);
    }

    private static void heapOfNoCount(Due due) {
        GameOfNoes x = Games.heap(new GameOfNoes(2, 1), 2, 2, 2, 2, 2, 2, 2, 2);
        for (int count : new int[] {-1, 4, 5, LEAST, MOST}) due.is("heap(0, " + count + ")", x.heap(0, count), false);
        due.is("the heap", Games.heapOf(x, 8), 122222222);
    }

    private static void eitherTurn(Due due) {
        GameOfNoes x = new GameOfNoes(2, 1);
        for (int side : new int[] {1, 1, 0, 0}) {
            due.is("turn(" + side + ")", x.turn(side), true);
            due.is("about(2)", x.about(2), side);
        }
    }

    private static void turnOfNoSide(Due due) {
        for (int before = 0; before < 2; before++) {
            GameOfNoes x = new GameOfNoes(2, 1);
            x.turn(before);
            for (int side : new int[] {2, -1, LEAST, MOST}) due.is("turn(" + side + ")", x.turn(side), false);
            due.is("about(2)", x.about(2), before);
        }
    }

    private static void placesInRows(Due due) {
        for (int w = 2; w <= 4; w++) {
            GameOfNoes x = Games.withBook(w, 3, STEPS);
            x.piece(w, 0, 0);
            due.is("up from 0 1 by width " + w, x.can(0, 1), 0);
            due.is("to the right", x.can(1, 1), w + 1);
            due.is("down", x.can(2, 1), 2 * w);
        }
    }

    private static void kindsAndSidesAtBothEnds(Due due) {
        for (int place : new int[] {0, 11}) {
            for (int told = 1; told <= 8; told++) {
                GameOfNoes x = new GameOfNoes(4, 3);
                due.is("without", x.about(20 + place), 0);
                due.is("piece", x.piece(place, (told - 1) % 4, (told - 1) / 4), true);
                due.is("with", x.about(20 + place), told);
            }
        }
    }

    private static void directions(Due due) {
        GameOfNoes x = Games.withBook(3, 3, STEPS);
        x.piece(4, 0, 0);
        due.is("0: y less", x.can(0, 1), 1);
        due.is("1: x more", x.can(1, 1), 5);
        due.is("2: y more", x.can(2, 1), 7);
        due.is("3: x less", x.can(3, 1), 3);
    }

    private static void heapAtFirst(Due due) {
        GameOfNoes x = new GameOfNoes(2, 1);
        due.is("the heap of a new object", Games.heapOf(x, 8), 100000000);
    }

    private static void heapRange(Due due) {
        GameOfNoes x = Games.heap(new GameOfNoes(2, 1), 3, 3, 3, 3, 3, 3, 3, 3);
        due.is("3 of each", Games.heapOf(x, 8), 133333333);
        due.is("4 of move 0", x.heap(0, 4), false);
        due.is("0 of move 7", x.heap(7, 0), true);
        due.is("1 of move 8", x.heap(8, 1), false);
        due.is("the heap", Games.heapOf(x, 8), 133333330);
    }

    private static void turnAtFirst(Due due) {
        due.is("about(2) of a new object", new GameOfNoes(2, 1).about(2), 0);
    }

    private static void turnIsTheSideToOffer(Due due) {
        // Side 0 can do three moves, side 1 none.
        GameOfNoes x = Games.heap(Games.board(Games.withBook(2, 1, Games.FLIPS), 1, 0), 1, 1, 1);
        due.is("side 0 has an offer", x.offers(NONE), 1);
        x.turn(1);
        due.is("side 1 has none", x.offers(NONE), 0);
    }

    private static void twoActs(Due due) {
        GameOfNoes x = Games.withBook(2, 1, "move 0 step 0,1;move 0 step 0,3;");
        x.piece(0, 0, 0);
        due.is("by the one", x.can(0, 1), 1);
        Games.board(x, 0, 1);
        due.is("by the other", x.can(0, 1), 0);
    }

    private static void twentyActs(Due due) {
        GameOfNoes x = Games.withBook(2, 1, "move 5leap0,0;".repeat(19) + "move 5change0,1;");
        x.piece(0, 0, 0);
        due.is("by the 20th", x.can(5, 2), 19);
    }

    private static void whoseAct(Due due) {
        GameOfNoes x = Games.board(Games.withBook(2, 1, "move 0 change 0,1;"), 5, 1);
        due.is("of side 0", x.can(0, 0), 1);
        x.turn(1);
        due.is("of side 1", x.can(0, 0), 0);
        x.piece(0, NONE, 0);
        due.is("not of the other side", x.can(0, 0), NONE);
    }

    private static void whichKindsAct(Due due) {
        for (int kind = 0; kind < 4; kind++) {
            GameOfNoes x = Games.withBook(2, 1, "move 0 step " + kind + ",1;");
            for (int other = 0; other < 4; other++) {
                x.piece(0, other, 0);
                due.is("step " + kind + " of kind " + other, x.can(0, 0), other == kind ? 0 : NONE);
            }
        }
    }

    private static void step(Due due) {
        GameOfNoes x = Games.board(Games.withBook(3, 1, "move 0 step 0,1;move 1 step 0,1;move 2 step 0,1;"), 1, 0, 8);
        Games.heap(x, 1, 1, 1);
        due.is("play", x.play(0, 1, 2, 0, 1), true);
        due.is("it went one place on", Games.boardOf(x), 1018);
    }

    /** What each move can do from each place of a 3 by 3 board with one piece. */
    private static void isFromEach(Due due, String book, int... ableByMove) {
        for (int place = 0; place < 9; place++) {
            GameOfNoes x = Games.withBook(3, 3, book);
            x.piece(place, 0, 0);
            for (int move = 0; move < 4; move++) {
                due.is("move " + move + " from " + place, x.can(move, 0), (ableByMove[move] >> place & 1) != 0 ? place : NONE);
            }
        }
    }

    private static void stepOffTheBoard(Due due) {
        // As bits, place 8 first: not from the upper row, the right column, the lower row, the left column.
        isFromEach(due, STEPS, 0b111111000, 0b011011011, 0b000111111, 0b110110110);
    }

    private static void stepIntoTheNextRow(Due due) {
        GameOfNoes x = Games.board(Games.withBook(2, 2, STEPS), 5, 1, 0, 5);
        due.is("from the end of a row not into the next one", x.can(1, 0), NONE);
        Games.board(x, 5, 0, 1, 5);
        due.is("from its start not into the one before", x.can(3, 0), NONE);
    }

    private static void stepIntoAPiece(Due due) {
        for (int side = 0; side < 2; side++) {
            GameOfNoes x = Games.withBook(3, 3, STEPS);
            x.piece(4, 0, 0);
            for (int place : new int[] {1, 5, 7, 3}) x.piece(place, 3, side);
            for (int move = 0; move < 4; move++) due.is("into a piece of side " + side, x.can(move, 0), NONE);
        }
    }

    private static void leap(Due due) {
        GameOfNoes x = Games.withBook(4, 3, LEAPS);
        int[][] fromOverTo = {{9, 5, 1}, {4, 5, 6}, {1, 5, 9}, {7, 6, 5}};
        for (int move = 0; move < 4; move++) {
            Games.board(x, 0, 0, 0, 0, 0, 0, 0, 0, 0, 0, 0, 0);
            x.piece(fromOverTo[move][0], 0, 0);
            x.piece(fromOverTo[move][1], 3, 1);
            due.is("from", x.can(move, 0), fromOverTo[move][0]);
            due.is("to", x.can(move, 1), fromOverTo[move][2]);
        }
    }

    private static void leapOverNothing(Due due) {
        isFromEach(due, LEAPS, 0, 0, 0, 0);
    }

    private static void leapOffTheBoard(Due due) {
        isStoppedByTheEdge(due, LEAPS);
    }

    /** A piece in the middle of the board that has one beside it in a direction, at the edge. */
    private static void isStoppedByTheEdge(Due due, String book) {
        int[] beside = {1, 5, 7, 3};
        for (int move = 0; move < 4; move++) {
            GameOfNoes x = Games.withBook(3, 3, book);
            x.piece(4, 0, 0);
            x.piece(beside[move], 1, 1);
            due.is("in direction " + move, x.can(move, 0), NONE);
        }
    }

    private static void leapIntoTheNextRow(Due due) {
        isStoppedByTheRow(due, LEAPS);
    }

    /** A piece whose neighbour stands at a row's end, the next row being empty. */
    private static void isStoppedByTheRow(Due due, String book) {
        GameOfNoes x = Games.board(Games.withBook(3, 2, book), 0, 1, 6, 0, 0, 0);
        due.is("not into the row below", x.can(1, 0), NONE);
        Games.board(x, 0, 0, 0, 6, 1, 0);
        due.is("not into the row above", x.can(3, 0), NONE);
    }

    private static void leapIntoAPiece(Due due) {
        isStoppedByAPiece(due, LEAPS);
    }

    private static void isStoppedByAPiece(Due due, String book) {
        for (int told : new int[] {1, 5, 8}) {
            GameOfNoes x = Games.board(Games.withBook(3, 1, book), 1, 6, told);
            due.is("by " + told, x.can(1, 0), NONE);
            Games.board(x, told, 6, 1);
            due.is("the other way by " + told, x.can(3, 0), NONE);
        }
    }

    private static GameOfNoes threeOf(String act, int... cells) {
        String book = "move 0 " + act + " 0,1;move 1 " + act + " 0,1;move 2 " + act + " 0,1;";
        return Games.heap(Games.board(Games.withBook(4, 1, book), cells), 1, 1, 1);
    }

    private static void leapOverTheOther(Due due) {
        GameOfNoes x = threeOf("leap", 1, 8, 0, 5);
        due.is("play", x.play(0, 1, 2, 0, 1), true);
        due.is("it is off", Games.boardOf(x), 10015);
        GameOfNoes y = threeOf("leap", 5, 4, 0, 1);
        y.turn(1);
        due.is("play of side 1", y.play(0, 1, 2, 0, 1), true);
        due.is("it is off too", Games.boardOf(y), 10051);
    }

    private static void leapOverItsOwn(Due due) {
        GameOfNoes x = threeOf("leap", 1, 4, 0, 5);
        due.is("play", x.play(0, 1, 2, 0, 1), true);
        due.is("it stays", Games.boardOf(x), 10415);
        GameOfNoes y = threeOf("leap", 5, 8, 0, 1);
        y.turn(1);
        due.is("play of side 1", y.play(0, 1, 2, 0, 1), true);
        due.is("it stays too", Games.boardOf(y), 10851);
    }

    private static void push(Due due) {
        GameOfNoes x = threeOf("push", 1, 8, 0, 5);
        due.is("from", x.can(0, 0), 0);
        due.is("to", x.can(0, 1), 1);
        due.is("play", x.play(0, 1, 2, 0, 1), true);
        due.is("both went one place on", Games.boardOf(x), 10185);
    }

    private static void pushInEachDirection(Due due) {
        int[][] fromOverTo = {{6, 3, 0}, {0, 1, 2}, {2, 5, 8}, {2, 1, 0}};
        for (int direction = 0; direction < 4; direction++) {
            int[] p = fromOverTo[direction];
            String act = " push 0," + direction + ";";
            GameOfNoes x = Games.withBook(3, 3, "move 0" + act + "move 1" + act + "move 2" + act);
            Games.heap(x, 1, 1, 1);
            x.piece(p[0], 0, 0);
            x.piece(p[1], 3, 1);
            due.is("play", x.play(0, 1, 2, 0, 1), true);
            due.is("from", x.about(20 + p[0]), 0);
            due.is("to", x.about(20 + p[1]), 1);
            due.is("what is pushed", x.about(20 + p[2]), 8);
            due.is("all pieces", x.image(), 2);
        }
    }

    private static void leapInEachDirection(Due due) {
        int[][] fromOverTo = {{6, 3, 0}, {0, 1, 2}, {2, 5, 8}, {2, 1, 0}};
        for (int direction = 0; direction < 4; direction++) {
            int[] p = fromOverTo[direction];
            String act = " leap 0," + direction + ";";
            GameOfNoes x = Games.withBook(3, 3, "move 0" + act + "move 1" + act + "move 2" + act);
            Games.heap(x, 1, 1, 1);
            x.piece(p[0], 0, 0);
            x.piece(p[1], 3, 1);
            due.is("play", x.play(0, 1, 2, 0, 1), true);
            due.is("from", x.about(20 + p[0]), 0);
            due.is("what is leapt over", x.about(20 + p[1]), 0);
            due.is("to", x.about(20 + p[2]), 1);
            due.is("all pieces", x.image(), 1);
        }
    }

    private static void pushNothing(Due due) {
        isFromEach(due, PUSHES, 0, 0, 0, 0);
    }

    private static void pushOffTheBoard(Due due) {
        isStoppedByTheEdge(due, PUSHES);
    }

    private static void pushIntoTheNextRow(Due due) {
        isStoppedByTheRow(due, PUSHES);
    }

    private static void pushIntoAPiece(Due due) {
        isStoppedByAPiece(due, PUSHES);
    }

    private static void pushedPieceStaysWhatItIs(Due due) {
        for (int told = 1; told <= 8; told++) {
            GameOfNoes x = threeOf("push", 1, told, 0, 0);
            // Of two pieces of its own that could push, the lower one is the only one that has something to push.
            due.is("play", x.play(0, 1, 2, 0, 1), true);
            due.is("pushed " + told, Games.boardOf(x), 10100 + 10 * told);
        }
    }

    private static void change(Due due) {
        for (int from = 0; from < 4; from++) {
            for (int into = 0; into < 4; into++) {
                if (from == into) continue;
                String act = "change " + from + "," + into + ";";
                GameOfNoes x = Games.withBook(2, 1, "move 0 " + act + "move 1 " + act + "move 2 " + act);
                Games.heap(x, 1, 1, 1);
                x.piece(0, from, 1);
                x.turn(1);
                due.is("play", x.play(0, 1, 2, 0, 1), true);
                due.is("changed from " + from, x.about(20), 5 + into);
            }
        }
    }

    private static void changeIntoTheSame(Due due) {
        for (int kind = 0; kind < 4; kind++) {
            GameOfNoes x = Games.withBook(2, 1, "move 0 change " + kind + "," + kind + ";");
            x.piece(0, kind, 0);
            due.is("into its own kind", x.can(0, 0), NONE);
        }
    }

    private static void whileSo(Due due) {
        GameOfNoes x = Games.board(Games.withBook(2, 1, "move 0 change 0,1 while count=2;"), 1);
        for (int count = 0; count < 4; count++) {
            x.heap(0, count);
            due.is("by a count of " + count, x.can(0, 0), count == 2 ? 0 : NONE);
        }
    }

    private static void whileOfOneActAlone(Due due) {
        GameOfNoes x = Games.board(Games.withBook(2, 1, "move 0 change 0,1 while 1=2;move 0 change 0,2;move 1 change 0,1;"), 1);
        due.is("the act without while", x.can(0, 2), 1);
        due.is("another move", x.can(1, 2), 2);
    }

    private static void to(Due due) {
        GameOfNoes x = Games.board(Games.withBook(4, 1, "move 0 step 0,3;move 1 leap 0,1;move 2 push 0,1;move 3 change 0,1;"), 0, 1, 5, 0);
        due.is("of step the place beside", x.can(0, 1), 0);
        due.is("of leap the one behind", x.can(1, 1), 3);
        due.is("of push the place of what is pushed", x.can(2, 1), 2);
        due.is("of change the same", x.can(3, 1), 1);
    }

    private static void noActs(Due due) {
        GameOfNoes x = Games.board(Games.withBook(2, 1, "move 3 change 0,1;"), 1);
        for (int move = 0; move < 8; move++) due.is("move " + move, x.can(move, 0), move == 3 ? 0 : NONE);
    }

    private static void fromTheLastPlace(Due due) {
        GameOfNoes x = Games.withBook(4, 3, "move 0 change 0,1;");
        for (int place = 0; place < 12; place++) {
            Games.board(x, 2, 2, 2, 2, 5, 5, 5, 5, 0, 0, 0, 0);
            x.piece(place, 0, 0);
            due.is("from " + place, x.can(0, 0), place);
        }
    }

    private static void fromNoPlace(Due due) {
        GameOfNoes x = Games.board(Games.withBook(4, 3, "move 0 change 0,1;"), 2, 3, 4, 5, 6, 7, 8, 0, 2, 3, 4, 5);
        due.is("from none", x.can(0, 0), NONE);
        due.is("from none of an empty board", Games.withBook(4, 3, "move 0 change 0,1;").can(0, 0), NONE);
    }

    private static GameOfNoes byPlace(String sum) {
        return Games.board(Games.withBook(4, 1, "move 0 change 0,1;place " + sum + ";"), 1, 1, 1, 1);
    }

    private static void greatestPlace(Due due) {
        due.is("by from", byPlace("from").can(0, 0), 3);
        due.is("by -from", byPlace("-from").can(0, 0), 0);
        due.is("in the middle", byPlace("from*(5-2*from)").can(0, 0), 1);
    }

    private static void greatestBelowZero(Due due) {
        due.is("all are below 0", byPlace("from-9").can(0, 0), 3);
        due.is("0 is the greatest", byPlace("-(2-from)*(2-from)").can(0, 0), 2);
    }

    private static void placeAsItIs(Due due) {
        // 0 leaps over its own, 4 over the other's: behind that theirs would be less, but as it is both are alike.
        GameOfNoes x = Games.board(Games.withBook(4, 2, "move 0 leap 0,1;place -theirs;"), 1, 2, 0, 0, 1, 5, 0, 0);
        due.is("by theirs ahead of the leap", x.can(0, 0), 0);
        GameOfNoes y = Games.board(Games.withBook(2, 1, "move 0 change 0,1;place count*from;"), 1, 1);
        due.is("by a count of 0", y.can(0, 0), 0);
        y.heap(0, 1);
        due.is("by a count of 1", y.can(0, 0), 1);
    }

    private static void placesThatCanDoItAlone(Due due) {
        GameOfNoes x = Games.board(byPlace("from"), 1, 1, 2, 5);
        due.is("neither another kind's nor the other side's", x.can(0, 0), 1);
        GameOfNoes y = Games.board(Games.withBook(4, 1, "move 0 change 0,1 while from<2;place from;"), 1, 1, 1, 1);
        due.is("nor one by which while isn't so", y.can(0, 0), 1);
    }

    private static void withoutPlace(Due due) {
        GameOfNoes x = Games.board(Games.withBook(4, 1, "move 0 change 0,1;offer from;refuse from;choose from;"), 2, 1, 1, 1);
        due.is("all are 0: the lowest", x.can(0, 0), 1);
    }

    private static void likePlaces(Due due) {
        due.is("all alike", byPlace("7").can(0, 0), 0);
        due.is("two alike", byPlace("from/2").can(0, 0), 2);
        due.is("two that aren't neighbours", byPlace("-from*(3-from)").can(0, 0), 0);
    }

    private static void likePlacesAtTheLimit(Due due) {
        due.is("beyond the limit all are alike", byPlace("9999*9999+from").can(0, 0), 0);
    }

    private static void firstAct(Due due) {
        GameOfNoes x = Games.board(Games.withBook(3, 1, "move 0 step 0,1;offer 1;move 0 change 0,2;move 0 change 0,1;"), 1, 0, 0);
        due.is("the first clause", x.can(0, 2), 0);
        Games.board(x, 1, 5, 0);
        due.is("the first that can be done", x.can(0, 2), 2);
        GameOfNoes y = Games.board(Games.withBook(3, 1, "move 0 change 0,2 while from=1;move 0 change 0,1;"), 1, 1, 0);
        due.is("from the lowest place first, by another act", y.can(0, 0), 0);
        due.is("its act", y.can(0, 2), 1);
    }

    private static void placeByTheFirstActsTo(Due due) {
        // 0 comes to 4 by its first act and 2 to 3; by its second act 0 would come to 1 and be the greater one.
        GameOfNoes x = Games.board(Games.withBook(4, 2, "move 0 step 0,2 while from=0;move 0 step 0,1;place -to;"), 1, 0, 1, 0);
        due.is("not by a later act", x.can(0, 0), 2);
        // 0 can't do the first act, so it comes to 1; it would be the greater one by coming to 4.
        GameOfNoes y = Games.board(Games.withBook(4, 2, "move 0 step 0,2;move 0 step 0,1;place to;"), 1, 0, 1, 0, 5, 0, 5, 0);
        due.is("not by an earlier act that can't be done", y.can(0, 0), 2);
    }

    private static void canOfEach(Due due) {
        GameOfNoes x = Games.board(Games.withBook(4, 3, "never 1=1;move 7 step 3,0;"), 0, 0, 0, 0, 0, 0, 0, 0, 0, 0, 0, 4);
        due.is("from", x.can(7, 0), 11);
        due.is("to", x.can(7, 1), 7);
        due.is("clause", x.can(7, 2), 1);
    }

    private static void canForTheTurn(Due due) {
        GameOfNoes x = Games.board(Games.withBook(2, 1, "move 0 change 0,1;"), 1, 5);
        due.is("of side 0", x.can(0, 0), 0);
        x.turn(1);
        due.is("of side 1", x.can(0, 0), 1);
    }

    private static void canByACountOfZero(Due due) {
        GameOfNoes x = Games.board(Games.withBook(2, 1, "move 0 change 0,1;"), 1);
        for (int count = 0; count < 4; count++) {
            x.heap(0, count);
            due.is("by a count of " + count, x.can(0, 0), 0);
        }
    }

    private static void clauseAmongAll(Due due) {
        GameOfNoes x = Games.board(Games.withBook(2, 1, "place 0;offer 0;refuse 0;choose 0;never 0=1;move 1 change 0,1;move 0 change 0,1;"), 1);
        due.is("the 6th clause", x.can(1, 2), 5);
        due.is("the 7th clause", x.can(0, 2), 6);
    }

    private static void cannot(Due due) {
        GameOfNoes x = Games.board(Games.withBook(2, 1, "move 0 change 1,0;"), 1);
        for (int what = 0; what < 3; what++) due.is("can(0, " + what + ")", x.can(0, what), NONE);
        GameOfNoes y = new GameOfNoes(2, 1);
        for (int what = 0; what < 3; what++) due.is("new: can(0, " + what + ")", y.can(0, what), NONE);
    }

    private static void canOfNoMove(Due due) {
        GameOfNoes x = Games.flips(Games.flipsOf(0, 1, 6, 7));
        for (int move : new int[] {-1, 8, 9, 32, 39, LEAST, MOST}) {
            for (int what = 0; what < 3; what++) due.is("can(" + move + ", " + what + ")", x.can(move, what), NONE);
        }
    }

    private static void canOfNoWhat(Due due) {
        GameOfNoes x = Games.flips(Games.FLIPS);
        for (int what : new int[] {-1, 3, 4, LEAST, MOST}) due.is("can(0, " + what + ")", x.can(0, what), NONE);
    }
}
