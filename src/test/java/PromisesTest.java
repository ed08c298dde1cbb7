/** Each promise of the document by itself: ordinary inputs, the edges that it names, and wrong inputs. */
public final class PromisesTest {
    private static final String FLIPS = Games.FLIPS;
    private static final String FLIPS_4 = Games.FLIPS_4;
    private static final int NONE = GameOfNoes.NONE;
    private static final int SPENT = GameOfNoes.SPENT;

    private final Due due = new Due("PromisesTest");

    public static void main(String[] args) {
        PromisesTest test = new PromisesTest();
        test.newObject();
        test.piece();
        test.heap();
        test.turn();
        test.feed();
        test.end();
        test.text();
        test.faultOfPlaces();
        test.faultOfNumbers();
        test.faultOfDepth();
        test.faultOfClauses();
        test.book();
        test.way();
        test.canStep();
        test.canLeapAndPush();
        test.canChange();
        test.canByPlace();
        test.canByWhile();
        test.sums();
        test.offers();
        test.play();
        test.playActs();
        test.run();
        test.runByNever();
        test.won();
        test.ply();
        test.judge();
        test.again();
        test.match();
        test.drawn();
        test.states();
        test.best();
        test.good();
        test.loses();
        test.line();
        test.runs();
        test.balanced();
        test.imageAndBack();
        test.about();
        test.due.finish();
    }

    private static GameOfNoes flips(String book, int... heap) {
        return Games.flips(book, heap);
    }

    private static GameOfNoes withBook(int w, int h, String book) {
        return Games.withBook(w, h, book);
    }

    private void isFault(String text, int fault, int place) {
        GameOfNoes x = new GameOfNoes(2, 1);
        due.is("text() of " + text, Due.tell(x, text), fault == 0 ? 0 : NONE);
        due.is("fault(0) of " + text, x.fault(0), fault);
        due.is("fault(1) of " + text, x.fault(1), place);
    }

    /** What a sum comes to, seen by the place that a move is done from: 9 on the left if so, else on the right. */
    private void isSum(String sum, int value) {
        GameOfNoes x = withBook(2, 1, "move 0 change 0,1 while " + sum + "=" + (value < 0 ? "-" + -(long) value : "" + value) + ";");
        due.is("fault(0) of " + sum, x.fault(0), 0);
        x.piece(1, 0, 0);
        x.heap(0, 2);
        due.is(sum + " = " + value, x.can(0, 0), 1);
    }

    private void isSo(String either, boolean so) {
        GameOfNoes x = withBook(2, 1, "move 3 change 0,1 while " + either + ";");
        due.is("fault(0) of " + either, x.fault(0), 0);
        x.piece(1, 0, 0);
        x.piece(0, 0, 1);
        due.is(either, x.can(3, 0), so ? 1 : NONE);
    }

    private void newObject() {
        int[][] sizes = {{3, 2, 3, 2}, {2, 1, 2, 1}, {4, 3, 4, 3}, {1, 0, 2, 1}, {5, 4, 4, 3},
            {Integer.MIN_VALUE, Integer.MAX_VALUE, 2, 3}, {Integer.MAX_VALUE, Integer.MIN_VALUE, 4, 1}};
        for (int[] s : sizes) {
            GameOfNoes x = new GameOfNoes(s[0], s[1]);
            due.is("W of " + s[0], x.about(0), s[2]);
            due.is("H of " + s[1], x.about(1), s[3]);
        }
        GameOfNoes x = new GameOfNoes(3, 2);
        for (int what = 2; what < 26; what++) {
            int want = what == 4 || what == 5 || what == 6 ? NONE : what == 9 || what == 18 || what == 19 ? -2 : 0;
            due.is("new: about(" + what + ")", x.about(what), want);
        }
        x.piece(0, 0, 0);
        x.heap(1, 3);
        x.turn(1);
        due.is("back() to the new object", x.back(), 0);
        due.is("about(20) behind it", x.about(20), 0);
        due.is("about(11) behind it", x.about(11), 0);
        due.is("about(2) behind it", x.about(2), 0);
        due.is("NONE", GameOfNoes.NONE, -1);
        due.is("SPENT", GameOfNoes.SPENT, -2);
    }

    private void piece() {
        GameOfNoes x = new GameOfNoes(3, 2);
        for (int kind = 0; kind < 4; kind++) {
            for (int side = 0; side < 2; side++) {
                due.is("piece", x.piece(5, kind, side), true);
                due.is("about(25)", x.about(25), 1 + kind + 4 * side);
            }
        }
        int[][] others = {{6, 0, 0}, {-1, 0, 0}, {5, 4, 0}, {5, -2, 0}, {5, 0, 2}, {5, 0, -1}, {6, -1, 0}, {-1, -1, 0}};
        for (int[] o : others) due.is("wrong piece", x.piece(o[0], o[1], o[2]), false);
        due.is("about(25) as before", x.about(25), 8);
        due.is("piece(5, NONE, 7)", x.piece(5, NONE, 7), true);
        due.is("about(25) empty", x.about(25), 0);
        due.is("piece(5, NONE, 0) once more", x.piece(5, NONE, 0), true);
    }

    private void heap() {
        GameOfNoes x = new GameOfNoes(2, 1);
        for (int move = 0; move < 8; move++) due.is("heap", x.heap(move, move % 4), true);
        for (int move = 0; move < 8; move++) due.is("count", x.about(10 + move), move % 4);
        due.is("heap(8, 0)", x.heap(8, 0), false);
        due.is("heap(-1, 0)", x.heap(-1, 0), false);
        due.is("heap(3, 4)", x.heap(3, 4), false);
        due.is("heap(3, -1)", x.heap(3, -1), false);
        due.is("about(13)", x.about(13), 3);
    }

    private void turn() {
        GameOfNoes x = new GameOfNoes(2, 1);
        due.is("turn(1)", x.turn(1), true);
        due.is("about(2)", x.about(2), 1);
        due.is("turn(2)", x.turn(2), false);
        due.is("turn(-1)", x.turn(-1), false);
        due.is("about(2) still", x.about(2), 1);
        due.is("turn(0)", x.turn(0), true);
        due.is("about(2) again", x.about(2), 0);
    }

    private void feed() {
        GameOfNoes x = new GameOfNoes(2, 1);
        for (int i = 1; i <= 15; i++) due.is("feed", x.feed(0, -1, 1, 2, 3), 20 * i);
        due.is("the 16th feed", x.feed(0, 0, 0, 0, 0), NONE);
        due.is("about(8)", x.about(8), 300);
        x.end(281);
        due.is("feed on 281", x.feed(0, 0, 0, 0, 0), NONE);
        due.is("about(8) of 281", x.about(8), 281);
        x.end(280);
        due.is("feed on 280", x.feed(0, 0, 0, 0, 0), 300);
        // The highest byte of a comes first, the lowest of e last.
        GameOfNoes y = new GameOfNoes(2, 1);
        y.feed(0x6e657665, 0x7220313d, 0x313b6e65, 0x76657220, 0x323d323b);
        due.is("text() of never 1=1;never 2=2;", y.text(), 0);
        y.feed(0x20202020, 0x20202020, 0x20202020, 0x20202020, 0x20202021);
        due.is("text() of ! behind blanks", y.text(), NONE);
        due.is("fault(1)", y.fault(1), 19);
        y.feed(0x80202020, 0x20202020, 0x20202020, 0x20202020, 0x20202020);
        due.is("text() of a byte above 127", y.text(), NONE);
        due.is("fault(0)", y.fault(0), 1);
        due.is("fault(1)", y.fault(1), 0);
    }

    private void end() {
        GameOfNoes x = new GameOfNoes(2, 1);
        due.is("end(0)", x.end(0), 0);
        due.is("end(1) of none", x.end(1), NONE);
        x.feed(1, 2, 3, 4, 5);
        due.is("end(21)", x.end(21), NONE);
        due.is("end(-1)", x.end(-1), NONE);
        due.is("about(8)", x.about(8), 20);
        due.is("end(20)", x.end(20), 20);
        due.is("end(7)", x.end(7), 7);
        due.is("end(8)", x.end(8), NONE);
        due.is("feed", x.feed(1, 2, 3, 4, 5), 27);
    }

    private void text() {
        GameOfNoes x = new GameOfNoes(2, 1);
        due.is("text() of nothing", x.text(), 0);
        due.is("fault(0) of nothing", x.fault(0), 0);
        due.is("blanks", Due.tell(x, " \n \n"), 1);
        due.is("a fault", Due.tell(x, "place"), NONE);
        due.is("the tape behind a fault", x.about(8), 0);
        due.is("the texts behind a fault", x.about(3), 2);
        for (int i = 2; i < 6; i++) due.is("text", Due.tell(x, "place 1;"), i);
        due.is("the tape behind a text", x.about(8), 0);
        Due.tape(x, "place x;");
        due.is("the 7th", x.text(), NONE);
        due.is("the tape stays", x.about(8), 8);
        due.is("it was not read", x.fault(0), 0);
        due.is("about(3)", x.about(3), 6);
        // What was read into the same room before leaves nothing behind.
        GameOfNoes y = new GameOfNoes(2, 1);
        y.piece(0, 0, 0);
        for (int i = 0; i < 12; i++) {
            due.is("a fault again", Due.tell(y, "move 0 change 0,1;place 1+2+3+4+5+6+7+8+9+10+11+12+13+14+15+16+17+18+19+20;x"), NONE);
        }
        due.is("text behind faults", Due.tell(y, "move 1 change 0,2 while 1+2+3+4=10;move 2 change 0,2 while 1=2;"), 0);
        y.book(0);
        due.is("move 0 isn't there", y.can(0, 0), NONE);
        due.is("move 1 is", y.can(1, 2), 0);
        due.is("move 2 is asked", y.can(2, 0), NONE);
        isFault("move0step0,1;move\n1 leap 2 , 3while(1)<-1;place-1;offer side;refuse to;choose from;never not mine#theirs;", 0, NONE);
        isFault("never 1<2 and 1<=2 or 1>2 and 1>=2 or 1=2 and not 1#2;never(1)=2;never-1=-(-2)*3/4+5-6;", 0, NONE);
    }

    private void faultOfPlaces() {
        GameOfNoes x = new GameOfNoes(2, 1);
        due.is("fault(0) ahead of any", x.fault(0), NONE);
        due.is("fault(1) ahead of any", x.fault(1), NONE);
        Due.tell(x, "place 1;");
        due.is("fault(0) without", x.fault(0), 0);
        due.is("fault(1) without", x.fault(1), NONE);
        due.is("fault(2)", x.fault(2), NONE);
        due.is("fault(-1)", x.fault(-1), NONE);
        isFault("move 0 step 0,1", 1, 15);
        isFault("move 0 step 0,1  \n", 1, 18);
        isFault("place", 1, 5);
        isFault(";", 1, 0);
        isFault("  step 0,1;", 1, 2);
        isFault("Place 1;", 1, 0);
        isFault("places 1;", 1, 0);
        isFault("placea 1;", 1, 0);
        isFault("placez 1;", 1, 0);
        isFault("placeA 1;", 1, 0);
        isFault("placeZ 1;", 1, 0);
        isFault("place`1;", 1, 5);
        isFault("place{1;", 1, 5);
        isFault("place@1;", 1, 5);
        isFault("place[1;", 1, 5);
        isFault("place:1;", 1, 5);
        isFault("place 1:;", 1, 7);
        isFault("place 1.;", 1, 7);
        isFault("place 1\r;", 1, 7);
        isFault("plac", 1, 0);
        isFault("place 0123456789;", 2, 6);
        isFault("never 1<", 1, 8);
        isFault("never 1>", 1, 8);
        isFault("place 1", 1, 7);
        isFault("place 1 2;", 1, 8);
        isFault("place 1+;", 1, 8);
        isFault("place +1;", 1, 6);
        isFault("place (1;", 1, 8);
        isFault("place 1);", 1, 7);
        isFault("place ();", 1, 7);
        isFault("place 1<2;", 1, 7);
        isFault("place not 1;", 1, 6);
        isFault("place offer;", 1, 6);
        isFault("place 1!;", 1, 7);
        isFault("place 1\t;", 1, 7);
        isFault("never 1;", 1, 7);
        isFault("never (1<2);", 1, 8);
        isFault("never 1<2<3;", 1, 9);
        isFault("never 1< =2;", 1, 9);
        isFault("never 1=<2;", 1, 8);
        isFault("never 1=2 and;", 1, 13);
        isFault("never 1=2 not 1=2;", 1, 10);
        isFault("never 1=2 or", 1, 12);
        isFault("offer 1 while 1=1;", 1, 8);
        isFault("move step 0,1;", 1, 5);
        isFault("move 0 hop 0,1;", 1, 7);
        isFault("move 0 step,1;", 1, 11);
        isFault("move 0 step 0 1;", 1, 14);
        isFault("move 0 step 0,;", 1, 14);
        isFault("move 0 step 0,1 when 1=1;", 1, 16);
        isFault("move 0 step 0,1 while;", 1, 21);
        isFault("move 0 step 0,-1;", 1, 14);
    }

    private void faultOfNumbers() {
        isFault("place 9999;", 0, NONE);
        isFault("place 10000;", 2, 6);
        isFault("place 0000000000000009999;", 0, NONE);
        isFault("place 99999999999999999999;", 2, 6);
        isFault("place 4294967296;", 2, 6);
        isFault("never 1=10000", 2, 8);
        isFault("move 7 step 3,3;", 0, NONE);
        isFault("move 8 step 3,3;", 2, 5);
        isFault("move 10000 step 3,3;", 2, 5);
        isFault("move 7 push 4,3;", 2, 12);
        isFault("move 7 change 3,4;", 2, 16);
        isFault("move 7 change 3,3 while 7=7;", 0, NONE);
        // Where no number can stand, that is the least fault of it.
        isFault("place 1 10000;", 1, 8);
        isFault("10000", 1, 0);
    }

    private void faultOfDepth() {
        isFault("place ((((((((1))))))));", 0, NONE);
        isFault("place (((((((((1)))))))));", 3, 14);
        isFault("place --------1;", 0, NONE);
        isFault("place ---------1;", 3, 14);
        isFault("never not not not not not not not not 1=1;", 0, NONE);
        isFault("never not not not not not not not not not 1=1;", 3, 38);
        isFault("never not not not not(-(-1))<-(-(1));", 0, NONE);
        isFault("never not not not not(-(-1))<-(-((1)));", 3, 33);
        // What is closed again doesn't count, nor does a minus between two.
        isFault("place (1)-(1)-(1)-(1)-(1)-(1)-(1)-(1)-(1)-(1);", 0, NONE);
        isFault("place -1-1--1-1-(-1)--1-1-1-1-1-1-1-1-1;", 0, NONE);
        isFault("never not not not not not not not not 1=1 and not not not not not not not not 1=1;", 0, NONE);
        isFault("place ((((((((1)+(2)))))-(((3)))-1)));", 0, NONE);
        isFault("place ((((((((1-1)+(-2))))))));", 3, 20);
    }

    private void faultOfClauses() {
        for (String type : new String[] {"place", "offer", "refuse", "choose"}) {
            isFault(type + " 1;never 1=1;" + type + " 2;", 4, type.length() + 13);
            isFault(type + " 1;" + type, 4, type.length() + 3);
        }
        isFault("place 1;offer 1;refuse 1;choose 1;never 1=1;never 1=1;", 0, NONE);
        String twenty = "never 1=1;".repeat(20);
        isFault(twenty, 0, NONE);
        isFault(twenty + "never 1=1;", 5, 200);
        isFault(twenty + " place", 5, 201);
        isFault(twenty + "x", 1, 200);
        String nineteen = "never 1=1;".repeat(19);
        isFault(nineteen + "place 1;place 1;", 4, 198);
        isFault(nineteen + "place 1;offer 1;", 5, 198);
    }

    private void book() {
        GameOfNoes x = new GameOfNoes(2, 1);
        due.is("book(0) without texts", x.book(0), false);
        Due.tell(x, "move 0 change 0,1;");
        Due.tell(x, "offer 1;move 0 change 0,2;");
        x.piece(0, 0, 0);
        due.is("can without a book", x.can(0, 0), NONE);
        due.is("book(1)", x.book(1), true);
        due.is("about(4)", x.about(4), 1);
        due.is("the clause counts among all of the text", x.can(0, 2), 1);
        due.is("book(0)", x.book(0), true);
        due.is("can(0, 2)", x.can(0, 2), 0);
        due.is("book(2)", x.book(2), false);
        due.is("book(-2)", x.book(-2), false);
        due.is("about(4)", x.about(4), 0);
        due.is("book(NONE)", x.book(NONE), true);
        due.is("about(4)", x.about(4), NONE);
        due.is("can(0, 2)", x.can(0, 2), NONE);
    }

    private void way() {
        GameOfNoes x = new GameOfNoes(2, 1);
        due.is("way(0, 0) without texts", x.way(0, 0), false);
        Due.tell(x, "offer 1;");
        due.is("way(0, 0)", x.way(0, 0), true);
        due.is("about(5)", x.about(5), 0);
        due.is("about(6)", x.about(6), NONE);
        due.is("way(1, 0)", x.way(1, 0), true);
        due.is("about(6)", x.about(6), 0);
        due.is("way(0, NONE)", x.way(0, NONE), true);
        due.is("about(5)", x.about(5), NONE);
        due.is("way(2, 0)", x.way(2, 0), false);
        due.is("way(-1, 0)", x.way(-1, 0), false);
        due.is("way(0, 1)", x.way(0, 1), false);
        due.is("way(1, -2)", x.way(1, -2), false);
        due.is("about(6)", x.about(6), 0);
    }

    private void canStep() {
        GameOfNoes x = withBook(3, 3, "move 0 step 0,0;move 1 step 0,1;move 2 step 0,2;move 3 step 0,3;");
        x.piece(4, 0, 0);
        int[] to = {1, 5, 7, 3};
        for (int move = 0; move < 4; move++) {
            due.is("from", x.can(move, 0), 4);
            due.is("to", x.can(move, 1), to[move]);
            due.is("clause", x.can(move, 2), move);
        }
        x.piece(5, 0, 1);
        due.is("into a piece", x.can(1, 0), NONE);
        x.piece(4, NONE, 0);
        x.piece(0, 0, 0);
        due.is("off the board upwards", x.can(0, 0), NONE);
        due.is("off the board to the left", x.can(3, 0), NONE);
        due.is("along the edge", x.can(1, 1), 1);
        x.piece(0, NONE, 0);
        x.piece(2, 0, 0);
        due.is("off the board to the right, not into the next row", x.can(1, 0), NONE);
        x.piece(2, NONE, 0);
        x.piece(8, 0, 0);
        due.is("off the board downwards", x.can(2, 0), NONE);
        due.is("a move without acts", x.can(4, 0), NONE);
        due.is("can(8, 0)", x.can(8, 0), NONE);
        due.is("can(-1, 0)", x.can(-1, 0), NONE);
        due.is("can(3, 3)", x.can(3, 3), NONE);
        due.is("can(3, -1)", x.can(3, -1), NONE);
        x.turn(1);
        due.is("the other side's piece", x.can(3, 0), 5);
        x.piece(5, 1, 1);
        due.is("a piece of another kind", x.can(3, 0), NONE);
    }

    private void canLeapAndPush() {
        GameOfNoes x = withBook(4, 1, "move 0 leap 0,1;move 1 push 0,1;move 2 leap 0,3;move 3 push 0,3;");
        x.piece(0, 0, 0);
        due.is("leap over nothing", x.can(0, 0), NONE);
        due.is("push nothing", x.can(1, 0), NONE);
        for (int side = 0; side < 2; side++) {
            x.piece(1, 1, side);
            due.is("leap from", x.can(0, 0), 0);
            due.is("leap to", x.can(0, 1), 2);
            due.is("push from", x.can(1, 0), 0);
            due.is("push to", x.can(1, 1), 1);
        }
        x.piece(2, 2, 1);
        due.is("leap into a piece", x.can(0, 0), NONE);
        due.is("push into a piece", x.can(1, 0), NONE);
        x.piece(2, NONE, 0);
        x.piece(0, 1, 0);
        x.piece(1, 0, 0);
        due.is("leap off the board", x.can(2, 0), NONE);
        due.is("push off the board", x.can(3, 0), NONE);
    }

    private void canChange() {
        GameOfNoes x = withBook(2, 1, "move 0 change 2,2;move 1 change 2,3;");
        x.piece(1, 2, 0);
        due.is("into its own kind", x.can(0, 0), NONE);
        due.is("from", x.can(1, 0), 1);
        due.is("to", x.can(1, 1), 1);
    }

    private void canByPlace() {
        String acts = "move 0 step 0,2;move 0 step 0,1;move 0 change 1,0;";
        GameOfNoes x = withBook(4, 2, acts);
        for (int place = 0; place < 4; place++) x.piece(place, 0, 0);
        due.is("without place the lowest", x.can(0, 0), 0);
        x.piece(4, 1, 1);
        due.is("still the lowest, by its first act that can be done", x.can(0, 0), 1);
        x.piece(1, NONE, 0);
        due.is("the second act of 0", x.can(0, 0), 0);
        due.is("the clause", x.can(0, 2), 1);
        due.is("TO", x.can(0, 1), 1);
        GameOfNoes y = withBook(4, 2, acts + "place to;");
        for (int place = 0; place < 4; place++) y.piece(place, 0, 0);
        due.is("the greatest to", y.can(0, 0), 3);
        y.piece(7, 2, 1);
        due.is("the greatest to that is left", y.can(0, 0), 2);
        y.piece(3, NONE, 0);
        // 2 steps down to 6 by its first act, although it could step to 3 too.
        due.is("TO of the first act", y.can(0, 1), 6);
        GameOfNoes z = withBook(4, 2, "place -(from-1)*(from-1)*count-mine+move;" + acts);
        for (int place = 0; place < 4; place++) z.piece(place, 0, 0);
        due.is("all alike by count 0: the lowest", z.can(0, 0), 0);
        z.heap(0, 1);
        due.is("by count 1 the second", z.can(0, 0), 1);
        due.is("its clause, behind place", z.can(0, 2), 1);
        z.piece(1, NONE, 0);
        due.is("of like ones the lowest", z.can(0, 0), 0);
    }

    private void canByWhile() {
        GameOfNoes x = withBook(4, 1, "move 5 change 0,1 while count=2;move 5 change 0,2 while from=2 and to=2;"
            + "move 6 step 0,1 while to=3;move 7 change 0,3 while mine=2 and theirs=1 and side=0 and move=7;");
        x.piece(0, 0, 0);
        x.piece(2, 0, 0);
        x.piece(1, 0, 1);
        due.is("by from", x.can(5, 0), 2);
        due.is("its clause", x.can(5, 2), 1);
        x.heap(5, 2);
        due.is("by count", x.can(5, 0), 0);
        due.is("its clause", x.can(5, 2), 0);
        due.is("by to", x.can(6, 0), 2);
        due.is("by mine, theirs, side and move", x.can(7, 0), 0);
        x.turn(1);
        due.is("for the other side", x.can(7, 0), NONE);
        x.turn(0);
        x.piece(3, 1, 1);
        due.is("with one more of theirs", x.can(7, 0), NONE);
    }

    private void sums() {
        isSum("1+2*3", 7);
        isSum("(1+2)*3", 9);
        isSum("9-3-2", 4);
        isSum("100/7/2", 7);
        isSum("7/2*2", 6);
        isSum("7*2/3", 4);
        isSum("-7/2", -3);
        isSum("7/-2", -3);
        isSum("-7/-2", 3);
        isSum("5/0", 0);
        isSum("-5/0+1", 1);
        isSum("0/0", 0);
        isSum("1--1", 2);
        isSum("---1", -1);
        isSum("-2*-3", 6);
        isSum("9999*9999/1000", 1000);
        isSum("-9999*9999/1000", -1000);
        isSum("(9999*9999-9999*9999+7)", 7);
        isSum("(9999*100+100)/1000", 1000);
        isSum("(9999*100+99)/1000", 999);
        isSum("(9999*100+9999-9999)/1000", 990);
        isSum("(-9999*9999-9999)/1000", -1000);
        isSum("9999*9999*9999*9999/9999", 100);
        isSum("from+10*to+100*mine+1000*theirs", 111);
        isSum("count+10*move+side", 2);
        isSo("1<2", true);
        isSo("2<2", false);
        isSo("2<=2", true);
        isSo("3<=2", false);
        isSo("3>2", true);
        isSo("2>2", false);
        isSo("2>=2", true);
        isSo("1>=2", false);
        isSo("2=2", true);
        isSo("1=2", false);
        isSo("1#2", true);
        isSo("2#2", false);
        isSo("not 1<2", false);
        isSo("not 2<=2", false);
        isSo("not 3>2", false);
        isSo("not 2>=2", false);
        isSo("not 1#2", false);
        isSo("not 2<1", true);
        isSo("1<2 and 1=1", true);
        isSo("1<=2 and 1=1", true);
        isSo("2>1 and 1=1", true);
        isSo("2>=1 and 1=1", true);
        isSo("1#2 and 1=1", true);
        isSo("not 1=1", false);
        isSo("not not 1=1", true);
        isSo("1=1 or 1=1 and 1=2", true);
        isSo("1=2 and 1=1 or 1=1", true);
        isSo("1=2 and 1=1 or 1=2", false);
        isSo("not 1=2 and 1=2", false);
        isSo("not 1=1 or 1=1", true);
        isSo("1=2 or 1=2 or mine=1", true);
        isSo("1=1 and 1=1 and move=2", false);
    }

    private void offers() {
        GameOfNoes x = flips(FLIPS_4, 1, 1, 1, 1);
        int[] all = {12, 13, 23, 123};
        due.is("offers(NONE)", x.offers(NONE), 4);
        for (int i = 0; i < 4; i++) due.is("offers(" + i + ")", x.offers(i), all[i]);
        due.is("offers(4)", x.offers(4), NONE);
        due.is("offers(-2)", x.offers(-2), NONE);
        due.is("offers(int's least)", x.offers(Integer.MIN_VALUE), NONE);
        x.heap(1, 0);
        due.is("with a count of 0", x.offers(NONE), 1);
        due.is("offers(0)", x.offers(0), 23);
        x.heap(1, 3);
        x.heap(4, 3);
        due.is("a move without acts is in none", x.offers(NONE), 4);
        x.heap(0, 0);
        x.heap(1, 0);
        due.is("two moves", x.offers(NONE), 0);
        due.is("offers(0) of none", x.offers(0), NONE);
        StringBuilder eight = new StringBuilder();
        for (int move = 0; move < 8; move++) eight.append("move ").append(move).append(" change 0,1;");
        GameOfNoes y = flips(eight.toString(), 1, 1, 1, 1, 1, 1, 1, 1);
        due.is("of eight", y.offers(NONE), 56);
        due.is("the last one", y.offers(55), 567);
        due.is("the 22nd", y.offers(21), 123);
    }

    private void play() {
        GameOfNoes x = flips(FLIPS_4, 1, 3, 2, 0);
        int[][] wrong = {{0, 1, 2, 3, 1}, {0, 1, 2, 0, 3}, {0, 1, 2, 1, 1}, {0, 2, 1, 0, 1}, {0, 1, 3, 0, 1}, {0, 0, 1, 0, 1},
            {0, 1, 8, 0, 1}, {-1, 0, 1, 0, 1}, {0, 1, 2, -1, 0}, {0, 1, 2, 0, 32}, {32, 33, 34, 32, 33}, {0, 1, 2, 32, 1}};
        for (int[] w : wrong) due.is("play that can't be", x.play(w[0], w[1], w[2], w[3], w[4]), false);
        due.is("nothing is done", x.about(10) + 10 * x.about(11) + 100 * x.about(12) + 1000 * x.about(20) + 10000 * x.about(2), 1231);
        due.is("play(0, 1, 2, 1, 2)", x.play(0, 1, 2, 1, 2), true);
        due.is("the no stays at 3", x.about(11), 3);
        due.is("what was done is one less", x.about(12), 1);
        due.is("the third one stays", x.about(10), 1);
        due.is("the turn", x.about(2), 1);
        due.is("the piece changed", x.about(20), 2);
        due.is("play(0, 1, 2, 0, 1)", x.play(0, 1, 2, 0, 1), true);
        due.is("the no is one more", x.about(10), 2);
        due.is("done", x.about(11), 2);
        due.is("the other's piece changed", x.about(21), 6);
        due.is("the turn", x.about(2), 0);
    }

    private void playActs() {
        String book = "move 0 step 0,1;move 1 leap 0,1;move 2 push 0,1;move 0 change 1,0;move 1 change 1,3;move 2 change 1,2;";
        for (int side = 0; side < 2; side++) {
            GameOfNoes x = withBook(4, 1, book);
            for (int move = 0; move < 3; move++) x.heap(move, 2);
            x.piece(0, 0, 0);
            x.piece(1, 3, side);
            x.piece(3, 1, 0);
            // Move 0 is the change of 3, as 0 can't step; the others go from 0.
            x.image();
            due.is("leap", x.play(0, 1, 2, 0, 1), true);
            due.is("leapt away", x.about(20), 0);
            due.is("over its own, or the other's, which is taken", x.about(21), side == 0 ? 4 : 0);
            due.is("leapt to", x.about(22), 1);
            x.back();
            due.is("push", x.play(0, 1, 2, 0, 2), true);
            due.is("pushed away", x.about(20), 0);
            due.is("pushed to", x.about(21), 1);
            due.is("what was pushed", x.about(22), 4 + 4 * side);
            x.back();
            due.is("change", x.play(0, 1, 2, 2, 0), true);
            due.is("changed", x.about(23), 1);
            x.back();
            x.piece(1, NONE, 0);
            due.is("step", x.play(0, 1, 2, 2, 0), true);
            due.is("stepped away", x.about(20), 0);
            due.is("stepped to", x.about(21), 1);
        }
    }

    private void run() {
        GameOfNoes x = flips(FLIPS_4, 2, 2, 2, 2);
        due.is("run(0)", x.run(0), NONE);
        due.is("run(100)", x.run(100), NONE);
        due.is("run(-1)", x.run(-1), NONE);
        due.is("run(1)", x.run(1), 1);
        // Without ways: the lowest offer, a no to its lowest, of the others the lowest.
        due.is("no to 0", x.about(10), 3);
        due.is("1 is done", x.about(11), 1);
        due.is("2 stays", x.about(12), 2);
        GameOfNoes y = flips(FLIPS_4, 1, 1, 2, 3);
        due.is("way 1", Due.tell(y, "offer count;refuse -count;choose move*(move-1);"), 1);
        due.is("way 2", Due.tell(y, "refuse count;"), 2);
        y.way(0, 1);
        y.way(1, 2);
        // Side 0 offers 0 2 3 (6 in all, the lowest of like ones); 3 is refused; of 0 and 2 the 2 is chosen.
        due.is("run(1) by ways", y.run(1), 1);
        due.is("heap 0", y.about(10), 1);
        due.is("heap 1", y.about(11), 1);
        due.is("heap 2", y.about(12), 1);
        due.is("heap 3", y.about(13), 3);
        // Side 1 offers 0 1 2 without an offer clause; side 0 refuses the least count, of like ones 0; 1 is done.
        due.is("run(1) of the other side", y.run(1), 1);
        due.is("heap 0", y.about(10), 2);
        due.is("heap 1", y.about(11), 0);
        GameOfNoes z = flips(FLIPS, 1, 1, 1);
        due.is("run(5) to the end", z.run(5), 1);
        due.is("run(5) behind the end", z.run(5), 0);
        due.is("run(99) behind the end", z.run(99), 0);
    }

    private void runByNever() {
        GameOfNoes x = flips(FLIPS_4, 2, 2, 2, 2);
        due.is("never 0", Due.tell(x, "never move=0;"), 1);
        due.is("never 0 or 3", Due.tell(x, "never move=0;never move=3;offer -move;"), 2);
        x.way(0, 1);
        x.image();
        x.run(1);
        // 1 2 3 are offered: no to 1, 2 is done.
        due.is("0 is left out", x.about(10) + 10 * x.about(11) + 100 * x.about(12) + 1000 * x.about(13), 2132);
        x.back();
        x.way(0, 2);
        x.run(1);
        due.is("none is left out, if three others aren't left", x.about(10) + 10 * x.about(11) + 100 * x.about(12), 213);
        x.back();
        x.way(0, NONE);
        x.way(1, 1);
        x.run(1);
        due.is("the other side's way leaves none out", x.about(10) + 10 * x.about(11) + 100 * x.about(12), 213);
    }

    private void won() {
        GameOfNoes x = flips(FLIPS, 1, 1, 1);
        due.is("not over", x.won(), NONE);
        x.heap(2, 0);
        due.is("over", x.won(), 0);
        x.turn(1);
        due.is("for the side whose turn it is", x.won(), 1);
        x.heap(2, 3);
        due.is("not over", x.won(), NONE);
        x.piece(1, NONE, 0);
        due.is("nothing to move with", x.won(), 1);
    }

    private void ply() {
        GameOfNoes x = new GameOfNoes(2, 1);
        for (int i = 1; i <= 40; i++) due.is("ply", x.ply(7, 7, 7, 0, 7), i);
        due.is("the 41st", x.ply(0, 1, 2, 0, 1), NONE);
        due.is("about(7)", x.about(7), 40);
        due.is("ply(NONE, ..)", x.ply(NONE, 99, -5, 8, 8), 0);
        due.is("about(7)", x.about(7), 0);
        int[][] wrong = {{8, 1, 2, 0, 1}, {-2, 1, 2, 0, 1}, {0, -1, 2, 0, 1}, {0, 8, 2, 0, 1}, {0, 1, 8, 0, 1}, {0, 1, -1, 0, 1},
            {0, 1, 2, 8, 1}, {0, 1, 2, -1, 1}, {0, 1, 2, 0, 8}, {0, 1, 2, 0, -1}};
        for (int[] w : wrong) due.is("wrong ply", x.ply(w[0], w[1], w[2], w[3], w[4]), NONE);
        due.is("about(7)", x.about(7), 0);
    }

    private void judge() {
        GameOfNoes x = flips(FLIPS, 2, 2, 2);
        due.is("judge() of none", x.judge(), NONE);
        x.ply(0, 1, 2, 0, 1);
        x.ply(0, 1, 2, 0, 2);
        due.is("both can be", x.judge(), NONE);
        x.ply(0, 1, 2, 0, 2);
        due.is("all three can be", x.judge(), NONE);
        x.ply(0, 1, 2, 0, 1);
        due.is("not behind the end", x.judge(), 3);
        due.is("it was tried only", x.about(10) + 10 * x.about(11) + 100 * x.about(12) + 1000 * x.about(2), 222);
        x.ply(NONE, 0, 0, 0, 0);
        x.ply(0, 1, 2, 1, 1);
        due.is("a no to what is done", x.judge(), 0);
        x.ply(NONE, 0, 0, 0, 0);
        x.ply(0, 1, 2, 0, 1);
        x.ply(1, 0, 2, 0, 1);
        due.is("out of order", x.judge(), 1);
        x.play(0, 1, 2, 0, 1);
        due.is("from now on", x.judge(), 1);
        x.heap(0, 0);
        due.is("from now on, that is over", x.judge(), 0);
    }

    private void again() {
        GameOfNoes x = flips(FLIPS, 2, 2, 2);
        due.is("again() of none", x.again(), NONE);
        x.ply(0, 1, 2, 0, 1);
        x.ply(0, 1, 2, 1, 0);
        x.ply(0, 1, 2, 0, 1);
        due.is("not yet", x.again(), NONE);
        x.ply(0, 1, 2, 1, 0);
        due.is("the board and the heap come again", x.again(), NONE);
        x.ply(0, 1, 2, 2, 1);
        // Behind it the board is as behind the first, but 2 2 2 has come to 2 1 3, not 3 1 2.
        due.is("by another heap", x.again(), 4);
        x.ply(0, 1, 2, 2, 0);
        due.is("the first such one", x.again(), 4);
        GameOfNoes forty = flips(FLIPS, 2, 2, 2);
        for (int i = 0; i < 39; i++) forty.ply(0, 1, 2, i % 2, 1 - i % 2);
        due.is("39 plies", forty.again(), NONE);
        due.is("the 40th", forty.ply(0, 1, 2, 2, 0), 40);
        due.is("all 40 can be", forty.judge(), NONE);
        due.is("again by the 40th", forty.again(), 39);
        GameOfNoes y = flips(FLIPS, 2, 2, 2);
        y.ply(0, 1, 2, 0, 1);
        y.ply(0, 1, 2, 0, 2);
        y.ply(0, 1, 2, 0, 3);
        y.ply(0, 1, 2, 0, 2);
        due.is("not behind what can't be", y.again(), NONE);
        y.ply(NONE, 0, 0, 0, 0);
        y.ply(0, 1, 2, 0, 1);
        y.ply(0, 1, 2, 2, 1);
        y.ply(0, 1, 2, 0, 2);
        due.is("behind the end", y.again(), NONE);
        GameOfNoes z = flips(FLIPS_4, 2, 2, 2, 2);
        z.ply(0, 1, 2, 0, 1);
        z.ply(0, 1, 2, 1, 2);
        z.ply(0, 1, 3, 3, 0);
        z.ply(0, 1, 3, 0, 1);
        due.is("as ahead of the first one", z.again(), 3);
        due.is("it was tried only", z.about(10) + 10 * z.about(11) + 100 * z.about(12) + 1000 * z.about(2), 222);
    }

    private void match() {
        GameOfNoes x = flips(FLIPS, 2, 2, 2);
        // 2 2 2, no to 0 and 1 done each time: 3 1 2, 3 0 2: side 0 has won.
        due.is("match(99, 0)", x.match(99, 0), 0);
        due.is("match(99, 1)", x.match(99, 1), 2);
        due.is("match(2, 0), behind the last", x.match(2, 0), 0);
        due.is("match(1, 0)", x.match(1, 0), NONE);
        due.is("match(1, 1)", x.match(1, 1), 1);
        int[][] wrong = {{0, 0}, {100, 1}, {-1, 0}, {5, 2}, {5, -1}};
        for (int[] w : wrong) due.is("wrong match", x.match(w[0], w[1]), -2);
        due.is("it was tried only", x.about(11), 2);
        x.heap(0, 0);
        due.is("won ahead of the first", x.match(9, 0), 0);
        due.is("in no plies", x.match(9, 1), 0);
        // Saying no to what has most and doing what has most of the rest, four moves go on and on.
        GameOfNoes y = flips(FLIPS_4, 2, 2, 2, 2);
        Due.tell(y, "refuse -count;choose count;offer count;");
        y.way(0, 1);
        y.way(1, 1);
        due.is("for ever", y.match(99, 0), NONE);
        due.is("all plies", y.match(99, 1), 99);
    }

    private void drawn() {
        GameOfNoes x = flips(FLIPS, 1, 1, 1);
        due.is("side 1 wins each", x.drawn(0, 20, 1), 20);
        due.is("side 0 none", x.drawn(9999, 1, 0), 0);
        int[][] wrong = {{-1, 1, 0}, {10000, 1, 0}, {0, 0, 0}, {0, 21, 0}, {0, 1, 2}, {0, 1, -1}};
        for (int[] w : wrong) due.is("wrong drawn", x.drawn(w[0], w[1], w[2]), NONE);
        // Seed 0 of 3 1 1: X is 9, 1466, 19424: no to 2, 0 is done: 2 1 2. 8208, 23963, 28232: the same: 1 1 3.
        // 5866, 17625, 26895: no to 0, 2 is done: 2 1 2. 6748, 5534, 25727: no to 2, 1 is done: 2 0 3: side 0 has won.
        GameOfNoes y = flips(FLIPS, 3, 1, 1);
        due.is("drawn(0, 1, 0)", y.drawn(0, 1, 0), 1);
        due.is("drawn(0, 1, 1)", y.drawn(0, 1, 1), 0);
        // Eight moves with counts of 3 go on for some thirty plies: some end just then.
        StringBuilder eight = new StringBuilder();
        for (int move = 0; move < 8; move++) eight.append("move ").append(move).append("change0,1;move ").append(move).append("change1,0;");
        GameOfNoes z = flips(eight.toString(), 3, 3, 3, 3, 3, 3, 3, 3);
        int[] ends = new int[3];
        for (int seed = 0; seed < 160; seed++) {
            int winner = byHand(seed, 3, 3, 3, 3, 3, 3, 3, 3);
            ends[winner + 1]++;
            due.is("eight moves, side 0 by seed " + seed, z.drawn(seed, 1, 0), winner == 0 ? 1 : 0);
            due.is("eight moves, side 1 by seed " + seed, z.drawn(seed, 1, 1), winner == 1 ? 1 : 0);
        }
        due.is("some end by then, some don't", ends[0] > 0 && ends[1] > 0 && ends[2] > 0, true);
        for (int seed = 0; seed < 40; seed++) {
            int winner = byHand(seed, 3, 2, 2);
            y.heap(0, 3);
            y.heap(1, 2);
            y.heap(2, 2);
            due.is("side 0 by seed " + seed, y.drawn(seed, 1, 0), winner == 0 ? 1 : 0);
            due.is("side 1 by seed " + seed, y.drawn(seed, 1, 1), winner == 1 ? 1 : 0);
        }
        due.is("it was tried only", y.about(10) + 10 * y.about(11) + 100 * y.about(12), 223);
    }

    private static int byHand(int seed, int... heap) {
        return Games.drawnByHand(new int[] {seed * 7 + 9}, heap);
    }

    private static GameOfNoes spent() {
        return Games.spent();
    }

    private void states() {
        GameOfNoes x = flips(FLIPS, 1, 1, 1);
        // Now, and six by which of 0 1 2 is refused and done, all of which end it.
        due.is("states()", x.states(), 7);
        x.heap(0, 0);
        due.is("states() of what is over", x.states(), 1);
        due.is("SPENT", spent().states(), SPENT);
        due.is("a new object", new GameOfNoes(2, 1).states(), 1);
        // Behind back, number 1 means another text.
        GameOfNoes y = flips(FLIPS, 1, 1, 1);
        y.image();
        Due.tell(y, FLIPS_4);
        y.book(1);
        due.is("by the first text 1", y.states(), 7);
        y.back();
        Due.tell(y, "move 0 change 0,1;");
        y.book(1);
        due.is("by the second text 1", y.states(), 1);
        y.book(0);
        y.heap(0, 2);
        due.is("by another heap", y.states(), 48);
        for (int move = 0; move < 3; move++) y.heap(move, 0);
        y.piece(0, NONE, 0);
        y.piece(1, NONE, 0);
        due.is("of an empty board and heap", y.states(), 1);
        due.is("of more", flips(FLIPS_4, 3, 3, 3, 3).states(), fourFlips());
    }

    /** How many states four moves that only change the two pieces have, from 3 3 3 3 on. */
    private static int fourFlips() {
        java.util.Set<Integer> all = new java.util.HashSet<>();
        java.util.List<Integer> list = new java.util.ArrayList<>();
        list.add(255);
        all.add(255);
        for (int i = 0; i < list.size(); i++) {
            // Two bits a count, then a bit for the kind of each piece, then the turn.
            int state = list.get(i);
            int able = 0;
            for (int m = 0; m < 4; m++) able += (state >> 2 * m & 3) > 0 ? 1 : 0;
            for (int pair = 0; pair < 16 && able >= 3; pair++) {
                int no = pair / 4;
                int done = pair % 4;
                if (no == done || (state >> 2 * no & 3) == 0 || (state >> 2 * done & 3) == 0) continue;
                int next = state - (1 << 2 * done) + ((state >> 2 * no & 3) == 3 ? 0 : 1 << 2 * no);
                next ^= 256 << (state >> 10) ^ 1024;
                if (all.add(next)) list.add(next);
            }
        }
        return list.size();
    }

    private void best() {
        GameOfNoes x = flips(FLIPS, 1, 1, 1);
        due.is("lost", x.best(0), 2);
        due.is("in 1", x.best(1), 1);
        due.is("best(2)", x.best(2), -3);
        due.is("best(-1)", x.best(-1), -3);
        x.heap(1, 0);
        due.is("won", x.best(0), 1);
        due.is("in 0", x.best(1), 0);
        x.heap(1, 2);
        // 1 2 1: a no to 1 leaves 0 or 2, and both end it.
        due.is("lost again", x.best(0), 2);
        due.is("in 1 again", x.best(1), 1);
        // 1 1 1 1: whatever is refused and done, the other side has 2 1 1 left, and a no to the 2 ends it.
        GameOfNoes z = flips(FLIPS_4, 1, 1, 1, 1);
        due.is("won in more", z.best(0), 1);
        due.is("in 2", z.best(1), 2);
        due.is("SPENT", spent().best(0), SPENT);
        due.is("SPENT too", spent().best(1), SPENT);
        due.is("for others -3 all the same", spent().best(2), -3);
        GameOfNoes y = flips(FLIPS_4, 2, 2, 2, 2);
        due.is("open", y.best(0), 0);
        due.is("in none", y.best(1), NONE);
        due.is("nothing is done by it", y.about(10) + 10 * y.about(2), 2);
    }

    private void good() {
        GameOfNoes x = flips(FLIPS_4, 1, 1, 1, 1);
        due.is("good(NONE)", x.good(NONE), 4);
        due.is("good(0)", x.good(0), 12);
        due.is("good(2)", x.good(2), 23);
        due.is("good(3)", x.good(3), 123);
        due.is("good(4)", x.good(4), NONE);
        due.is("good(-2)", x.good(-2), NONE);
        x.heap(0, 2);
        due.is("as many as lose by each no", x.good(NONE), goodByLoses(x));
        x.heap(3, 0);
        due.is("none is good", x.good(NONE), 0);
        due.is("good(0) of none", x.good(0), NONE);
        due.is("SPENT", spent().good(NONE), SPENT);
        due.is("SPENT too", spent().good(0), SPENT);
        due.is("good(-2) all the same", spent().good(-2), NONE);
    }

    /** How many offers lose by each no. */
    private static int goodByLoses(GameOfNoes x) {
        int found = 0;
        for (int i = 0; i < x.offers(NONE); i++) {
            int told = x.offers(i);
            int[] offer = {told / 100, told / 10 % 10, told % 10};
            found += x.loses(offer[0], offer[1], offer[2]) == (1 << offer[0] | 1 << offer[1] | 1 << offer[2]) ? 1 : 0;
        }
        return found;
    }

    private void loses() {
        GameOfNoes four = flips(FLIPS_4, 1, 1, 1, 1);
        due.is("each no loses", four.loses(0, 1, 2), 7);
        due.is("each no of others loses", four.loses(0, 2, 3), 13);
        GameOfNoes x = flips(FLIPS, 1, 2, 1);
        // 1 2 1: a no to 0 or to 2 lets 1 be done: 2 1 1 or 1 1 2, by which the other one loses.
        due.is("a no to 0 or 2", x.loses(0, 1, 2), 5);
        x.heap(1, 1);
        due.is("none", x.loses(0, 1, 2), 0);
        int[][] wrong = {{0, 2, 1}, {0, 1, 3}, {0, 1, 1}, {-1, 0, 1}, {0, 1, 8}, {32, 33, 34}};
        for (int[] w : wrong) due.is("no offer", x.loses(w[0], w[1], w[2]), NONE);
        x.heap(1, 0);
        due.is("no offer is left", x.loses(0, 1, 2), NONE);
        due.is("SPENT", spent().loses(0, 1, 2), SPENT);
        due.is("no offer all the same", spent().loses(0, 1, 7), NONE);
    }

    private void line() {
        GameOfNoes x = flips(FLIPS_4, 1, 1, 1, 1);
        // All noes and choices take as long, so all is the lowest; then, of 2 0 1 1, a no to 0 ends it.
        int[][] due2 = {{0, 1, 2, 0, 1}, {0, 2, 3, 0, 2}};
        for (int i = 0; i < 2; i++) {
            for (int what = 0; what < 5; what++) due.is("line(" + i + ", " + what + ")", x.line(i, what), due2[i][what]);
        }
        due.is("line(2, 0)", x.line(2, 0), NONE);
        due.is("line(-1, 0)", x.line(-1, 0), NONE);
        due.is("line(0, 5)", x.line(0, 5), NONE);
        due.is("line(0, -1)", x.line(0, -1), NONE);
        x.heap(0, 0);
        x.heap(1, 0);
        due.is("won in 0", x.line(0, 0), NONE);
        due.is("open", flips(FLIPS_4, 2, 2, 2, 2).line(0, 0), NONE);
        due.is("SPENT", spent().line(0, 0), SPENT);
        due.is("others all the same", spent().line(0, 5), NONE);
        // A no to 1 would leave both others at 0: of 1 2 1 that is the only one by which both are won.
        GameOfNoes y = flips(FLIPS, 1, 2, 1);
        due.is("the no", y.line(0, 3), 1);
        due.is("of like ones the lowest", y.line(0, 4), 0);
    }

    private void runs() {
        due.is("it ends", flips(FLIPS, 1, 1, 1).runs(), 0);
        due.is("it can go on", flips(FLIPS, 2, 2, 2).runs(), 1);
        due.is("over", new GameOfNoes(2, 1).runs(), 0);
        due.is("SPENT", spent().runs(), SPENT);
        // Kinds only rise here, so no board comes again.
        GameOfNoes x = flips("move 0 change 0,1;move 1 change 0,1;move 2 change 0,1;move 0 change 1,2;move 1 change 1,2;"
            + "move 2 change 1,2;", 3, 3, 3);
        due.is("it ends by the board", x.runs(), 0);
        GameOfNoes y = flips(FLIPS, 2, 2, 2);
        due.is("asked twice", y.runs() + 10 * y.runs() + 100 * y.best(0), 11);
    }

    private void balanced() {
        GameOfNoes x = flips(FLIPS_4, 2, 2, 2, 2);
        int least = NONE;
        for (int count = 3; count >= 0; count--) {
            if (flips(FLIPS, 2, 1, count).best(0) == 0) least = count;
        }
        // 2 1 0 is over and 2 1 1 is lost.
        due.is("by a count of 2 or 3", least >= 2, true);
        due.is("balanced(2) of 2 1 .", flips(FLIPS, 2, 1, 0).balanced(2), least);
        due.is("balanced(2)", x.balanced(2), 0);
        // Move 2 can be done only by a count of 3, so by less there is no offer.
        GameOfNoes three = flips("move 0 change 0,1;move 0 change 1,0;move 1 change 0,1;move 1 change 1,0;"
            + "move 2 change 0,1 while count=3;move 2 change 1,0 while count=3;", 3, 3, 0);
        due.is("by a count of 3", three.balanced(2), 3);
        due.is("the heap stays", x.about(12), 2);
        due.is("a move that can't be done", x.balanced(7), 0);
        due.is("none", flips(FLIPS, 1, 1, 1).balanced(0), NONE);
        due.is("balanced(8)", x.balanced(8), NONE);
        due.is("balanced(-1)", x.balanced(-1), NONE);
        due.is("SPENT ones aside", spent().balanced(7), NONE);
        due.is("best behind it is of now", x.best(0), 0);
    }

    private void imageAndBack() {
        GameOfNoes x = new GameOfNoes(3, 1);
        Due.tell(x, "offer 1;");
        x.piece(0, 1, 0);
        x.piece(1, 2, 1);
        x.heap(4, 2);
        x.turn(1);
        x.book(0);
        x.way(0, 0);
        x.ply(1, 2, 3, 1, 2);
        due.is("image()", x.image(), 2);
        Due.tell(x, "offer 2;");
        x.piece(2, 0, 0);
        x.piece(0, NONE, 0);
        x.piece(1, 3, 0);
        x.heap(4, 0);
        x.turn(0);
        x.book(1);
        x.way(0, NONE);
        x.way(1, 1);
        x.ply(NONE, 0, 0, 0, 0);
        x.ply(0, 0, 0, 0, 0);
        x.ply(0, 0, 0, 0, 0);
        Due.tell(x, "place");
        Due.tape(x, "abc");
        due.is("back()", x.back(), 2);
        int[] abouts = {3, 1, 1, 1, 0, 0, NONE, 1, 3};
        for (int what = 0; what < abouts.length; what++) due.is("about(" + what + ")", x.about(what), abouts[what]);
        due.is("heap", x.about(14), 2);
        due.is("place 0", x.about(20), 2);
        due.is("place 1", x.about(21), 7);
        due.is("place 2", x.about(22), 0);
        due.is("the latest fault stays", x.fault(0), 1);
        due.is("its place too", x.fault(1), 5);
        due.is("text 1 is gone", x.book(1), false);
        x.end(0);
        due.is("and its number free", Due.tell(x, "offer 3;"), 1);
        x.piece(2, 0, 0);
        due.is("the image stays", x.back(), 2);
        due.is("about(3)", x.about(3), 1);
        x.piece(2, 0, 0);
        due.is("a new image", x.image(), 3);
        x.piece(2, NONE, 0);
        due.is("back to it", x.back(), 3);
        // The plies of the image are its own.
        GameOfNoes y = flips(FLIPS, 2, 2, 2);
        y.ply(0, 1, 2, 0, 1);
        y.image();
        y.ply(NONE, 0, 0, 0, 0);
        y.ply(0, 2, 1, 0, 1);
        due.is("another game", y.judge(), 0);
        y.back();
        due.is("the image's game", y.judge(), NONE);
    }

    private void about() {
        GameOfNoes x = new GameOfNoes(4, 2);
        int[] others = {-1, 9, 18, 19, 28, 29, 30, 100, Integer.MAX_VALUE, Integer.MIN_VALUE};
        for (int what : others) due.is("about(" + what + ")", x.about(what), -2);
        for (int place = 0; place < 8; place++) x.piece(place, place % 4, place / 4);
        for (int place = 0; place < 8; place++) due.is("place", x.about(20 + place), 1 + place);
        x.heap(7, 3);
        due.is("about(17)", x.about(17), 3);
        x.feed(0, 0, 0, 0, 0);
        due.is("about(8)", x.about(8), 20);
        x.ply(0, 0, 0, 0, 0);
        due.is("about(7)", x.about(7), 1);
    }
}
