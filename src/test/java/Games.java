/** Games that the tests set up, and what they ask of them in one go. */
final class Games {
    static final int NONE = GameOfNoes.NONE;
    static final int SPENT = GameOfNoes.SPENT;
    /** Moves 0 to 2 can be done by whoever has a piece of kind 0 or 1, for ever. */
    static final String FLIPS = flipsOf(0, 1, 2);
    static final String FLIPS_4 = flipsOf(0, 1, 2, 3);

    private Games() {
    }

    static String flipsOf(int... moves) {
        StringBuilder text = new StringBuilder();
        for (int move : moves) text.append("move ").append(move).append("change0,1;move ").append(move).append("change1,0;");
        return text.toString();
    }

    static GameOfNoes withBook(int w, int h, String book) {
        GameOfNoes x = new GameOfNoes(w, h);
        if (Due.tell(x, book) != 0) throw new IllegalArgumentException("a fault in a test's book: " + book);
        x.book(0);
        return x;
    }

    /** Sets all places from 0 on, each told as about tells it: 0 empty, else 1 + kind + 4 side. */
    static GameOfNoes board(GameOfNoes x, int... cells) {
        for (int place = 0; place < cells.length; place++) {
            int told = cells[place] - 1;
            x.piece(place, told < 0 ? NONE : told % 4, told < 0 ? 0 : told / 4);
        }
        return x;
    }

    static GameOfNoes heap(GameOfNoes x, int... counts) {
        for (int move = 0; move < counts.length; move++) x.heap(move, counts[move]);
        return x;
    }

    /** A 2 by 1 board with a piece of kind 0 of each side, a book, and a heap from move 0 on. */
    static GameOfNoes flips(String book, int... counts) {
        return heap(board(withBook(2, 1, book), 1, 5), counts);
    }

    /** The counts of some moves from 0 on, as the digits of a number behind a 1. */
    static long heapOf(GameOfNoes x, int moves) {
        long told = 1;
        for (int move = 0; move < moves; move++) told = 10 * told + x.about(10 + move);
        return told;
    }

    /** The places as about tells them, as the digits of a number behind a 1. */
    static long boardOf(GameOfNoes x) {
        long told = 1;
        for (int place = 0; place < x.about(0) * x.about(1); place++) told = 10 * told + x.about(20 + place);
        return told;
    }

    /** All that can be asked of how things stand. */
    static String standOf(GameOfNoes x) {
        StringBuilder told = new StringBuilder();
        for (int what = 0; what < 32; what++) told.append(x.about(what)).append(' ');
        return told.append(x.fault(0)).append(' ').append(x.fault(1)).toString();
    }

    /** A game of far too many states: two pieces with much room, and seven moves. */
    static GameOfNoes spent() {
        GameOfNoes x = withBook(4, 3, "move 0 step 0,0;move 1 step 0,1;move 2 step 0,2;move 3 step 0,3;" + flipsOf(4, 5, 6));
        x.piece(5, 0, 0);
        x.piece(7, 0, 1);
        return heap(x, 2, 2, 2, 2, 2, 2, 2, 2);
    }

    /** The winner of a drawn game of moves that can always be done, X going on in its row. */
    static int drawnByHand(int[] x, int... counts) {
        int[] heap = counts.clone();
        for (int plies = 0; ; plies++) {
            java.util.List<int[]> offers = new java.util.ArrayList<>();
            for (int a = 0; a < heap.length; a++) {
                for (int b = a + 1; b < heap.length; b++) {
                    for (int c = b + 1; c < heap.length; c++) {
                        if (heap[a] > 0 && heap[b] > 0 && heap[c] > 0) offers.add(new int[] {a, b, c});
                    }
                }
            }
            if (offers.isEmpty()) return plies % 2;
            if (plies == 30) return NONE;
            int[] offer = offers.get(x[0] % offers.size());
            x[0] = (x[0] * 157 + 53) % 30113;
            int no = x[0] % 3;
            x[0] = (x[0] * 157 + 53) % 30113;
            int done = x[0] % 2 == 0 ? (no == 0 ? 1 : 0) : no == 2 ? 1 : 2;
            x[0] = (x[0] * 157 + 53) % 30113;
            heap[offer[no]] = Math.min(3, heap[offer[no]] + 1);
            heap[offer[done]]--;
        }
    }
}
