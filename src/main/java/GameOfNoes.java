import java.util.Arrays;

/**
 * A game of noes: three moves are offered out of a heap, one is refused, one of the other two is done.
 * The document (shared/DOC.md) says what each call answers; words in capitals here are its terms.
 */
public final class GameOfNoes {
    public static final int NONE = -1;
    public static final int SPENT = -2;

    private static final int OTHER = -2;
    private static final int OTHER_BEST = -3;
    private static final int MOVES = 8;
    private static final int KINDS = 4;
    private static final int DIRECTIONS = 4;
    private static final int MOST_PLACES = 12;
    private static final int MOST_COUNT = 3;
    private static final int TEXTS = 6;
    private static final int MOST_BYTES = 300;
    private static final int MOST_PLIES = 40;
    private static final int PLY = 5;
    private static final int MOST_RUN = 99;
    private static final int DRAWN_PLIES = 30;
    private static final int MOST_DRAWN = 20;
    private static final int MOST_SEED = 9999;

    private static final int WON = 1;
    private static final int LOST = 2;

    // The TOKENS. Words first, in the order in which Reader.WORDS has them; the NAMES ahead of the others.
    private static final int MOVE = 0;
    private static final int COUNT = 1;
    private static final int FROM = 2;
    private static final int TO = 3;
    private static final int MINE = 4;
    private static final int THEIRS = 5;
    private static final int SIDE = 6;
    private static final int STEP = 7;
    private static final int LEAP = 8;
    private static final int PUSH = 9;
    private static final int CHANGE = 10;
    private static final int WHILE = 11;
    private static final int PLACE = 12;
    private static final int OFFER = 13;
    private static final int REFUSE = 14;
    private static final int CHOOSE = 15;
    private static final int NEVER = 16;
    private static final int AND = 17;
    private static final int OR = 18;
    private static final int NOT = 19;
    private static final int NUMBER = 20;
    private static final int LESS = 21;
    private static final int AT_MOST = 22;
    private static final int MORE = 23;
    private static final int AT_LEAST = 24;
    private static final int LIKE = 25;
    private static final int UNLIKE = 26;
    private static final int PLUS = 27;
    private static final int MINUS = 28;
    private static final int TIMES = 29;
    private static final int OVER = 30;
    private static final int OPENING = 31;
    private static final int CLOSING = 32;
    private static final int COMMA = 33;
    private static final int SEMICOLON = 34;
    private static final int TAPE_END = 35;
    private static final int NO_TOKEN = 36;
    private static final int NEGATE = 37;

    private final int width;
    private final int height;
    private final Stand now = new Stand();
    private final Stand kept = new Stand();
    private final Rules[] texts = new Rules[TEXTS];
    private final Rules noRules = new Rules();
    private final Reader reader = new Reader();
    private final Triples triples = new Triples();
    private final Options options;
    private final Players players;
    private final States states;
    private final BestPlay bestPlay;
    private final Position tried = new Position();
    private final long[] pastBoards = new long[MOST_PLIES + 1];
    private final int[] pastHeaps = new int[MOST_PLIES + 1];
    private int chance;

    public GameOfNoes(int w, int h) {
        width = Math.max(2, Math.min(4, w));
        height = Math.max(1, Math.min(3, h));
        for (int i = 0; i < TEXTS; i++) {
            texts[i] = new Rules();
        }
        Sums sums = new Sums();
        options = new Options(width, height, sums);
        players = new Players(options, sums, triples);
        states = new States(options);
        bestPlay = new BestPlay(states, triples);
    }

    public boolean piece(int place, int kind, int side) {
        if (place < 0 || place >= width * height) {
            return false;
        }
        if (kind == NONE) {
            now.position.setCell(place, 0);
            return true;
        }
        if (kind < 0 || kind >= KINDS || !isSide(side)) {
            return false;
        }
        now.position.setCell(place, 1 + kind + KINDS * side);
        return true;
    }

    public boolean heap(int move, int count) {
        if (!isMove(move) || count < 0 || count > MOST_COUNT) {
            return false;
        }
        now.position.setCount(move, count);
        return true;
    }

    public boolean turn(int side) {
        if (!isSide(side)) {
            return false;
        }
        now.position.turn = side;
        return true;
    }

    public int feed(int a, int b, int c, int d, int e) {
        if (reader.length + 20 > MOST_BYTES) {
            return NONE;
        }
        reader.append(a);
        reader.append(b);
        reader.append(c);
        reader.append(d);
        reader.append(e);
        return reader.length;
    }

    public int end(int n) {
        if (n < 0 || n > reader.length) {
            return NONE;
        }
        reader.length = n;
        return n;
    }

    public int text() {
        if (now.texts < 0 || now.texts >= TEXTS) {
            return NONE;
        }
        reader.read(texts[now.texts]);
        if (reader.fault != 0) {
            return NONE;
        }
        now.texts++;
        return now.texts - 1;
    }

    public int fault(int what) {
        switch (what) {
            case 0: return reader.fault;
            case 1: return reader.faultPlace;
            default: return NONE;
        }
    }

    public boolean book(int text) {
        if (!isTextOrNone(text)) {
            return false;
        }
        now.book = text;
        return true;
    }

    public boolean way(int side, int text) {
        if (!isSide(side) || !isTextOrNone(text)) {
            return false;
        }
        now.ways[side] = text;
        return true;
    }

    public int can(int move, int what) {
        if (!isMove(move)) {
            return NONE;
        }
        options.look(now.position, rules(now.book), 1 << move);
        if (options.able == 0) {
            return NONE;
        }
        switch (what) {
            case 0: return options.from[move];
            case 1: return options.to[move];
            case 2: return options.clause[move];
            default: return NONE;
        }
    }

    public int offers(int i) {
        options.look(now.position, rules(now.book), now.position.stock());
        return triples.pick(options.able, i);
    }

    public boolean play(int a, int b, int c, int no, int done) {
        return told(now.position, Triples.bitsOf(a, b, c), no, done);
    }

    public int run(int n) {
        return n < 1 || n > MOST_RUN ? NONE : byWays(now.position, n);
    }

    public int won() {
        return winner(now.position);
    }

    public int ply(int a, int b, int c, int no, int done) {
        if (a == NONE) {
            now.plies = 0;
            return 0;
        }
        boolean fits = isMove(a) && isMove(b) && isMove(c) && isMove(no) && isMove(done);
        if (!fits || now.plies >= MOST_PLIES) {
            return NONE;
        }
        int at = now.plies * PLY;
        now.game[at] = a;
        now.game[at + 1] = b;
        now.game[at + 2] = c;
        now.game[at + 3] = no;
        now.game[at + 4] = done;
        now.plies++;
        return now.plies;
    }

    public int judge() {
        tried.take(now.position);
        for (int i = 0; i < now.plies; i++) {
            if (!tryPly(i)) {
                return i;
            }
        }
        return NONE;
    }

    public int again() {
        tried.take(now.position);
        remember(0);
        for (int i = 0; i < now.plies && i < MOST_PLIES; i++) {
            if (!tryPly(i)) {
                return NONE;
            }
            remember(i + 1);
            if (cameByAnotherHeap(i + 1)) {
                return i;
            }
        }
        return NONE;
    }

    public int match(int n, int what) {
        if (n < 1 || n > MOST_RUN || what < 0 || what > 1) {
            return OTHER;
        }
        tried.take(now.position);
        int plies = byWays(tried, n);
        return what == 1 ? plies : winner(tried);
    }

    public int drawn(int seed, int n, int side) {
        if (seed < 0 || seed > MOST_SEED || n < 1 || n > MOST_DRAWN || !isSide(side)) {
            return NONE;
        }
        chance = seed * 7 + 9;
        int wins = 0;
        for (int game = 0; game < n; game++) {
            if (drawnWinner() == side) {
                wins++;
            }
        }
        return wins;
    }

    public int states() {
        return solved(now.position) ? states.size : SPENT;
    }

    public int best(int what) {
        if (what < 0 || what > 1) {
            return OTHER_BEST;
        }
        if (!solved(now.position)) {
            return SPENT;
        }
        return what == 0 ? bestPlay.result[0] : bestPlay.length[0];
    }

    public int good(int i) {
        if (i < NONE) {
            return NONE;
        }
        return solved(now.position) ? bestPlay.pickGood(i) : SPENT;
    }

    public int loses(int a, int b, int c) {
        int bits = Triples.bitsOf(a, b, c);
        if (isOver(now.position) || bits == 0 || (bits & options.able) != bits) {
            return NONE;
        }
        return solved(now.position) ? bestPlay.losingNoes(0, bits) : SPENT;
    }

    public int line(int i, int what) {
        if (i < 0 || what < 0 || what >= PLY) {
            return NONE;
        }
        return solved(now.position) ? bestPlay.lineAt(i, what) : SPENT;
    }

    public int runs() {
        if (!solved(now.position)) {
            return SPENT;
        }
        return bestPlay.hasCircle() ? 1 : 0;
    }

    public int balanced(int move) {
        if (!isMove(move)) {
            return NONE;
        }
        tried.take(now.position);
        for (int count = 0; count <= MOST_COUNT; count++) {
            tried.setCount(move, count);
            if (solved(tried) && bestPlay.result[0] == 0) {
                return count;
            }
        }
        return NONE;
    }

    public int image() {
        kept.take(now);
        return piecesNow();
    }

    public int back() {
        now.take(kept);
        // The numbers of TEXTS behind the image are free again, so a BOOK's number may come to mean another one.
        states.forget();
        return piecesNow();
    }

    public int about(int what) {
        switch (what) {
            case 0: return width;
            case 1: return height;
            case 2: return now.position.turn;
            case 3: return now.texts;
            case 4: return now.book;
            case 5: return now.ways[0];
            case 6: return now.ways[1];
            case 7: return now.plies;
            case 8: return reader.length;
            default: break;
        }
        if (what >= 10 && what < 10 + MOVES) {
            return now.position.count(what - 10);
        }
        if (what >= 20 && what < 20 + width * height) {
            return now.position.cell(what - 20);
        }
        return OTHER;
    }

    private static boolean isSide(int side) {
        return side == 0 || side == 1;
    }

    private static boolean isMove(int move) {
        return move >= 0 && move < MOVES;
    }

    private boolean isTextOrNone(int text) {
        return text >= NONE && text < now.texts;
    }

    private Rules rules(int text) {
        return text >= 0 && text < TEXTS ? texts[text] : noRules;
    }

    private int piecesNow() {
        return now.position.pieces(0) + now.position.pieces(1);
    }

    /** Finds out who wins from a position on, if that isn't known already; false: SPENT. */
    private boolean solved(Position position) {
        Rules book = rules(now.book);
        if (!states.isFrom(position, book)) {
            states.explore(position, book);
            if (!states.spent) {
                bestPlay.prepare();
                bestPlay.decideAll();
            }
        }
        return !states.spent;
    }

    /** Looks at a position; options tell behind it what can be offered there. */
    private boolean isOver(Position position) {
        options.look(position, rules(now.book), position.stock());
        return options.tooFew();
    }

    private int winner(Position position) {
        return isOver(position) ? position.turn : NONE;
    }

    /** Does one PLY, if it can be. */
    private boolean told(Position position, int bits, int no, int done) {
        if (!isMove(no) || !isMove(done) || isOver(position)) {
            return false;
        }
        int used = bits & (1 << no | 1 << done);
        if ((bits & options.able) != bits || Integer.bitCount(used) != 2) {
            return false;
        }
        options.advance(position, rules(now.book), no, done);
        return true;
    }

    private boolean tryPly(int i) {
        int at = i * PLY;
        if (at < 0 || at + PLY > now.game.length) {
            return false;
        }
        int bits = Triples.bitsOf(now.game[at], now.game[at + 1], now.game[at + 2]);
        return told(tried, bits, now.game[at + 3], now.game[at + 4]);
    }

    private void remember(int i) {
        pastBoards[i] = tried.boardAndTurn();
        pastHeaps[i] = tried.heap;
    }

    private boolean cameByAnotherHeap(int i) {
        for (int earlier = 0; earlier < i; earlier++) {
            if (pastBoards[earlier] == pastBoards[i] && pastHeaps[earlier] != pastHeaps[i]) {
                return true;
            }
        }
        return false;
    }

    private int byWays(Position position, int n) {
        for (int plies = 0; plies < n; plies++) {
            if (isOver(position)) {
                return plies;
            }
            int turn = position.turn;
            Rules own = rules(now.ways[turn]);
            Rules others = rules(now.ways[1 - turn]);
            players.decide(position, own, others);
            options.advance(position, rules(now.book), players.no, players.done);
        }
        return n;
    }

    private int drawnWinner() {
        tried.take(now.position);
        for (int plies = 0; plies < DRAWN_PLIES; plies++) {
            if (isOver(tried)) {
                return tried.turn;
            }
            int bits = triples.nth(options.able, draw(triples.count(options.able)));
            int no = Triples.member(bits, draw(3));
            int done = Triples.member(bits & ~(1 << no), draw(2));
            options.advance(tried, rules(now.book), no, done);
        }
        return winner(tried);
    }

    private int draw(int m) {
        int drawn = m > 0 ? chance % m : 0;
        chance = (chance * 157 + 53) % 30113;
        return drawn;
    }

    /** BOARD, HEAP and TURN packed into numbers, so that trying a game out means copying three of them. */
    private static final class Position {
        static final int TURN_AT = 4 * MOST_PLACES;

        // Four bits a PLACE: 0 empty, else 1 + KIND + 4 SIDE.
        long board;
        // Two bits a MOVE.
        int heap;
        int turn;

        Position() {
            board = 0;
            heap = 0;
            turn = 0;
        }

        void take(Position other) {
            board = other.board;
            heap = other.heap;
            turn = other.turn;
        }

        long boardAndTurn() {
            return board | (long) turn << TURN_AT;
        }

        void setBoardAndTurn(long both) {
            turn = (int) (both >>> TURN_AT);
            board = both & ((1L << TURN_AT) - 1);
        }

        int cell(int place) {
            return (int) (board >>> 4 * place) & 15;
        }

        void setCell(int place, int cell) {
            board = board & ~(15L << 4 * place) | (long) cell << 4 * place;
        }

        static int sideOf(int cell) {
            return cell == 0 ? NONE : (cell - 1) / KINDS;
        }

        int pieces(int side) {
            int found = 0;
            for (int place = 0; place < MOST_PLACES; place++) {
                if (sideOf(cell(place)) == side) {
                    found++;
                }
            }
            return found;
        }

        int count(int move) {
            return heap >>> 2 * move & 3;
        }

        void setCount(int move, int count) {
            heap = heap & ~(3 << 2 * move) | count << 2 * move;
        }

        /** The MOVES of which THE HEAP has one or more, as bits. */
        int stock() {
            int bits = 0;
            for (int move = 0; move < MOVES; move++) {
                if (count(move) > 0) {
                    bits |= 1 << move;
                }
            }
            return bits;
        }

        /** THE HEAP behind a NO to one MOVE and the doing of another one. */
        int heapBehind(int no, int done) {
            int behind = count(no) < MOST_COUNT ? heap + (1 << 2 * no) : heap;
            return count(done) > 0 ? behind - (1 << 2 * done) : behind;
        }
    }

    /** All that an image holds. */
    private static final class Stand {
        final Position position = new Position();
        final int[] ways = new int[2];
        final int[] game = new int[MOST_PLIES * PLY];
        int plies;
        int texts;
        int book;

        Stand() {
            plies = 0;
            texts = 0;
            book = NONE;
            ways[0] = NONE;
            ways[1] = NONE;
        }

        void take(Stand other) {
            position.take(other.position);
            ways[0] = other.ways[0];
            ways[1] = other.ways[1];
            System.arraycopy(other.game, 0, game, 0, game.length);
            plies = other.plies;
            texts = other.texts;
            book = other.book;
        }
    }

    /** One CLAUSE of a TEXT. Its SUM or EITHER is code of the TEXT; a move clause without while has none. */
    private static final class Clause {
        final int number;
        int type;
        int move;
        int act;
        int kind;
        // The DIRECTION of an ACT; of change the KIND that it leads to.
        int direction;
        int codeStart;
        int codeEnd;
        Clause nextOfMove;

        Clause(int clauseNumber) {
            number = clauseNumber;
        }

        boolean hasCode() {
            return codeEnd > codeStart;
        }
    }

    /** A TEXT that was read: its CLAUSES, and their SUMS as code for a stack of numbers. */
    private static final class Rules {
        static final int MOST_CLAUSES = 20;
        // Code below this is a NUMBER, from here on a TOKEN that takes numbers from the stack or is a NAME.
        static final int SIGNS = 10000;

        final Clause[] clauses = new Clause[MOST_CLAUSES];
        final Clause[] firstOfMove = new Clause[MOVES];
        // The clauses that a TEXT has once: place, offer, refuse, choose.
        final Clause[] single = new Clause[CHOOSE - PLACE + 1];
        final int[] code = new int[MOST_BYTES];
        int size;
        int codeLength;

        Rules() {
            for (int i = 0; i < MOST_CLAUSES; i++) {
                clauses[i] = new Clause(i);
            }
            size = 0;
            codeLength = 0;
        }

        void clear() {
            size = 0;
            codeLength = 0;
            for (int i = 0; i < MOVES; i++) {
                firstOfMove[i] = null;
            }
            for (int i = 0; i < single.length; i++) {
                single[i] = null;
            }
        }

        static boolean isSingle(int type) {
            return type >= PLACE && type <= CHOOSE;
        }

        Clause singleOf(int type) {
            return isSingle(type) ? single[type - PLACE] : null;
        }

        /** Room for one clause more, or null. */
        Clause add(int type) {
            if (size >= MOST_CLAUSES) {
                return null;
            }
            Clause clause = clauses[size];
            size++;
            clause.type = type;
            clause.codeStart = codeLength;
            if (isSingle(type)) {
                single[type - PLACE] = clause;
            }
            return clause;
        }

        void emit(int what) {
            if (codeLength < code.length) {
                code[codeLength] = what;
                codeLength++;
            }
        }

        /** Chains the ACTS of each MOVE, so that looking for one does not go through all clauses. */
        void chain() {
            for (int i = size - 1; i >= 0; i--) {
                Clause clause = clauses[i];
                if (clause.type == MOVE && isMove(clause.move)) {
                    clause.nextOfMove = firstOfMove[clause.move];
                    firstOfMove[clause.move] = clause;
                }
            }
        }
    }

    /** The tape, and the reading of it as a TEXT. The first FAULT ends the reading. */
    private static final class Reader {
        static final String WORDS =
            "move count from to mine theirs side step leap push change while place offer refuse choose never and or not ";
        static final String SIGNS = "<>=#+-*/(),;";
        static final int[] SIGN_TOKENS = {
            LESS, MORE, LIKE, UNLIKE, PLUS, MINUS, TIMES, OVER, OPENING, CLOSING, COMMA, SEMICOLON
        };
        static final int MOST_NUMBER = 9999;
        static final int MOST_OPEN = 8;
        static final int CANT_STAND = 1;
        static final int BAD_NUMBER = 2;
        static final int TOO_DEEP = 3;
        static final int TWICE = 4;
        static final int TOO_MANY = 5;
        static final int EITHER = 0;
        static final int ASK = 2;
        static final int SUM = 3;
        static final int ONE = 5;

        final int[] tape = new int[MOST_BYTES];
        int length;
        int fault;
        int faultPlace;
        private Rules rules;
        private int at;
        private int token;
        private int tokenStart;
        private int tokenNumber;

        Reader() {
            length = 0;
            fault = NONE;
            faultPlace = NONE;
        }

        void append(int four) {
            for (int shift = 24; shift >= 0 && length < MOST_BYTES; shift -= 8) {
                tape[length] = four >>> shift & 255;
                length++;
            }
        }

        /** Reads the tape, which is empty then, into rules that are of use only if there is no FAULT. */
        void read(Rules target) {
            rules = target;
            rules.clear();
            fault = 0;
            faultPlace = NONE;
            at = 0;
            advance();
            for (int n = 0; n <= MOST_BYTES && fault == 0 && token != TAPE_END; n++) {
                clause();
            }
            if (fault == 0) {
                rules.chain();
            }
            length = 0;
        }

        private void fail(int what) {
            if (fault == 0) {
                fault = what;
                faultPlace = tokenStart;
            }
        }

        private void clause() {
            int type = token;
            if (type != MOVE && type != NEVER && !Rules.isSingle(type)) {
                fail(CANT_STAND);
                return;
            }
            if (rules.singleOf(type) != null) {
                fail(TWICE);
                return;
            }
            Clause clause = rules.add(type);
            if (clause == null) {
                fail(TOO_MANY);
                return;
            }
            advance();
            if (type == MOVE) {
                act(clause);
            } else {
                level(type == NEVER ? EITHER : SUM, 0);
            }
            if (type == MOVE && fault == 0 && token == WHILE) {
                advance();
                level(EITHER, 0);
            }
            clause.codeEnd = rules.codeLength;
            expect(SEMICOLON);
        }

        private void act(Clause clause) {
            clause.move = number(MOVES - 1);
            clause.act = token;
            if (token < STEP || token > CHANGE) {
                fail(CANT_STAND);
            }
            expect(clause.act);
            clause.kind = number(KINDS - 1);
            expect(COMMA);
            clause.direction = number(DIRECTIONS - 1);
        }

        private void expect(int wanted) {
            if (fault != 0) {
                return;
            }
            if (token == wanted) {
                advance();
            } else {
                fail(CANT_STAND);
            }
        }

        private int number(int most) {
            if (fault != 0) {
                return 0;
            }
            int value = tokenNumber;
            if (token != NUMBER) {
                fail(CANT_STAND);
            } else if (value > most) {
                fail(BAD_NUMBER);
            } else {
                advance();
            }
            return value;
        }

        /** Reads what is joined by the signs of a level or of tighter ones; open: how many ( not - are around it. */
        private void level(int level, int open) {
            if (level == ASK) {
                ask(open);
            } else if (level >= ONE) {
                one(open);
            } else {
                level(level + 1, open);
                for (int n = 0; n < MOST_BYTES && fault == 0 && levelOf(token) == level; n++) {
                    int sign = token;
                    advance();
                    level(level + 1, open);
                    rules.emit(Rules.SIGNS + sign);
                }
            }
        }

        private static int levelOf(int sign) {
            switch (sign) {
                case OR: return EITHER;
                case AND: return EITHER + 1;
                case PLUS:
                case MINUS: return SUM;
                case TIMES:
                case OVER: return SUM + 1;
                default: return NONE;
            }
        }

        private void ask(int open) {
            if (fault != 0) {
                return;
            }
            if (token == NOT) {
                if (mayOpen(open)) {
                    advance();
                    ask(open + 1);
                    rules.emit(Rules.SIGNS + NOT);
                }
                return;
            }
            level(SUM, open);
            int sign = token;
            if (sign < LESS || sign > UNLIKE) {
                fail(CANT_STAND);
            }
            expect(sign);
            level(SUM, open);
            rules.emit(Rules.SIGNS + sign);
        }

        private void one(int open) {
            if (fault != 0) {
                return;
            }
            if (token == NUMBER && tokenNumber > MOST_NUMBER) {
                fail(BAD_NUMBER);
            } else if (token == NUMBER) {
                rules.emit(tokenNumber);
                advance();
            } else if (token <= SIDE) {
                rules.emit(Rules.SIGNS + token);
                advance();
            } else if (token == OPENING && mayOpen(open)) {
                advance();
                level(SUM, open + 1);
                expect(CLOSING);
            } else if (token == MINUS && mayOpen(open)) {
                advance();
                one(open + 1);
                rules.emit(Rules.SIGNS + NEGATE);
            } else {
                fail(CANT_STAND);
            }
        }

        private boolean mayOpen(int open) {
            if (open >= MOST_OPEN) {
                fail(TOO_DEEP);
            }
            return open < MOST_OPEN;
        }

        private void advance() {
            while (at < length && (tape[at] == ' ' || tape[at] == '\n')) {
                at++;
            }
            tokenStart = at;
            if (at >= length) {
                token = TAPE_END;
            } else if (isLetter(tape[at])) {
                while (at < length && isLetter(tape[at])) {
                    at++;
                }
                token = word();
            } else if (isDigit(tape[at])) {
                token = NUMBER;
                tokenNumber = 0;
                while (at < length && isDigit(tape[at])) {
                    // What is above the greatest NUMBER stays there: how far above is of no matter.
                    tokenNumber = Math.min(MOST_NUMBER + 1, tokenNumber * 10 + tape[at] - '0');
                    at++;
                }
            } else {
                token = sign();
            }
        }

        private static boolean isLetter(int sign) {
            return sign >= 'a' && sign <= 'z' || sign >= 'A' && sign <= 'Z';
        }

        private static boolean isDigit(int sign) {
            return sign >= '0' && sign <= '9';
        }

        /** The TOKEN of the letters from tokenStart up to at. */
        private int word() {
            int number = 0;
            int next = tokenStart;
            boolean same = true;
            for (int i = 0; i < WORDS.length(); i++) {
                char letter = WORDS.charAt(i);
                if (letter != ' ') {
                    same = same && next < at && tape[next] == letter;
                    next++;
                } else if (same && next == at) {
                    return number;
                } else {
                    number++;
                    next = tokenStart;
                    same = true;
                }
            }
            return NO_TOKEN;
        }

        private int sign() {
            int first = tape[at];
            at++;
            if ((first == '<' || first == '>') && at < length && tape[at] == '=') {
                at++;
                return first == '<' ? AT_MOST : AT_LEAST;
            }
            int found = SIGNS.indexOf((char) first);
            return found >= 0 && found < SIGN_TOKENS.length ? SIGN_TOKENS[found] : NO_TOKEN;
        }
    }

    /** Works out SUMS and EITHERS (1: it is so) for a position and for a MOVE as it would be done there. */
    private static final class Sums {
        static final int LIMIT = 1000000;

        private final int[] names = new int[SIDE + 1];
        // Eight open signs, each with a sum and a product that wait, and or, and, an asking around them: 64 is ample.
        private final int[] stack = new int[64];

        Sums() {
        }

        void look(Position position) {
            names[SIDE] = position.turn;
            names[MINE] = position.pieces(position.turn);
            names[THEIRS] = position.pieces(1 - position.turn);
        }

        void aim(int move, int count, int from, int to) {
            names[MOVE] = move;
            names[COUNT] = count;
            names[FROM] = from;
            names[TO] = to;
        }

        int value(Rules rules, Clause clause) {
            int top = 0;
            for (int i = clause.codeStart; i < clause.codeEnd && i < rules.code.length; i++) {
                int what = rules.code[i] - Rules.SIGNS;
                if (what <= SIDE) {
                    if (top >= stack.length) {
                        return 0;
                    }
                    stack[top] = what < 0 ? rules.code[i] : names[what];
                    top++;
                } else if (what == NOT || what == NEGATE) {
                    if (top < 1) {
                        return 0;
                    }
                    stack[top - 1] = what == NOT ? 1 - stack[top - 1] : -stack[top - 1];
                } else {
                    if (top < 2) {
                        return 0;
                    }
                    top--;
                    stack[top - 1] = joined(what, stack[top - 1], stack[top]);
                }
            }
            return top > 0 ? stack[top - 1] : 0;
        }

        private static int joined(int sign, int x, int y) {
            long result;
            switch (sign) {
                case PLUS: result = (long) x + y; break;
                case MINUS: result = (long) x - y; break;
                case TIMES: result = (long) x * y; break;
                case OVER: result = y == 0 ? 0 : x / y; break;
                case LESS: result = x < y ? 1 : 0; break;
                case AT_MOST: result = x <= y ? 1 : 0; break;
                case MORE: result = x > y ? 1 : 0; break;
                case AT_LEAST: result = x >= y ? 1 : 0; break;
                case LIKE: result = x == y ? 1 : 0; break;
                case UNLIKE: result = x != y ? 1 : 0; break;
                case AND: result = x & y; break;
                default: result = x | y; break;
            }
            return result > LIMIT ? LIMIT : result < -LIMIT ? -LIMIT : (int) result;
        }
    }

    /** How the MOVES that were looked at would be done in a position, and the doing of one. */
    private static final class Options {
        final int[] from = new int[MOVES];
        final int[] to = new int[MOVES];
        final int[] clause = new int[MOVES];
        // The MOVES of those looked at that can be done, as bits.
        int able;
        private final int places;
        private final int[] beside;
        private final int[] worth = new int[MOVES];
        private final Sums sums;

        Options(int width, int height, Sums itsSums) {
            places = width * height;
            beside = new int[places * DIRECTIONS];
            for (int place = 0; place < places; place++) {
                int x = place % width;
                int y = place / width;
                beside[place * DIRECTIONS] = y > 0 ? place - width : NONE;
                beside[place * DIRECTIONS + 1] = x < width - 1 ? place + 1 : NONE;
                beside[place * DIRECTIONS + 2] = y < height - 1 ? place + width : NONE;
                beside[place * DIRECTIONS + 3] = x > 0 ? place - 1 : NONE;
            }
            sums = itsSums;
            able = 0;
        }

        boolean tooFew() {
            return Integer.bitCount(able) < 3;
        }

        /** Looks at the MOVES that are told as bits. */
        void look(Position position, Rules book, int moves) {
            able = 0;
            sums.look(position);
            for (int place = 0; place < places; place++) {
                if (Position.sideOf(position.cell(place)) != position.turn) {
                    continue;
                }
                for (int move = 0; move < MOVES; move++) {
                    if ((moves & 1 << move) != 0 && book.firstOfMove[move] != null) {
                        consider(position, book, move, place);
                    }
                }
            }
        }

        /** Takes a PLACE for a MOVE, if it can be done from there and is worth more than the lower ones. */
        private void consider(Position position, Rules book, int move, int place) {
            int kind = (position.cell(place) - 1) % KINDS;
            for (Clause act = book.firstOfMove[move]; act != null; act = act.nextOfMove) {
                int goal = act.kind == kind ? goal(position, act, place) : NONE;
                if (goal == NONE) {
                    continue;
                }
                sums.aim(move, position.count(move), place, goal);
                if (act.hasCode() && sums.value(book, act) == 0) {
                    continue;
                }
                Clause asked = book.singleOf(PLACE);
                int value = asked == null ? 0 : sums.value(book, asked);
                if ((able & 1 << move) == 0 || value > worth[move]) {
                    able |= 1 << move;
                    worth[move] = value;
                    from[move] = place;
                    to[move] = goal;
                    clause[move] = act.number;
                }
                return;
            }
        }

        /** TO of an ACT from a PLACE; NONE: the BOARD doesn't let it be done. */
        private int goal(Position position, Clause act, int place) {
            if (act.act == CHANGE) {
                return act.direction == act.kind ? NONE : place;
            }
            int near = besideOf(place, act.direction);
            if (near == NONE) {
                return NONE;
            }
            boolean isEmpty = position.cell(near) == 0;
            if (act.act == STEP) {
                return isEmpty ? near : NONE;
            }
            int behind = besideOf(near, act.direction);
            if (isEmpty || behind == NONE || position.cell(behind) != 0) {
                return NONE;
            }
            return act.act == LEAP ? behind : near;
        }

        private int besideOf(int place, int direction) {
            int at = place * DIRECTIONS + direction;
            return at >= 0 && at < beside.length ? beside[at] : NONE;
        }

        /** One PLY, of MOVES that are able in this position. */
        void advance(Position position, Rules book, int no, int done) {
            int heap = position.heapBehind(no, done);
            perform(position, book, done);
            position.heap = heap;
            position.turn = 1 - position.turn;
        }

        /** Does a MOVE on the BOARD alone. */
        void perform(Position position, Rules book, int move) {
            Clause act = book.clauses[clause[move]];
            int start = from[move];
            int goal = to[move];
            int cell = position.cell(start);
            if (act.act == CHANGE) {
                position.setCell(start, 1 + act.direction + KINDS * Position.sideOf(cell));
                return;
            }
            int near = besideOf(start, act.direction);
            int behind = near == NONE ? NONE : besideOf(near, act.direction);
            if (act.act == PUSH && behind != NONE) {
                position.setCell(behind, position.cell(goal));
            }
            if (act.act == LEAP && near != NONE && Position.sideOf(position.cell(near)) != position.turn) {
                position.setCell(near, 0);
            }
            position.setCell(start, 0);
            position.setCell(goal, cell);
        }
    }

    /** All threes of MOVES in the order of a, b, c; a three is told by its bits. */
    private static final class Triples {
        static final int ALL = 56;

        final int[] bits = new int[ALL];

        Triples() {
            int size = 0;
            for (int a = 0; a < MOVES; a++) {
                for (int b = a + 1; b < MOVES; b++) {
                    for (int c = b + 1; c < MOVES; c++) {
                        if (size < ALL) {
                            bits[size] = 1 << a | 1 << b | 1 << c;
                            size++;
                        }
                    }
                }
            }
        }

        /** The bits of three MOVES, 0 if they aren't three in their order. */
        static int bitsOf(int a, int b, int c) {
            return 0 <= a && a < b && b < c && c < MOVES ? 1 << a | 1 << b | 1 << c : 0;
        }

        int count(int able) {
            int found = 0;
            for (int i = 0; i < ALL; i++) {
                if ((bits[i] & able) == bits[i]) {
                    found++;
                }
            }
            return found;
        }

        /** The n-th three of these MOVES; 0: there is none such. */
        int nth(int able, int n) {
            int found = 0;
            for (int i = 0; i < ALL; i++) {
                if ((bits[i] & able) == bits[i]) {
                    if (found == n) {
                        return bits[i];
                    }
                    found++;
                }
            }
            return 0;
        }

        /** How many threes of these MOVES there are (n NONE), or the n-th as it is told. */
        int pick(int able, int n) {
            return n == NONE ? count(able) : asTold(nth(able, n));
        }

        static int asTold(int three) {
            return three == 0 ? NONE : 100 * member(three, 0) + 10 * member(three, 1) + member(three, 2);
        }

        /** The n-th MOVE of some that are told as bits. */
        static int member(int moves, int n) {
            int found = 0;
            for (int move = 0; move < MOVES; move++) {
                if ((moves & 1 << move) != 0) {
                    if (found == n) {
                        return move;
                    }
                    found++;
                }
            }
            return 0;
        }
    }

    /** What is offered, refused and done by WAYS in a position that options have looked at. */
    private static final class Players {
        int no;
        int done;
        private final Options options;
        private final Sums sums;
        private final Triples triples;
        private final int[] worth = new int[MOVES];

        Players(Options itsOptions, Sums itsSums, Triples itsTriples) {
            options = itsOptions;
            sums = itsSums;
            triples = itsTriples;
            no = 0;
            done = 0;
        }

        void decide(Position position, Rules own, Rules others) {
            int three = offered(position, own);
            no = greatest(position, others, REFUSE, three);
            done = greatest(position, own, CHOOSE, three & ~(1 << no));
        }

        private int offered(Position position, Rules own) {
            int moves = allowed(position, own);
            weigh(position, own, OFFER);
            int best = 0;
            int bestWorth = 0;
            for (int i = 0; i < Triples.ALL; i++) {
                int three = triples.bits[i];
                if ((three & moves) != three) {
                    continue;
                }
                int together = 0;
                for (int move = 0; move < MOVES; move++) {
                    together += (three & 1 << move) != 0 ? worth[move] : 0;
                }
                if (best == 0 || together > bestWorth) {
                    best = three;
                    bestWorth = together;
                }
            }
            return best;
        }

        /** The MOVES that a WAY doesn't leave out. */
        private int allowed(Position position, Rules own) {
            int moves = options.able;
            for (int i = 0; i < own.size; i++) {
                Clause never = own.clauses[i];
                for (int move = 0; move < MOVES && never.type == NEVER; move++) {
                    if ((moves & 1 << move) != 0 && value(position, own, never, move) != 0) {
                        moves &= ~(1 << move);
                    }
                }
            }
            return Integer.bitCount(moves) < 3 ? options.able : moves;
        }

        private int greatest(Position position, Rules way, int type, int moves) {
            weigh(position, way, type);
            int best = NONE;
            for (int move = 0; move < MOVES; move++) {
                if ((moves & 1 << move) != 0 && (best == NONE || worth[move] > worth[best])) {
                    best = move;
                }
            }
            return best == NONE ? 0 : best;
        }

        private void weigh(Position position, Rules way, int type) {
            Clause asked = way.singleOf(type);
            for (int move = 0; move < MOVES; move++) {
                boolean told = asked != null && (options.able & 1 << move) != 0;
                worth[move] = told ? value(position, way, asked, move) : 0;
            }
        }

        private int value(Position position, Rules way, Clause asked, int move) {
            sums.aim(move, position.count(move), options.from[move], options.to[move]);
            return sums.value(way, asked);
        }
    }

    /** All states that can be come to from one, and what leads to which. */
    private static final class States {
        static final int MOST = 2000;
        static final int TABLE = 4096;
        // Room for the ways out of a state: one for each NO and each MOVE done.
        static final int EXITS = MOVES * MOVES;

        final int[] open = new int[MOST];
        final int[] exits = new int[MOST * EXITS];
        int size;
        boolean spent;
        private final long[] boards = new long[MOST];
        private final int[] heaps = new int[MOST];
        private final int[] table = new int[TABLE];
        private final Options options;
        private final Position root = new Position();
        private final Position here = new Position();
        private final Position behind = new Position();
        private Rules book;

        States(Options itsOptions) {
            options = itsOptions;
            size = 0;
            spent = false;
            book = null;
        }

        void forget() {
            book = null;
        }

        boolean isFrom(Position position, Rules rules) {
            return book == rules && root.boardAndTurn() == position.boardAndTurn() && root.heap == position.heap;
        }

        void explore(Position position, Rules rules) {
            root.take(position);
            book = rules;
            size = 0;
            spent = false;
            Arrays.fill(table, 0);
            numberOf(position.boardAndTurn(), position.heap);
            for (int state = 0; state < MOST && state < size && !spent; state++) {
                expand(state);
            }
        }

        private void expand(int state) {
            here.setBoardAndTurn(boards[state]);
            here.heap = heaps[state];
            options.look(here, book, here.stock());
            open[state] = options.tooFew() ? 0 : options.able;
            for (int done = 0; done < MOVES; done++) {
                if ((open[state] & 1 << done) == 0) {
                    continue;
                }
                behind.take(here);
                options.perform(behind, book, done);
                behind.turn = 1 - here.turn;
                for (int no = 0; no < MOVES; no++) {
                    if (no != done && (open[state] & 1 << no) != 0) {
                        int next = numberOf(behind.boardAndTurn(), here.heapBehind(no, done));
                        exits[state * EXITS + no * MOVES + done] = next;
                    }
                }
            }
        }

        /** The number of a state, which is a new one if it wasn't known; 0 and spent, if there are too many. */
        private int numberOf(long board, int heap) {
            long mixed = (board ^ (long) heap << 40) * 0x9E3779B97F4A7C15L;
            int slot = (int) (mixed >>> 52);
            for (int tries = 0; tries < TABLE; tries++) {
                int known = table[slot] - 1;
                if (known < 0) {
                    return enter(slot, board, heap);
                }
                if (boards[known] == board && heaps[known] == heap) {
                    return known;
                }
                slot = slot + 1 < TABLE ? slot + 1 : 0;
            }
            return 0;
        }

        private int enter(int slot, long board, int heap) {
            if (size >= MOST) {
                spent = true;
                return 0;
            }
            boards[size] = board;
            heaps[size] = heap;
            size++;
            table[slot] = size;
            return size - 1;
        }
    }

    /** Who wins in all states from one, found backwards from those in which the game is over. */
    private static final class BestPlay {
        static final int FAR = 1000000;

        // By state: WON, LOST or 0, and in how many PLIES.
        final int[] result = new int[States.MOST];
        final int[] length = new int[States.MOST];
        private final States states;
        private final Triples triples;
        // By state and NO: what can be done (as bits) that leads to a state that is WON, or LOST.
        private final int[] toWon = new int[States.MOST * MOVES];
        private final int[] toLost = new int[States.MOST * MOVES];
        // The exits that lead to a state, in a chain.
        private final int[] firstEntry = new int[States.MOST];
        private final int[] nextEntry = new int[States.MOST * States.EXITS];
        private final int[] queue = new int[States.MOST];
        private final int[] touched = new int[States.MOST];
        private final int[] marks = new int[States.MOST];
        private int queued;
        private int touchedSize;

        BestPlay(States itsStates, Triples itsTriples) {
            states = itsStates;
            triples = itsTriples;
            queued = 0;
            touchedSize = 0;
        }

        /** Settles the states in which the game is over, and links the others to what they lead to. */
        void prepare() {
            for (int state = 0; state < states.size; state++) {
                firstEntry[state] = NONE;
                result[state] = 0;
                length[state] = NONE;
                marks[state] = 0;
            }
            for (int i = 0; i < states.size * MOVES; i++) {
                toWon[i] = 0;
                toLost[i] = 0;
            }
            queued = 0;
            for (int state = 0; state < states.size; state++) {
                if (states.open[state] == 0) {
                    settle(state, WON, 0);
                } else {
                    linkExits(state);
                }
            }
        }

        private void linkExits(int state) {
            int open = states.open[state];
            for (int pair = 0; pair < States.EXITS; pair++) {
                int no = pair / MOVES;
                int done = pair % MOVES;
                if (no != done && (open & 1 << no) != 0 && (open & 1 << done) != 0) {
                    int exit = state * States.EXITS + pair;
                    int target = states.exits[exit];
                    nextEntry[exit] = firstEntry[target];
                    firstEntry[target] = exit;
                }
            }
        }

        private void settle(int state, int what, int plies) {
            result[state] = what;
            length[state] = plies;
            if (queued < queue.length) {
                queue[queued] = state;
                queued++;
            }
        }

        /** Level by level: what is settled in so many PLIES can settle, one PLY more, only states that lead to it. */
        void decideAll() {
            int next = 0;
            for (int plies = 1; plies <= States.MOST && next < queued; plies++) {
                int levelEnd = queued;
                touchedSize = 0;
                for (; next < levelEnd; next++) {
                    touchEntries(queue[next], plies);
                }
                for (int i = 0; i < touchedSize; i++) {
                    decide(touched[i], plies);
                }
            }
        }

        private void touchEntries(int state, int plies) {
            int[] leads = result[state] == WON ? toWon : toLost;
            int entry = firstEntry[state];
            for (int n = 0; n < nextEntry.length && entry != NONE; n++) {
                int before = entry / States.EXITS;
                int no = entry / MOVES % MOVES;
                leads[before * MOVES + no] |= 1 << entry % MOVES;
                if (result[before] == 0 && marks[before] != plies && touchedSize < touched.length) {
                    marks[before] = plies;
                    touched[touchedSize] = before;
                    touchedSize++;
                }
                entry = nextEntry[entry];
            }
        }

        private void decide(int state, int plies) {
            boolean losesAll = true;
            for (int i = 0; i < Triples.ALL; i++) {
                int three = triples.bits[i];
                if ((three & states.open[state]) != three) {
                    continue;
                }
                if (losingNoes(state, three) == three) {
                    settle(state, WON, plies);
                    return;
                }
                losesAll = losesAll && hasGoodNo(state, three);
            }
            if (losesAll) {
                settle(state, LOST, plies);
            }
        }

        /** The NOES to an OFFER, as bits, behind which the SIDE that offers wins. */
        int losingNoes(int state, int three) {
            int noes = 0;
            for (int no = 0; no < MOVES; no++) {
                if ((three & 1 << no) != 0 && (toLost[state * MOVES + no] & three) != 0) {
                    noes |= 1 << no;
                }
            }
            return noes;
        }

        /** Whether there is a NO to an OFFER behind which the SIDE that offers loses. */
        private boolean hasGoodNo(int state, int three) {
            for (int no = 0; no < MOVES; no++) {
                int others = three & ~(1 << no);
                if (others != three && (toWon[state * MOVES + no] & others) == others) {
                    return true;
                }
            }
            return false;
        }

        /** How many OFFERS win now (n NONE), or the n-th as it is told. */
        int pickGood(int n) {
            int found = 0;
            for (int i = 0; i < Triples.ALL; i++) {
                int three = triples.bits[i];
                if ((three & states.open[0]) == three && losingNoes(0, three) == three) {
                    if (found == n) {
                        return Triples.asTold(three);
                    }
                    found++;
                }
            }
            return n == NONE ? found : NONE;
        }

        /** Part of the i-th PLY of THE LINE. */
        int lineAt(int i, int what) {
            if (result[0] == 0 || i >= length[0]) {
                return NONE;
            }
            int state = 0;
            for (int ply = 0; ply < i; ply++) {
                int three = lineOffer(state);
                int no = lineNo(state, three);
                state = states.exits[state * States.EXITS + no * MOVES + lineDone(state, three, no)];
            }
            int three = lineOffer(state);
            if (what < 3) {
                return Triples.member(three, what);
            }
            int no = lineNo(state, three);
            return what == 3 ? no : lineDone(state, three, no);
        }

        // In all three: behind a PLY of THE LINE it takes just one PLY less than ahead of it. For a state that is WON
        // no winning OFFER is shorter than the shortest one, for one that is LOST no OFFER is longer than the longest.

        private int lineOffer(int state) {
            for (int i = 0; i < Triples.ALL; i++) {
                int three = triples.bits[i];
                if ((three & states.open[state]) == three && offerLength(state, three) == length[state] - 1) {
                    return three;
                }
            }
            return 0;
        }

        private int lineNo(int state, int three) {
            for (int no = 0; no < MOVES; no++) {
                if ((three & 1 << no) != 0 && noLength(state, three, no) == length[state] - 1) {
                    return no;
                }
            }
            return 0;
        }

        private int lineDone(int state, int three, int no) {
            for (int done = 0; done < MOVES; done++) {
                if (done != no && (three & 1 << done) != 0) {
                    int target = states.exits[state * States.EXITS + no * MOVES + done];
                    if (result[target] == WON + LOST - result[state] && length[target] == length[state] - 1) {
                        return done;
                    }
                }
            }
            return 0;
        }

        /** How long an OFFER takes: of a state that is WON by the longest NO, of one that is LOST by the shortest. */
        private int offerLength(int state, int three) {
            boolean isWon = result[state] == WON;
            int chosen = isWon ? 0 : FAR;
            for (int no = 0; no < MOVES; no++) {
                if ((three & 1 << no) != 0) {
                    int taken = noLength(state, three, no);
                    chosen = isWon ? Math.max(chosen, taken) : Math.min(chosen, taken);
                }
            }
            return chosen;
        }

        /** How long a NO takes: of a state that is WON by the shorter of both LOST ones, else by the longer one. */
        private int noLength(int state, int three, int no) {
            boolean isWon = result[state] == WON;
            int chosen = isWon ? FAR : 0;
            for (int done = 0; done < MOVES; done++) {
                if (done != no && (three & 1 << done) != 0) {
                    int target = states.exits[state * States.EXITS + no * MOVES + done];
                    int taken = result[target] == WON + LOST - result[state] ? length[target] : FAR;
                    chosen = isWon ? Math.min(chosen, taken) : Math.max(chosen, taken);
                }
            }
            return chosen;
        }

        /** Takes states away that lead to none that is left; what can't be taken away leads to itself again. */
        boolean hasCircle() {
            queued = 0;
            for (int state = 0; state < states.size; state++) {
                int open = Integer.bitCount(states.open[state]);
                // From here on the marks count the exits that are left.
                marks[state] = open * (open - 1);
                if (open == 0) {
                    queue[queued] = state;
                    queued++;
                }
            }
            for (int next = 0; next < queue.length && next < queued; next++) {
                int entry = firstEntry[queue[next]];
                for (int n = 0; n < nextEntry.length && entry != NONE; n++) {
                    int before = entry / States.EXITS;
                    marks[before]--;
                    if (marks[before] == 0 && queued < queue.length) {
                        queue[queued] = before;
                        queued++;
                    }
                    entry = nextEntry[entry];
                }
            }
            return queued < states.size;
        }
    }
}
