import java.util.ArrayList;
import java.util.List;
import java.util.Random;

/** Runs of calls drawn from fixed seeds: each answer must be the one of PlainGame. */
public final class ModelTest {
    private static final int SHOWN = 40;

    private final Due due;
    private final Random random;
    private final List<String> calls = new ArrayList<>();
    private final int w;
    private final int h;
    private final GameOfNoes game;
    private final PlainGame plain;
    private final int[] seen;
    /** Larger boards with more pieces and moves: fewer games are decided, but more acts are in one another's way. */
    private final boolean wide;

    private ModelTest(Due itsDue, long seed, int[] itsSeen) {
        due = itsDue;
        seen = itsSeen;
        random = new Random(seed);
        wide = seed % 3 == 0;
        w = random.nextInt(10) == 0 ? random.nextInt(9) - 2 : 2 + random.nextInt(3);
        h = random.nextInt(10) == 0 ? random.nextInt(8) - 2 : 1 + random.nextInt(wide ? 3 : 2);
        game = new GameOfNoes(w, h);
        plain = new PlainGame(w, h);
        calls.add("seed " + seed + ": new(" + w + ", " + h + ")");
    }

    public static void main(String[] args) {
        int from = args.length > 0 ? Integer.parseInt(args[0]) : 0;
        int to = args.length > 1 ? Integer.parseInt(args[1]) : 1500;
        Due due = new Due("ModelTest");
        int[] seen = new int[40];
        for (int seed = from; seed < to && due.wrong() == 0; seed++) {
            new ModelTest(due, seed, seen).wholeRun();
        }
        System.out.println("ModelTest: won " + seen[1] + ", lost " + seen[2] + ", open " + seen[0] + ", spent " + seen[3]
            + ", longest " + seen[4] + ", runs for ever " + seen[5] + ", not " + seen[6] + ", balanced " + seen[7]
            + ", again " + seen[8] + ", most states " + seen[9] + ", faults 1 to 5: " + seen[11] + " " + seen[12] + " "
            + seen[13] + " " + seen[14] + " " + seen[15] + ", texts " + seen[10] + ", good " + seen[16]);
        due.finish();
    }

    private void wholeRun() {
        int kind = upTo(8);
        tellText(kind == 0 ? Texts.rules(random, true, upTo(3) > 0) : kind < 3 ? Texts.flips(3 + upTo(3)) : Texts.livelyBook(random));
        tellText(Texts.rules(random, false, true));
        setUp();
        if (upTo(8) > 0) same("image()", game.image(), plain.image());
        for (int i = 0; i < 60 && due.wrong() == 0; i++) step();
    }

    private int upTo(int n) {
        return random.nextInt(n);
    }

    /** Mostly 0 .. n - 1, now and then something else. */
    private int about(int n) {
        int kind = upTo(28);
        if (kind == 3) return upTo(2) == 0 ? Integer.MIN_VALUE + upTo(40) : Integer.MAX_VALUE - upTo(40);
        return kind == 0 ? -1 : kind == 1 ? n : kind == 2 ? upTo(400) - 200 : upTo(n);
    }

    private int same(String call, int got, int want) {
        calls.add(call + " = " + got);
        if (got != want) {
            for (int i = Math.max(0, calls.size() - SHOWN); i < calls.size(); i++) System.out.println(calls.get(i));
        }
        due.is(call, got, want);
        return got;
    }

    private void same(String call, boolean got, boolean want) {
        same(call, got ? 1 : 0, want ? 1 : 0);
    }

    private void tellText(String text) {
        calls.add("[" + text + "]");
        for (int n = 0; 4 * n < text.length(); n += 5) {
            int[] f = new int[5];
            for (int i = 0; i < 5; i++) f[i] = Due.four(text, n + i);
            same("feed", game.feed(f[0], f[1], f[2], f[3], f[4]), plain.feed(f[0], f[1], f[2], f[3], f[4]));
        }
        same("end(" + text.length() + ")", game.end(text.length()), plain.end(text.length()));
        if (same("text()", game.text(), plain.text()) >= 0) seen[10]++;
        int fault = same("fault(0)", game.fault(0), plain.fault(0));
        if (fault > 0) seen[10 + fault]++;
        same("fault(1)", game.fault(1), plain.fault(1));
    }

    private void setUp() {
        setPiece(0, upTo(2), 0);
        setPiece(w > 2 && upTo(2) == 0 ? 2 : 1, upTo(2), 1);
        int pieces = upTo(wide ? 9 : 4);
        for (int i = 0; i < pieces; i++) setPiece(upTo(12), upTo(2), upTo(2));
        int most = 1 + upTo(3);
        for (int m = 0; m < 3 + upTo(wide ? 6 : 3); m++) setHeap(m, 1 + upTo(most));
        setBook(0);
        if (upTo(2) == 0) setWay(upTo(2), 1);
    }

    private void setPiece(int place, int kind, int side) {
        same("piece(" + place + ", " + kind + ", " + side + ")", game.piece(place, kind, side), plain.piece(place, kind, side));
    }

    private void setHeap(int move, int count) {
        same("heap(" + move + ", " + count + ")", game.heap(move, count), plain.heap(move, count));
    }

    private void setBook(int text) {
        same("book(" + text + ")", game.book(text), plain.book(text));
    }

    private void setWay(int side, int text) {
        same("way(" + side + ", " + text + ")", game.way(side, text), plain.way(side, text));
    }

    private void step() {
        switch (upTo(12)) {
            case 0: change(); break;
            case 1: texts(); break;
            case 2: moves(); break;
            case 3: playing(); break;
            case 4: gameTold(); break;
            case 5: tries(); break;
            case 6: bestPlay(); break;
            case 7: line(); break;
            case 8: images(); break;
            default: abouts(); break;
        }
    }

    private void change() {
        switch (upTo(4)) {
            case 0: setPiece(about(wide ? 12 : 6), upTo(3) == 0 ? -1 : about(4), about(2)); break;
            case 1: setHeap(about(upTo(2) == 0 ? 8 : 4), about(4)); break;
            case 2:
                int side = about(2);
                same("turn(" + side + ")", game.turn(side), plain.turn(side));
                break;
            default:
                if (upTo(3) == 0) setBook(about(3));
                else setWay(about(2), about(4));
                break;
        }
    }

    private void texts() {
        int n = about(30);
        switch (upTo(6)) {
            case 0:
                same("feed", game.feed(n, n, n, n, n), plain.feed(n, n, n, n, n));
                break;
            case 1:
                same("end(" + n + ")", game.end(n), plain.end(n));
                break;
            case 2:
                same("fault(" + n + ")", game.fault(n), plain.fault(n));
                break;
            default:
                same("end(0)", game.end(0), plain.end(0));
                String text = Texts.rules(random, upTo(2) == 0, true);
                tellText(upTo(4) > 0 ? Texts.broken(random, text) : text);
                break;
        }
    }

    private void moves() {
        for (int m = 0; m < 8; m++) {
            for (int what = 0; what < 3; what++) {
                same("can(" + m + ", " + what + ")", game.can(m, what), plain.can(m, what));
            }
        }
        int move = about(8);
        int what = about(3);
        same("can(" + move + ", " + what + ")", game.can(move, what), plain.can(move, what));
        int i = upTo(3) - 1;
        same("offers(" + i + ")", game.offers(i), plain.offers(i));
        i = about(60);
        same("offers(" + i + ")", game.offers(i), plain.offers(i));
        same("won()", game.won(), plain.won());
    }

    /** A ply that may be possible. */
    private int[] drawPly() {
        int count = plain.offers(-1);
        return drawPly(count, count == 0 ? 0 : plain.offers(upTo(count)));
    }

    private int[] drawPlyBehindGame() {
        int count = plain.offersBehindGame(-1);
        return drawPly(count, count == 0 ? 0 : plain.offersBehindGame(upTo(count)));
    }

    private int[] drawPly(int count, int told) {
        if (count == 0 || upTo(12) == 0) return new int[] {about(8), about(8), about(8), about(8), about(8)};
        int[] offer = {told / 100, told / 10 % 10, told % 10};
        int no = upTo(3);
        int done = upTo(6) == 0 ? upTo(3) : (no + 1 + upTo(2)) % 3;
        return new int[] {offer[0], offer[1], offer[2], offer[no], offer[done]};
    }

    private void playing() {
        if (upTo(3) == 0) {
            int n = upTo(6) == 0 ? about(100) : about(4);
            same("run(" + n + ")", game.run(n), plain.run(n));
            return;
        }
        int[] p = drawPly();
        same("play(" + p[0] + ", " + p[1] + ", " + p[2] + ", " + p[3] + ", " + p[4] + ")",
            game.play(p[0], p[1], p[2], p[3], p[4]), plain.play(p[0], p[1], p[2], p[3], p[4]));
    }

    private void gameTold() {
        if (upTo(3) == 0) same("ply(-1, 9, 9, 9, 9)", game.ply(-1, 9, 9, 9, 9), plain.ply(-1, 9, 9, 9, 9));
        int plies = 1 + upTo(8);
        for (int i = 0; i < plies; i++) {
            int[] p = upTo(6) == 0 ? drawPly() : drawPlyBehindGame();
            same("ply(" + p[0] + ", " + p[1] + ", " + p[2] + ", " + p[3] + ", " + p[4] + ")",
                game.ply(p[0], p[1], p[2], p[3], p[4]), plain.ply(p[0], p[1], p[2], p[3], p[4]));
        }
        same("judge()", game.judge(), plain.judge());
        if (same("again()", game.again(), plain.again()) >= 0) seen[8]++;
    }

    private void tries() {
        int n = about(100);
        for (int what = 0; what < 3; what++) {
            same("match(" + n + ", " + what + ")", game.match(n, what), plain.match(n, what));
        }
        int seed = upTo(10) == 0 ? about(10000) : upTo(10000);
        n = about(21);
        int side = about(2);
        same("drawn(" + seed + ", " + n + ", " + side + ")", game.drawn(seed, n, side), plain.drawn(seed, n, side));
    }

    private void bestPlay() {
        int result = same("best(0)", game.best(0), plain.best(0));
        seen[result == -2 ? 3 : result]++;
        int length = same("best(1)", game.best(1), plain.best(1));
        if (length > seen[4]) seen[4] = length;
        int states = same("states()", game.states(), plain.states());
        if (states > seen[9]) seen[9] = states;
        int runs = same("runs()", game.runs(), plain.runs());
        if (runs >= 0) seen[6 - runs]++;
        if (same("good(-1)", game.good(-1), plain.good(-1)) > 0) seen[16]++;
        int i = about(4);
        same("good(" + i + ")", game.good(i), plain.good(i));
        for (int n = 0; n < 3; n++) {
            int[] p = drawPly();
            same("loses(" + p[0] + ", " + p[1] + ", " + p[2] + ")", game.loses(p[0], p[1], p[2]), plain.loses(p[0], p[1], p[2]));
        }
        int what = about(2);
        same("best(" + what + ")", game.best(what), plain.best(what));
        if (upTo(3) == 0) {
            int move = about(8);
            if (same("balanced(" + move + ")", game.balanced(move), plain.balanced(move)) >= 0) seen[7]++;
        }
    }

    private void line() {
        for (int i = 0; i < 6; i++) {
            for (int what = 0; what < 5; what++) {
                same("line(" + i + ", " + what + ")", game.line(i, what), plain.line(i, what));
            }
        }
        int i = about(40);
        int what = about(5);
        same("line(" + i + ", " + what + ")", game.line(i, what), plain.line(i, what));
    }

    private void images() {
        if (upTo(4) == 0) same("image()", game.image(), plain.image());
        else same("back()", game.back(), plain.back());
    }

    private void abouts() {
        for (int what = -1; what < 34; what++) same("about(" + what + ")", game.about(what), plain.about(what));
    }
}
