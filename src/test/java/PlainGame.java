import java.util.ArrayList;
import java.util.Arrays;
import java.util.HashMap;
import java.util.HashSet;
import java.util.LinkedHashMap;
import java.util.List;
import java.util.Map;
import java.util.Set;
import java.util.function.ToIntFunction;

/**
 * The document once more, as slowly and literally as can be: what the class answers is compared with this.
 * It shares no code and few ideas with the class, so that one slip is seldom made twice.
 */
final class PlainGame {
    /** The board, the heap and the turn. A cell is null or {kind, side}. */
    private static final class State {
        final int[][] cells;
        final int[] heap = new int[8];
        int turn;

        State(int places) {
            cells = new int[places][];
        }

        State copy() {
            State other = new State(cells.length);
            for (int i = 0; i < cells.length; i++) {
                other.cells[i] = cells[i] == null ? null : cells[i].clone();
            }
            System.arraycopy(heap, 0, other.heap, 0, 8);
            other.turn = turn;
            return other;
        }

        String boardAndTurn() {
            return Arrays.deepToString(cells) + turn;
        }

        String key() {
            return boardAndTurn() + Arrays.toString(heap);
        }

        int pieces(int side) {
            int n = 0;
            for (int[] cell : cells) {
                n += cell != null && cell[1] == side ? 1 : 0;
            }
            return n;
        }
    }

    private record Names(int move, int count, int from, int to, int mine, int theirs, int side) { }

    private record Clause(int number, String type, int move, String act, int kind, int d, ToIntFunction<Names> asked) { }

    private record Done(int from, int to, Clause clause) { }

    private record Token(String kind, String word, int start) { }

    private static final class Fault extends RuntimeException {
        private static final long serialVersionUID = 1L;
        final int what;
        final int place;

        Fault(int itsWhat, int itsPlace) {
            super(null, null, false, false);
            what = itsWhat;
            place = itsPlace;
        }
    }

    private final int w;
    private final int h;
    private State now;
    private List<List<Clause>> texts = new ArrayList<>();
    private int bookNumber = -1;
    private int[] wayNumbers = {-1, -1};
    private List<int[]> game = new ArrayList<>();
    private final List<Integer> tape = new ArrayList<>();
    private int fault = -1;
    private int faultPlace = -1;

    private State keptNow;
    private List<List<Clause>> keptTexts;
    private int keptBook;
    private int[] keptWays;
    private List<int[]> keptGame;

    PlainGame(int width, int height) {
        w = width < 2 ? 2 : width > 4 ? 4 : width;
        h = height < 1 ? 1 : height > 3 ? 3 : height;
        now = new State(w * h);
        image();
    }

    boolean piece(int place, int kind, int side) {
        if (place < 0 || place >= w * h) return false;
        if (kind == -1) {
            now.cells[place] = null;
            return true;
        }
        if (kind < 0 || kind > 3 || side < 0 || side > 1) return false;
        now.cells[place] = new int[] {kind, side};
        return true;
    }

    boolean heap(int move, int count) {
        if (move < 0 || move > 7 || count < 0 || count > 3) return false;
        now.heap[move] = count;
        return true;
    }

    boolean turn(int side) {
        if (side < 0 || side > 1) return false;
        now.turn = side;
        return true;
    }

    int feed(int a, int b, int c, int d, int e) {
        if (tape.size() + 20 > 300) return -1;
        for (int four : new int[] {a, b, c, d, e}) {
            tape.add(four >> 24 & 255);
            tape.add(four >> 16 & 255);
            tape.add(four >> 8 & 255);
            tape.add(four & 255);
        }
        return tape.size();
    }

    int end(int n) {
        if (n < 0 || n > tape.size()) return -1;
        while (tape.size() > n) tape.remove(tape.size() - 1);
        return n;
    }

    int text() {
        if (texts.size() == 6) return -1;
        StringBuilder bytes = new StringBuilder();
        for (int one : tape) bytes.append((char) one);
        tape.clear();
        try {
            List<Clause> read = new Parser(bytes.toString()).clauses();
            fault = 0;
            faultPlace = -1;
            texts = new ArrayList<>(texts);
            texts.add(read);
            return texts.size() - 1;
        } catch (Fault found) {
            fault = found.what;
            faultPlace = found.place;
            return -1;
        }
    }

    int fault(int what) {
        return what == 0 ? fault : what == 1 ? faultPlace : -1;
    }

    boolean book(int text) {
        if (text < -1 || text >= texts.size()) return false;
        bookNumber = text;
        return true;
    }

    boolean way(int side, int text) {
        if (side < 0 || side > 1 || text < -1 || text >= texts.size()) return false;
        wayNumbers[side] = text;
        return true;
    }

    int can(int move, int what) {
        if (move < 0 || move > 7 || what < 0 || what > 2) return -1;
        Done done = howDone(now, move);
        return done == null ? -1 : what == 0 ? done.from : what == 1 ? done.to : done.clause.number;
    }

    int offers(int i) {
        return pick(offersIn(now), i);
    }

    boolean play(int a, int b, int c, int no, int done) {
        State next = plied(now, new int[] {a, b, c}, no, done);
        if (next == null) return false;
        now = next;
        return true;
    }

    int run(int n) {
        if (n < 1 || n > 99) return -1;
        for (int i = 0; i < n; i++) {
            State next = byWays(now);
            if (next == null) return i;
            now = next;
        }
        return n;
    }

    int won() {
        return offersIn(now).isEmpty() ? now.turn : -1;
    }

    int ply(int a, int b, int c, int no, int done) {
        if (a == -1) {
            game = new ArrayList<>();
            return 0;
        }
        for (int one : new int[] {a, b, c, no, done}) {
            if (one < 0 || one > 7) return -1;
        }
        if (game.size() == 40) return -1;
        game = new ArrayList<>(game);
        game.add(new int[] {a, b, c, no, done});
        return game.size();
    }

    int judge() {
        int i = 0;
        State at = now;
        for (int[] p : game) {
            at = plied(at, new int[] {p[0], p[1], p[2]}, p[3], p[4]);
            if (at == null) return i;
            i++;
        }
        return -1;
    }

    int again() {
        List<State> past = new ArrayList<>(List.of(now));
        for (int i = 0; i < game.size(); i++) {
            int[] p = game.get(i);
            State at = plied(past.get(i), new int[] {p[0], p[1], p[2]}, p[3], p[4]);
            if (at == null) return -1;
            for (State earlier : past) {
                if (earlier.boardAndTurn().equals(at.boardAndTurn()) && !Arrays.equals(earlier.heap, at.heap)) return i;
            }
            past.add(at);
        }
        return -1;
    }

    /** As offers(i), but behind those plies of the told game that can be: for drawing one more. */
    int offersBehindGame(int i) {
        State at = now;
        for (int[] p : game) {
            State next = plied(at, new int[] {p[0], p[1], p[2]}, p[3], p[4]);
            if (next == null) break;
            at = next;
        }
        return pick(offersIn(at), i);
    }

    int match(int n, int what) {
        if (n < 1 || n > 99 || what < 0 || what > 1) return -2;
        State at = now;
        int plies = 0;
        while (plies < n && !offersIn(at).isEmpty()) {
            at = byWays(at);
            plies++;
        }
        return what == 1 ? plies : offersIn(at).isEmpty() ? at.turn : -1;
    }

    int drawn(int seed, int n, int side) {
        if (seed < 0 || seed > 9999 || n < 1 || n > 20 || side < 0 || side > 1) return -1;
        long x = seed * 7L + 9;
        int wins = 0;
        for (int g = 0; g < n; g++) {
            State at = now;
            for (int i = 0; i < 30; i++) {
                List<int[]> all = offersIn(at);
                if (all.isEmpty()) break;
                int[] offer = all.get((int) (x % all.size()));
                x = (x * 157 + 53) % 30113;
                int no = offer[(int) (x % 3)];
                x = (x * 157 + 53) % 30113;
                List<Integer> others = new ArrayList<>();
                for (int m : offer) if (m != no) others.add(m);
                int done = others.get((int) (x % 2));
                x = (x * 157 + 53) % 30113;
                at = plied(at, offer, no, done);
            }
            if (offersIn(at).isEmpty() && at.turn == side) wins++;
        }
        return wins;
    }

    int states() {
        Graph graph = graphFrom(now);
        return graph.spent ? -2 : graph.all.size();
    }

    /** How many states there are, by another limit than the document's. */
    int statesUpTo(int most) {
        Graph graph = new Graph(now, most);
        return graph.spent ? -2 : graph.all.size();
    }

    int best(int what) {
        if (what < 0 || what > 1) return -3;
        Graph graph = graphFrom(now);
        if (graph.spent) return -2;
        int t = graph.wonIn.getOrDefault(0, -1);
        int u = graph.lostIn.getOrDefault(0, -1);
        return what == 0 ? t >= 0 ? 1 : u >= 0 ? 2 : 0 : Math.max(t, u);
    }

    int good(int i) {
        if (i < -1) return -1;
        Graph graph = graphFrom(now);
        if (graph.spent) return -2;
        List<int[]> found = new ArrayList<>();
        for (int[] offer : offersIn(now)) {
            boolean all = true;
            for (int no : offer) all &= graph.lostBehind(0, offer, no) != null;
            if (all) found.add(offer);
        }
        return pick(found, i);
    }

    int loses(int a, int b, int c) {
        int bits = 0;
        for (int[] offer : offersIn(now)) {
            if (!Arrays.equals(offer, new int[] {a, b, c})) continue;
            Graph graph = graphFrom(now);
            if (graph.spent) return -2;
            for (int no : offer) bits += graph.lostBehind(0, offer, no) != null ? 1 << no : 0;
            return bits;
        }
        return -1;
    }

    int line(int i, int what) {
        if (i < 0 || what < 0 || what > 4) return -1;
        Graph graph = graphFrom(now);
        if (graph.spent) return -2;
        int at = 0;
        for (int n = 0; ; n++) {
            int[] ply = graph.wonIn.containsKey(at) ? graph.wonPly(at) : graph.lostIn.containsKey(at) ? graph.lostPly(at) : null;
            if (ply == null) return -1;
            if (n == i) return ply[what];
            at = graph.next(at, ply[3], ply[4]);
        }
    }

    int runs() {
        Graph graph = graphFrom(now);
        return graph.spent ? -2 : graph.comesAgain() ? 1 : 0;
    }

    int balanced(int move) {
        if (move < 0 || move > 7) return -1;
        for (int count = 0; count < 4; count++) {
            State at = now.copy();
            at.heap[move] = count;
            Graph graph = graphFrom(at);
            if (graph.spent) continue;
            if (!graph.wonIn.containsKey(0) && !graph.lostIn.containsKey(0)) return count;
        }
        return -1;
    }

    int image() {
        keptNow = now.copy();
        keptTexts = texts;
        keptBook = bookNumber;
        keptWays = wayNumbers.clone();
        keptGame = game;
        return now.pieces(0) + now.pieces(1);
    }

    int back() {
        now = keptNow.copy();
        texts = keptTexts;
        bookNumber = keptBook;
        wayNumbers = keptWays.clone();
        game = keptGame;
        return now.pieces(0) + now.pieces(1);
    }

    int about(int what) {
        if (what >= 10 && what <= 17) return now.heap[what - 10];
        if (what >= 20 && what < 20 + w * h) {
            int[] cell = now.cells[what - 20];
            return cell == null ? 0 : 1 + cell[0] + 4 * cell[1];
        }
        if (what < 0 || what > 8) return -2;
        return new int[] {w, h, now.turn, texts.size(), bookNumber, wayNumbers[0], wayNumbers[1], game.size(), tape.size()}[what];
    }

    // Moves

    private List<Clause> clausesOf(int text, String type) {
        List<Clause> found = new ArrayList<>();
        if (text >= 0) {
            for (Clause clause : texts.get(text)) if (clause.type.equals(type)) found.add(clause);
        }
        return found;
    }

    private int beside(int place, int d) {
        int x = place % w + new int[] {0, 1, 0, -1}[d];
        int y = place / w + new int[] {-1, 0, 1, 0}[d];
        return x < 0 || x >= w || y < 0 || y >= h ? -1 : x + w * y;
    }

    private Names names(State s, int move, int from, int to) {
        return new Names(move, s.heap[move], from, to, s.pieces(s.turn), s.pieces(1 - s.turn), s.turn);
    }

    /** Where an act leads to, -1 if it can't be done; with a state that is changed, it is done there. */
    private int act(State s, Clause a, int from, State changed) {
        int[] mine = s.cells[from];
        if (mine == null || mine[1] != s.turn || mine[0] != a.kind) return -1;
        if (a.act.equals("change")) {
            if (a.d == a.kind) return -1;
            if (changed != null) changed.cells[from] = new int[] {a.d, s.turn};
            return from;
        }
        int one = beside(from, a.d);
        int two = one < 0 ? -1 : beside(one, a.d);
        switch (a.act) {
            case "step":
                if (one < 0 || s.cells[one] != null) return -1;
                if (changed != null) {
                    changed.cells[from] = null;
                    changed.cells[one] = mine;
                }
                return one;
            case "leap":
                if (one < 0 || s.cells[one] == null || two < 0 || s.cells[two] != null) return -1;
                if (changed != null) {
                    changed.cells[from] = null;
                    changed.cells[two] = mine;
                    if (s.cells[one][1] != s.turn) changed.cells[one] = null;
                }
                return two;
            default:
                if (one < 0 || s.cells[one] == null || two < 0 || s.cells[two] != null) return -1;
                if (changed != null) {
                    changed.cells[from] = null;
                    changed.cells[one] = mine;
                    changed.cells[two] = s.cells[one];
                }
                return one;
        }
    }

    private Done howDone(State s, int move) {
        Done best = null;
        int bestValue = 0;
        List<Clause> place = clausesOf(bookNumber, "place");
        for (int from = w * h - 1; from >= 0; from--) {
            Done here = null;
            for (Clause a : clausesOf(bookNumber, "move")) {
                if (here != null || a.move != move) continue;
                int to = act(s, a, from, null);
                if (to < 0) continue;
                if (a.asked != null && a.asked.applyAsInt(names(s, move, from, to)) == 0) continue;
                here = new Done(from, to, a);
            }
            if (here == null) continue;
            int value = place.isEmpty() ? 0 : place.get(0).asked.applyAsInt(names(s, move, from, here.to));
            if (best == null || value >= bestValue) {
                best = here;
                bestValue = value;
            }
        }
        return best;
    }

    private List<Integer> movesIn(State s) {
        List<Integer> moves = new ArrayList<>();
        for (int m = 0; m < 8; m++) if (s.heap[m] >= 1 && howDone(s, m) != null) moves.add(m);
        return moves;
    }

    private static List<int[]> threes(List<Integer> moves) {
        List<int[]> all = new ArrayList<>();
        for (int a : moves) for (int b : moves) for (int c : moves) if (a < b && b < c) all.add(new int[] {a, b, c});
        return all;
    }

    private List<int[]> offersIn(State s) {
        return threes(movesIn(s));
    }

    private static int pick(List<int[]> offers, int i) {
        if (i == -1) return offers.size();
        if (i < 0 || i >= offers.size()) return -1;
        int[] o = offers.get(i);
        return 100 * o[0] + 10 * o[1] + o[2];
    }

    private static boolean has(int[] offer, int move) {
        return offer[0] == move || offer[1] == move || offer[2] == move;
    }

    private State plied(State s, int[] offer, int no, int done) {
        boolean there = false;
        for (int[] one : offersIn(s)) there |= Arrays.equals(one, offer);
        if (!there || no == done || !has(offer, no) || !has(offer, done)) return null;
        return behind(s, no, done);
    }

    private State behind(State s, int no, int done) {
        Done how = howDone(s, done);
        State next = s.copy();
        act(s, how.clause, how.from, next);
        next.heap[no] = Math.min(3, s.heap[no] + 1);
        next.heap[done] = s.heap[done] - 1;
        next.turn = 1 - s.turn;
        return next;
    }

    private int worth(State s, int text, String type, int move) {
        List<Clause> asked = clausesOf(text, type);
        Done how = howDone(s, move);
        return asked.isEmpty() ? 0 : asked.get(0).asked.applyAsInt(names(s, move, how.from, how.to));
    }

    private State byWays(State s) {
        int own = wayNumbers[s.turn];
        int others = wayNumbers[1 - s.turn];
        List<Integer> moves = movesIn(s);
        if (moves.size() < 3) return null;
        List<Integer> kept = new ArrayList<>();
        for (int m : moves) {
            boolean out = false;
            Done how = howDone(s, m);
            for (Clause never : clausesOf(own, "never")) out |= never.asked.applyAsInt(names(s, m, how.from, how.to)) == 1;
            if (!out) kept.add(m);
        }
        int[] offer = null;
        int most = 0;
        for (int[] o : threes(kept.size() >= 3 ? kept : moves)) {
            int value = worth(s, own, "offer", o[0]) + worth(s, own, "offer", o[1]) + worth(s, own, "offer", o[2]);
            if (offer == null || value > most) {
                offer = o;
                most = value;
            }
        }
        int no = offer[0];
        for (int m : offer) if (worth(s, others, "refuse", m) > worth(s, others, "refuse", no)) no = m;
        int done = -1;
        for (int m : offer) {
            if (m != no && (done < 0 || worth(s, own, "choose", m) > worth(s, own, "choose", done))) done = m;
        }
        return plied(s, offer, no, done);
    }

    // States and best play

    // The latest graph is kept, for the sake of the tests' time alone.
    private Graph latest;
    private String latestKey = "";
    private List<Clause> latestBook;

    private Graph graphFrom(State from) {
        List<Clause> book = bookNumber < 0 ? null : texts.get(bookNumber);
        if (latest == null || book != latestBook || !latestKey.equals(from.key())) {
            latest = new Graph(from, 2000);
            latestKey = from.key();
            latestBook = book;
            if (!latest.spent) latest.solve();
        }
        return latest;
    }

    private final class Graph {
        final Map<String, Integer> all = new LinkedHashMap<>();
        final List<State> list = new ArrayList<>();
        final List<List<int[]>> offers = new ArrayList<>();
        final List<Map<Integer, Integer>> nexts = new ArrayList<>();
        final Map<Integer, Integer> wonIn = new HashMap<>();
        final Map<Integer, Integer> lostIn = new HashMap<>();
        boolean spent;

        Graph(State from, int most) {
            all.put(from.key(), 0);
            list.add(from);
            for (int i = 0; i < list.size() && !spent; i++) {
                State s = list.get(i);
                offers.add(offersIn(s));
                nexts.add(new HashMap<>());
                for (int[] offer : offers.get(i)) {
                    for (int no : offer) {
                        for (int done : offer) {
                            if (no != done && !nexts.get(i).containsKey(8 * no + done)) {
                                State next = behind(s, no, done);
                                Integer known = all.get(next.key());
                                if (known == null) {
                                    if (list.size() == most) {
                                        spent = true;
                                        return;
                                    }
                                    known = list.size();
                                    all.put(next.key(), known);
                                    list.add(next);
                                }
                                nexts.get(i).put(8 * no + done, known);
                            }
                        }
                    }
                }
            }
        }

        int next(int s, int no, int done) {
            return nexts.get(s).get(8 * no + done);
        }

        private int[] others(int[] offer, int no) {
            int[] two = new int[2];
            int n = 0;
            for (int m : offer) if (m != no) two[n++] = m;
            return two;
        }

        /** The plies in which the shorter lost one of the other two is lost; null: none is. */
        Integer lostBehind(int s, int[] offer, int no) {
            Integer least = null;
            for (int m : others(offer, no)) {
                Integer t = lostIn.get(next(s, no, m));
                if (t != null && (least == null || t < least)) least = t;
            }
            return least;
        }

        /** The plies in which the longer one of the other two is won, if both are; null: they aren't. */
        Integer wonBehind(int s, int[] offer, int no) {
            Integer x = wonIn.get(next(s, no, others(offer, no)[0]));
            Integer y = wonIn.get(next(s, no, others(offer, no)[1]));
            return x == null || y == null ? null : Integer.valueOf(Math.max(x, y));
        }

        void solve() {
            for (int s = 0; s < list.size(); s++) if (offers.get(s).isEmpty()) wonIn.put(s, 0);
            boolean more = true;
            for (int t = 1; more; t++) {
                List<Integer> won = new ArrayList<>();
                List<Integer> lost = new ArrayList<>();
                for (int s = 0; s < list.size(); s++) {
                    if (wonIn.containsKey(s) || lostIn.containsKey(s)) continue;
                    boolean someWins = false;
                    boolean allLose = true;
                    for (int[] offer : offers.get(s)) {
                        boolean eachNo = true;
                        boolean someNo = false;
                        for (int no : offer) {
                            eachNo &= lostBehind(s, offer, no) != null;
                            someNo |= wonBehind(s, offer, no) != null;
                        }
                        someWins |= eachNo;
                        allLose &= someNo;
                    }
                    if (someWins) won.add(s);
                    else if (allLose) lost.add(s);
                }
                for (int s : won) wonIn.put(s, t);
                for (int s : lost) lostIn.put(s, t);
                more = !won.isEmpty() || !lost.isEmpty();
            }
        }

        /** A ply of the line from a state that is won; null: it has ended. */
        int[] wonPly(int s) {
            int t = wonIn.get(s);
            for (int[] offer : offers.get(s)) {
                boolean each = true;
                for (int no : offer) {
                    Integer u = lostBehind(s, offer, no);
                    each &= u != null && u < t;
                }
                if (!each) continue;
                int no = offer[0];
                for (int m : offer) if (lostBehind(s, offer, m) > lostBehind(s, offer, no)) no = m;
                int[] two = others(offer, no);
                Integer x = lostIn.get(next(s, no, two[0]));
                Integer y = lostIn.get(next(s, no, two[1]));
                int done = x == null || y != null && y < x ? two[1] : two[0];
                return new int[] {offer[0], offer[1], offer[2], no, done};
            }
            return null;
        }

        int[] lostPly(int s) {
            int[] best = null;
            int longest = -1;
            for (int[] offer : offers.get(s)) {
                int no = -1;
                for (int m : offer) {
                    Integer u = wonBehind(s, offer, m);
                    if (u != null && (no < 0 || u < wonBehind(s, offer, no))) no = m;
                }
                int length = wonBehind(s, offer, no);
                if (length > longest) {
                    longest = length;
                    int[] two = others(offer, no);
                    int done = wonIn.get(next(s, no, two[1])) > wonIn.get(next(s, no, two[0])) ? two[1] : two[0];
                    best = new int[] {offer[0], offer[1], offer[2], no, done};
                }
            }
            return best;
        }

        /** Takes each state in turn and goes wherever it leads. */
        boolean comesAgain() {
            for (int s = 0; s < list.size(); s++) {
                Set<Integer> seen = new HashSet<>(nexts.get(s).values());
                List<Integer> todo = new ArrayList<>(seen);
                while (!todo.isEmpty()) {
                    for (int next : nexts.get(todo.remove(todo.size() - 1)).values()) if (seen.add(next)) todo.add(next);
                }
                if (seen.contains(s)) return true;
            }
            return false;
        }
    }

    // Texts

    private static final class Parser {
        private static final Set<String> NAMES = Set.of("move", "count", "from", "to", "mine", "theirs", "side");
        private static final Set<String> ONCE = Set.of("place", "offer", "refuse", "choose");
        private static final Set<String> ACTS = Set.of("step", "leap", "push", "change");
        private static final Set<String> COMPARE = Set.of("<", "<=", ">", ">=", "=", "#");

        private final List<Token> tokens = new ArrayList<>();
        private int at;
        private int opened;

        Parser(String bytes) {
            int i = 0;
            while (i < bytes.length()) {
                int j = i + 1;
                String kind = "sign";
                char c = bytes.charAt(i);
                if (c == ' ' || c == '\n') {
                    i++;
                    continue;
                }
                if (String.valueOf(c).matches("[a-zA-Z]")) {
                    kind = "word";
                    while (j < bytes.length() && bytes.substring(j, j + 1).matches("[a-zA-Z]")) j++;
                } else if (String.valueOf(c).matches("[0-9]")) {
                    kind = "number";
                    while (j < bytes.length() && bytes.substring(j, j + 1).matches("[0-9]")) j++;
                } else if ((c == '<' || c == '>') && j < bytes.length() && bytes.charAt(j) == '=') {
                    j++;
                } else if ("<>=#+-*/(),;".indexOf(c) < 0) {
                    kind = "none";
                }
                tokens.add(new Token(kind, bytes.substring(i, j), i));
                i = j;
            }
            tokens.add(new Token("end", "", bytes.length()));
        }

        List<Clause> clauses() {
            List<Clause> read = new ArrayList<>();
            Set<String> had = new HashSet<>();
            while (!here().kind.equals("end")) {
                String type = here().word;
                if (!type.equals("move") && !type.equals("never") && !ONCE.contains(type)) bad(1);
                if (ONCE.contains(type) && !had.add(type)) bad(4);
                if (read.size() == 20) bad(5);
                at++;
                Clause clause;
                if (type.equals("move")) {
                    int move = number(7);
                    String act = here().word;
                    if (!ACTS.contains(act)) bad(1);
                    at++;
                    int kind = number(3);
                    sign(",");
                    int d = number(3);
                    ToIntFunction<Names> asked = null;
                    if (is("while")) {
                        at++;
                        asked = either();
                    }
                    clause = new Clause(read.size(), type, move, act, kind, d, asked);
                } else {
                    clause = new Clause(read.size(), type, 0, "", 0, 0, type.equals("never") ? either() : sum());
                }
                sign(";");
                read.add(clause);
            }
            return read;
        }

        private Token here() {
            return tokens.get(at);
        }

        private boolean is(String word) {
            return here().word.equals(word);
        }

        private void bad(int what) {
            throw new Fault(what, here().start);
        }

        private void sign(String wanted) {
            if (!is(wanted)) bad(1);
            at++;
        }

        private int number(int most) {
            if (!here().kind.equals("number")) bad(1);
            if (new java.math.BigInteger(here().word).compareTo(java.math.BigInteger.valueOf(most)) > 0) bad(2);
            return Integer.parseInt(tokens.get(at++).word);
        }

        private void opening() {
            opened++;
            if (opened == 9) bad(3);
            at++;
        }

        private ToIntFunction<Names> either() {
            ToIntFunction<Names> left = both();
            while (is("or")) {
                at++;
                ToIntFunction<Names> x = left;
                ToIntFunction<Names> y = both();
                left = n -> x.applyAsInt(n) == 1 || y.applyAsInt(n) == 1 ? 1 : 0;
            }
            return left;
        }

        private ToIntFunction<Names> both() {
            ToIntFunction<Names> left = ask();
            while (is("and")) {
                at++;
                ToIntFunction<Names> x = left;
                ToIntFunction<Names> y = ask();
                left = n -> x.applyAsInt(n) == 1 && y.applyAsInt(n) == 1 ? 1 : 0;
            }
            return left;
        }

        private ToIntFunction<Names> ask() {
            if (is("not")) {
                opening();
                ToIntFunction<Names> x = ask();
                opened--;
                return n -> x.applyAsInt(n) == 1 ? 0 : 1;
            }
            ToIntFunction<Names> x = sum();
            if (!COMPARE.contains(here().word)) bad(1);
            String sign = tokens.get(at++).word;
            ToIntFunction<Names> y = sum();
            return n -> {
                int order = Integer.compare(x.applyAsInt(n), y.applyAsInt(n));
                boolean so = switch (sign) {
                    case "<" -> order < 0;
                    case "<=" -> order <= 0;
                    case ">" -> order > 0;
                    case ">=" -> order >= 0;
                    case "=" -> order == 0;
                    default -> order != 0;
                };
                return so ? 1 : 0;
            };
        }

        private static int held(long value) {
            return (int) Math.max(-1000000, Math.min(1000000, value));
        }

        private ToIntFunction<Names> sum() {
            ToIntFunction<Names> left = product();
            while (is("+") || is("-")) {
                int factor = is("+") ? 1 : -1;
                at++;
                ToIntFunction<Names> x = left;
                ToIntFunction<Names> y = product();
                left = n -> held((long) x.applyAsInt(n) + (long) factor * y.applyAsInt(n));
            }
            return left;
        }

        private ToIntFunction<Names> product() {
            ToIntFunction<Names> left = one();
            while (is("*") || is("/")) {
                boolean times = is("*");
                at++;
                ToIntFunction<Names> x = left;
                ToIntFunction<Names> y = one();
                left = times
                    ? n -> held((long) x.applyAsInt(n) * y.applyAsInt(n))
                    : n -> y.applyAsInt(n) == 0 ? 0 : held(x.applyAsInt(n) / y.applyAsInt(n));
            }
            return left;
        }

        private ToIntFunction<Names> one() {
            if (here().kind.equals("number")) {
                int value = number(9999);
                return n -> value;
            }
            if (is("(")) {
                opening();
                ToIntFunction<Names> x = sum();
                sign(")");
                opened--;
                return x;
            }
            if (is("-")) {
                opening();
                ToIntFunction<Names> x = one();
                opened--;
                return n -> -x.applyAsInt(n);
            }
            if (!NAMES.contains(here().word)) bad(1);
            String name = tokens.get(at++).word;
            return n -> switch (name) {
                case "move" -> n.move;
                case "count" -> n.count;
                case "from" -> n.from;
                case "to" -> n.to;
                case "mine" -> n.mine;
                case "theirs" -> n.theirs;
                default -> n.side;
            };
        }
    }
}
