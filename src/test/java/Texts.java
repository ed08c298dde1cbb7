import java.util.Random;

/** Draws texts: mostly good ones, and ones with a few bytes changed. */
final class Texts {
    private static final String[] NAMES = {"move", "count", "from", "to", "mine", "theirs", "side"};
    private static final String[] ACTS = {"step", "step", "leap", "push", "change", "change"};
    private static final String[] SIGNS = {"<", "<=", ">", ">=", "=", "#"};
    private static final String[] EASY = {
        "count<2", "count#1", "from<to", "side=0 or count>1", "mine>=theirs", "not from=0", "move#to", "to-from<2 and count<3"
    };
    private static final String[] PLACES = {"from", "-from", "to*7/3", "to-from", "count*to", "from*(3-from)", "2*to-mine*from"};
    private static final String[] CLAUSES = {
        "place 0;", "offer move;", "refuse 1-from;", "choose to;", "never 1=1;", "move 0 leap 0,0;", "move 8 push 0,0;",
        "move 7 push 4,0;", "move 7 change 3,4;", "move 10000 step 0,0;", "place 9999*9999;", "offer 10000;", "move 1 step 1,1 while 1;",
        ";", "place;", "never 1;", "choose 1<2;", "place ();", "offer 1+;", "refuse 1 2;", "never 1<2<3;", "never (1<2);", "offer not 1;"
    };
    private static final String[] PARTS = {
        "move ", "count ", "step ", "leap ", "change ", "while ", "place ", "offer ", "never ", "and ", "or ", "not ", "(", ")",
        "-", "+", "*", "/", ";", ",", "<", "<=", "=", "#", "0", "7", "8", "9999", "10000", "00012", "99999999999", "x", "not not not ",
        "((((((((", "--------", "!", "\u00e9", "\n", "never 1=1;", "place 0;", "Move ", "move0step0,1;"
    };

    private Texts() {
    }

    static String rules(Random random, boolean withMoves, boolean withAsking) {
        for (int tries = 0; tries < 100; tries++) {
            String text = once(random, withMoves, withAsking);
            if (text.length() <= 300) return text;
        }
        return "";
    }

    /** A book in which most moves can be done most of the time, so that games go on for a while. */
    static String livelyBook(Random random) {
        StringBuilder text = new StringBuilder();
        int moves = 3 + random.nextInt(3);
        int changes = 4 + random.nextInt(6);
        int goal = random.nextInt(3) == 0 ? 0 : 1;
        for (int i = 0; i < 19; i++) {
            int kind = i / moves % 2;
            StringBuilder clause = new StringBuilder("move ").append(i % moves);
            if (random.nextInt(10) < changes) clause.append("change").append(kind).append(',').append(goal == 0 ? 1 : 1 - kind);
            else clause.append(ACTS[random.nextInt(4)]).append(kind).append(',').append(random.nextInt(4));
            if (random.nextInt(9) == 0) clause.append(" while ").append(EASY[random.nextInt(EASY.length)]);
            clause.append(';');
            if (text.length() + clause.length() <= 260) text.append(clause);
            if (i >= 2 * moves && random.nextInt(6) == 0) break;
        }
        if (random.nextInt(2) == 0) text.append("place ").append(PLACES[random.nextInt(PLACES.length)]).append(';');
        return text.toString();
    }

    /** A book in which all of some moves can always be done by a piece of kind 0 or 1. */
    static String flips(int moves) {
        StringBuilder text = new StringBuilder();
        for (int move = 0; move < moves; move++) {
            text.append("move ").append(move).append("change0,1;move ").append(move).append("change1,0;");
        }
        return text.toString();
    }

    private static String once(Random random, boolean withMoves, boolean withAsking) {
        StringBuilder text = new StringBuilder();
        int acts = withMoves ? 4 + random.nextInt(12) : random.nextInt(2);
        for (int i = 0; i < acts; i++) {
            text.append("move ").append(random.nextInt(random.nextInt(4) == 0 ? 8 : 5)).append(' ');
            text.append(ACTS[random.nextInt(ACTS.length)]);
            text.append(random.nextInt(random.nextInt(5) == 0 ? 4 : 2)).append(',');
            text.append(random.nextInt(random.nextInt(2) == 0 ? 4 : 2));
            if (withAsking && random.nextInt(8) == 0) text.append(" while ").append(either(random));
            text.append(random.nextInt(9) == 0 ? " ;\n" : ";");
        }
        if (withAsking) {
            for (String type : new String[] {"place", "offer", "refuse", "choose"}) {
                if (random.nextInt(2) == 0) text.append(type).append(' ').append(sum(random, 3)).append(';');
            }
            while (random.nextInt(2) == 0) text.append("never ").append(either(random)).append(';');
        }
        return text.toString();
    }

    private static String either(Random random) {
        StringBuilder text = new StringBuilder();
        do {
            if (text.length() > 0) text.append(random.nextInt(2) == 0 ? " and " : " or ");
            for (int n = random.nextInt(8); n < 3; n++) text.append("not ");
            text.append(sum(random, 2)).append(SIGNS[random.nextInt(SIGNS.length)]).append(sum(random, 1));
        } while (random.nextInt(3) == 0);
        return text.toString();
    }

    private static String sum(Random random, int depth) {
        StringBuilder text = new StringBuilder();
        do {
            if (text.length() > 0) text.append("+-*/".charAt(random.nextInt(4)));
            int kind = random.nextInt(10);
            if (kind == 0 && depth > 0) text.append('(').append(sum(random, depth - 1)).append(')');
            else if (kind == 1 && depth > 0) text.append("-").append(NAMES[random.nextInt(NAMES.length)]);
            else if (kind < 5) text.append(random.nextInt(kind == 2 ? 10000 : 4));
            else text.append(NAMES[random.nextInt(NAMES.length)]);
        } while (random.nextInt(3) == 0);
        return text.toString();
    }

    /** A clause around the limits of what may be open at once. */
    static String deep(Random random) {
        StringBuilder text = new StringBuilder("never ");
        int closing = 0;
        int nots = random.nextInt(10);
        for (int i = 0; i < nots; i++) text.append(random.nextInt(2) == 0 ? "not " : "not\n");
        int size = random.nextInt(11 - nots);
        for (int i = 0; i < size; i++) {
            boolean opens = random.nextInt(2) == 0;
            text.append(opens ? random.nextInt(3) == 0 ? "1-(" : "(" : "-");
            closing += opens ? 1 : 0;
        }
        text.append("move");
        for (int i = 0; i < closing; i++) text.append(random.nextInt(20) == 0 ? "" : ")");
        return text.append(random.nextInt(2) == 0 ? "<-(1)and not --2=3;" : "#1;").toString();
    }

    static String broken(Random random, String text) {
        StringBuilder changed = new StringBuilder(text);
        for (int n = random.nextInt(3); n >= 0; n--) {
            int at = random.nextInt(changed.length() + 1);
            int kind = random.nextInt(4);
            String part = PARTS[random.nextInt(PARTS.length)];
            int clause = changed.indexOf(";", at) + 1;
            if (random.nextInt(2) == 0) {
                changed.insert(clause, random.nextInt(2) == 0 ? deep(random) : CLAUSES[random.nextInt(CLAUSES.length)]);
            } else if (kind == 0 && at < changed.length()) changed.deleteCharAt(at);
            else if (kind == 1) changed.setLength(at);
            else changed.insert(at, part);
            if (random.nextInt(12) == 0) {
                for (int i = 0; i < 20; i++) changed.insert(0, "never 0=1;");
            }
        }
        if (changed.length() > 300) changed.setLength(300);
        return changed.toString();
    }
}
