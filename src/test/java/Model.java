import java.util.ArrayDeque;
import java.util.ArrayList;
import java.util.List;
import java.util.TreeSet;
import java.util.regex.Matcher;
import java.util.regex.Pattern;

/**
 * The document once more, told another way, for comparing: contests are held as a tree, at each
 * moment at which any two movers meet, and just ahead of it. Slow, and free to use the library.
 */
final class Model {
    static final int NONE = -1;
    private static final String MOVER = "-?(0|[1-9][0-9]{0,3})[+-](0|[1-9][0-9]?)";
    private static final Pattern MOVERS = Pattern.compile(MOVER + "(;" + MOVER + ")*");

    /** A mover; it is never changed, but another one takes its place. */
    record Mover(int id, int value, int speed, int added) {
    }

    /** A moment later than now, by how much: p / q, reduced. */
    record Moment(long p, long q) implements Comparable<Moment> {
        static Moment of(long p, long q) {
            long a = p;
            long b = q;
            while (b != 0) {
                long rest = a % b;
                a = b;
                b = rest;
            }
            return new Moment(p / a, q / a);
        }

        @Override
        public int compareTo(Moment other) {
            return Long.compare(p * other.q, other.p * q);
        }
    }

    /** A turn of a contest. */
    record Turn(int contest, Moment moment, int winner) {
    }

    /** What undo() restores. */
    private record Saved(Mover[] movers, int time, int[] settings, long[] turned) {
    }

    private static final Moment NOW = new Moment(0, 1);
    private Mover[] movers = new Mover[16];
    private int time = 0;
    private int[] settings = {0, 50};
    private long[] turned = new long[16];
    private int made = 0;
    private final ArrayDeque<Saved> saved = new ArrayDeque<>();
    private final StringBuilder buffer = new StringBuilder();
    private List<Turn> turns = null;

    String buffer() {
        return buffer.toString();
    }

    int time() {
        return time;
    }

    // ---- movers

    int add(int value, int speed) {
        refuse(Math.abs((long) value) > 9999 || Math.abs((long) speed) > 99, new IllegalArgumentException());
        refuse(free() == NONE, new IllegalStateException());
        save();
        int slot = free();
        movers[slot] = new Mover(made++, value, speed, time);
        return slot;
    }

    int remove(int slot) {
        Mover old = moverOn(slot);
        save();
        movers[slot] = null;
        return old.value;
    }

    int speed(int slot, int speed) {
        Mover old = moverOn(slot);
        refuse(Math.abs((long) speed) > 99, new IllegalArgumentException());
        save();
        movers[slot] = new Mover(old.id, old.value, speed, old.added);
        return old.speed;
    }

    int jump(int slot, int by) {
        Mover old = moverOn(slot);
        refuse(Math.abs((long) by) > 9999, new IllegalArgumentException());
        refuse(Math.abs((long) old.value + by) > 1000000, new IllegalStateException());
        save();
        movers[slot] = new Mover(old.id, old.value + by, old.speed, old.added);
        return old.value + by;
    }

    int swap(int slot, int other) {
        refuse(slot < 0 || slot > 15 || other < 0 || other > 15, new IndexOutOfBoundsException());
        save();
        int[] before = winningIds();
        Mover kept = movers[slot];
        movers[slot] = movers[other];
        movers[other] = kept;
        int[] after = winningIds();
        int changed = 0;
        for (int contest = 1; contest <= 15; contest++) {
            changed += before[contest] == after[contest] ? 0 : 1;
        }
        return changed;
    }

    int pass(int by) {
        refuse(by < 1 || by > 99, new IllegalArgumentException());
        refuse(time + by > 9999, new IllegalStateException());
        return letPass(by);
    }

    int passToTurn() {
        refuse(turns().isEmpty(), new IllegalStateException());
        Moment next = next().moment;
        long by = 1;
        while (by * next.q < next.p) {
            by++;
            refuse(time + by > 9999, new IllegalStateException());
        }
        refuse(time + by > 9999, new IllegalStateException());
        return letPass((int) by);
    }

    int set(int setting, int value) {
        setting(setting);
        refuse(setting == 0 && value != 0 && value != 1, new IllegalArgumentException());
        refuse(setting == 1 && (value < 1 || value > 999), new IllegalArgumentException());
        save();
        int old = settings[setting];
        settings[setting] = value;
        return old;
    }

    // ---- texts

    int append(int code) {
        refuse(code < 33 || code > 126, new IllegalArgumentException());
        refuse(buffer.length() == 60, new IllegalStateException());
        buffer.append((char) code);
        return buffer.length();
    }

    int clearBuffer() {
        int length = buffer.length();
        buffer.setLength(0);
        return length;
    }

    int firstError() {
        for (int index = 0; index < buffer.length(); index++) {
            Matcher matcher = MOVERS.matcher(buffer.substring(0, index + 1));
            if (!matcher.matches() && !matcher.hitEnd()) {
                return index;
            }
        }
        return buffer.length();
    }

    int addAll() {
        refuse(!MOVERS.matcher(buffer).matches(), new IllegalArgumentException());
        String[] parts = buffer.toString().split(";");
        refuse(parts.length > 16 - count(1), new IllegalStateException());
        save();
        for (String part : parts) {
            int sign = Math.max(part.lastIndexOf('+'), part.lastIndexOf('-'));
            int value = Integer.parseInt(part.substring(0, sign));
            int speed = Integer.parseInt(part.substring(sign));
            movers[free()] = new Mover(made++, value, speed, time);
        }
        buffer.setLength(0);
        return count(1);
    }

    int undo() {
        refuse(saved.isEmpty(), new IllegalStateException());
        Saved last = saved.removeLast();
        movers = last.movers;
        time = last.time;
        settings = last.settings;
        turned = last.turned;
        turns = null;
        return saved.size();
    }

    // ---- looks

    int mover(int slot, int what) {
        Mover mover = moverOn(slot);
        switch (what) {
            case 0:
                return mover.value;
            case 1:
                return mover.speed;
            case 2:
                int rank = 0;
                for (int other = 0; other < 16; other++) {
                    rank += movers[other] != null && other != slot && isAhead(other, slot, NOW, false) ? 1 : 0;
                }
                return rank;
            case 3:
                int wins = 0;
                for (int contest = 1; contest <= 15; contest++) {
                    wins += winner(contest, NOW, false) == slot ? 1 : 0;
                }
                return wins;
            case 4:
            case 5:
                for (Turn span : spans()) {
                    if (span.winner == slot) {
                        return part(span.moment, what - 4);
                    }
                }
                return 0;
            case 6:
                return mover.added;
            default:
                throw new IllegalArgumentException();
        }
    }

    int contest(int contest, int what) {
        refuse(contest < 1 || contest > 15, new IndexOutOfBoundsException());
        Turn next = null;
        for (Turn turn : turns()) {
            if (next == null && turn.contest == contest) {
                next = turn;
            }
        }
        switch (what) {
            case 0:
                return winner(contest, NOW, false);
            case 1:
                int one = side(contest, 0, NOW, false);
                int other = side(contest, 1, NOW, false);
                return one == NONE || other == NONE ? NONE : one + other - winner(contest, NOW, false);
            case 2:
            case 3:
                return next == null ? 0 : part(next.moment, what - 2);
            case 4:
                return next == null ? NONE : next.winner;
            case 5:
                return (int) turned[contest];
            default:
                throw new IllegalArgumentException();
        }
    }

    int nextTurn(int what) {
        refuse(what < 0 || what > 3, new IllegalArgumentException());
        if (turns().isEmpty()) {
            return what == 3 ? NONE : 0;
        }
        Moment moment = next().moment;
        if (what < 2) {
            return part(moment, what);
        }
        int many = 0;
        int lowest = 99;
        for (Turn turn : turns()) {
            if (turn.moment.equals(moment)) {
                many++;
                lowest = Math.min(lowest, turn.contest);
            }
        }
        return what == 2 ? many : lowest;
    }

    int span(int span, int what) {
        refuse(span < 0 || what < 0 || what > 2, new IllegalArgumentException());
        if (span >= spans().size()) {
            return NONE;
        }
        Turn told = spans().get(span);
        return what == 0 ? told.winner : part(told.moment, what - 1);
    }

    int count(int what) {
        int many = 0;
        for (Mover mover : movers) {
            many += mover == null ? 0 : 1;
        }
        long all = 0;
        for (long of : turned) {
            all += of;
        }
        int never = 0;
        for (int slot = 0; slot < 16 && what == 5; slot++) {
            never += movers[slot] != null && mover(slot, 5) == 0 ? 1 : 0;
        }
        switch (what) {
            case 0:
                return time;
            case 1:
                return many;
            case 2:
                return spans().size();
            case 3:
                return (int) all;
            case 4:
                return (int) turned[1];
            case 5:
                return never;
            case 6:
                return saved.size();
            default:
                throw new IllegalArgumentException();
        }
    }

    int setting(int setting) {
        refuse(setting < 0 || setting > 1, new IndexOutOfBoundsException());
        return settings[setting];
    }

    // ---- what would be

    int leaderAfter(int after) {
        refuse(after < 0 || after > 9999, new IllegalArgumentException());
        return winner(1, new Moment(after, 1), false);
    }

    int overtakes(int slot, int other, int what) {
        Mover one = moverOn(slot);
        Mover two = moverOn(other);
        refuse(what < 0 || what > 1, new IllegalArgumentException());
        if (slot == other) {
            return 0;
        }
        if (isAhead(slot, other, NOW, false)) {
            return part(NOW, what);
        }
        Moment meet = one.speed == two.speed ? null : meeting(one, two);
        return meet != null && isAhead(slot, other, meet, false) ? part(meet, what) : 0;
    }

    int turnsIn(int by) {
        refuse(by < 0 || by > 999, new IllegalArgumentException());
        int many = 0;
        for (Turn turn : turns()) {
            many += turn.moment.compareTo(new Moment(by, 1)) <= 0 ? 1 : 0;
        }
        return many;
    }

    int leastSpeed(int slot, int by) {
        Mover old = moverOn(slot);
        refuse(by < 0 || by > 999, new IllegalArgumentException());
        int least = -100;
        for (int speed = -99; speed <= 99 && least == -100; speed++) {
            movers[slot] = new Mover(old.id, old.value, speed, old.added);
            least = winner(1, new Moment(by, 1), false) == slot ? speed : -100;
        }
        movers[slot] = old;
        return least;
    }

    double leadShare(int slot) {
        moverOn(slot);
        List<Turn> spans = spans();
        for (int span = 0; span < spans.size(); span++) {
            if (spans.get(span).winner != slot) {
                continue;
            }
            double end = time + settings[1];
            if (span + 1 < spans.size()) {
                end = Math.min(end, asDouble(spans.get(span + 1).moment));
            }
            double lead = end - asDouble(spans.get(span).moment);
            return lead > 0 ? lead / settings[1] : 0.0;
        }
        return 0.0;
    }

    // ---- parts

    private static void refuse(boolean when, RuntimeException with) {
        if (when) {
            throw with;
        }
    }

    private Mover moverOn(int slot) {
        refuse(slot < 0 || slot > 15 || movers[Math.floorMod(slot, 16)] == null, new IndexOutOfBoundsException());
        return movers[slot];
    }

    private int free() {
        for (int slot = 0; slot < 16; slot++) {
            if (movers[slot] == null) {
                return slot;
            }
        }
        return NONE;
    }

    private void save() {
        saved.addLast(new Saved(movers.clone(), time, settings.clone(), turned.clone()));
        if (saved.size() > 6) {
            saved.removeFirst();
        }
        turns = null;
    }

    private int letPass(int by) {
        List<Turn> ahead = turns();
        save();
        int many = 0;
        for (Turn turn : ahead) {
            if (turn.moment.compareTo(new Moment(by, 1)) <= 0) {
                turned[turn.contest]++;
                many++;
            }
        }
        for (int slot = 0; slot < 16; slot++) {
            Mover old = movers[slot];
            if (old != null) {
                movers[slot] = new Mover(old.id, old.value + by * old.speed, old.speed, old.added);
            }
        }
        time += by;
        return many;
    }

    private int part(Moment moment, int what) {
        return (int) (what == 0 ? time * moment.q + moment.p : moment.q);
    }

    private double asDouble(Moment moment) {
        return (double) part(moment, 0) / (double) part(moment, 1);
    }

    /** When two movers with other speeds have the same value; null if that is over or now. */
    private static Moment meeting(Mover one, Mover two) {
        long p = (long) one.value - two.value;
        long q = (long) two.speed - one.speed;
        p = q < 0 ? -p : p;
        return p > 0 ? Moment.of(p, Math.abs(q)) : null;
    }

    /** Just ahead of a moment, the slower one of two that have the same value then was ahead. */
    private boolean isAhead(int slot, int other, Moment moment, boolean justAhead) {
        Mover one = movers[slot];
        Mover two = movers[other];
        long value = one.value * moment.q + one.speed * moment.p;
        long otherValue = two.value * moment.q + two.speed * moment.p;
        if (value != otherValue) {
            return value > otherValue;
        }
        if (one.speed != two.speed) {
            return justAhead ? one.speed < two.speed : one.speed > two.speed;
        }
        return settings[0] == 0 ? slot < other : slot > other;
    }

    private int winner(int contest, Moment moment, boolean justAhead) {
        int one = side(contest, 0, moment, justAhead);
        int other = side(contest, 1, moment, justAhead);
        if (one == NONE || other == NONE) {
            return one == NONE ? other : one;
        }
        return isAhead(one, other, moment, justAhead) ? one : other;
    }

    private int side(int contest, int side, Moment moment, boolean justAhead) {
        if (contest < 8) {
            return winner(2 * contest + side, moment, justAhead);
        }
        int slot = 2 * contest - 16 + side;
        return movers[slot] == null ? NONE : slot;
    }

    private int[] winningIds() {
        int[] ids = new int[16];
        for (int contest = 1; contest <= 15; contest++) {
            int slot = winner(contest, NOW, false);
            ids[contest] = slot == NONE ? NONE : movers[slot].id;
        }
        return ids;
    }

    private Turn next() {
        return turns().get(0);
    }

    /** All turns of all contests later than now, the earlier ones first. */
    private List<Turn> turns() {
        if (turns != null) {
            return turns;
        }
        TreeSet<Moment> moments = new TreeSet<>();
        for (int slot = 0; slot < 16; slot++) {
            for (int other = 0; other < slot; other++) {
                if (movers[slot] != null && movers[other] != null && movers[slot].speed != movers[other].speed) {
                    Moment moment = meeting(movers[slot], movers[other]);
                    if (moment != null) {
                        moments.add(moment);
                    }
                }
            }
        }
        turns = new ArrayList<>();
        for (Moment moment : moments) {
            for (int contest = 1; contest <= 15; contest++) {
                int winner = winner(contest, moment, false);
                if (winner != winner(contest, moment, true)) {
                    turns.add(new Turn(contest, moment, winner));
                }
            }
        }
        return turns;
    }

    /** The spans: the leader now, and each turn of the contest 1. */
    private List<Turn> spans() {
        List<Turn> spans = new ArrayList<>();
        int leader = winner(1, NOW, false);
        if (leader != NONE) {
            spans.add(new Turn(1, NOW, leader));
        }
        for (Turn turn : turns()) {
            if (turn.contest == 1) {
                spans.add(turn);
            }
        }
        return spans;
    }
}
