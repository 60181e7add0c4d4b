import java.util.ArrayList;
import java.util.List;

/** All that can be seen of an object, as one text, and its digest by the document. */
final class Looks {
    private Looks() {
    }

    static boolean has(LeadTimes x, int slot) {
        try {
            x.mover(slot, 0);
            return true;
        } catch (IndexOutOfBoundsException e) {
            return false;
        }
    }

    /** What an object answers, without what would be. */
    static String all(LeadTimes x) {
        return numbers(x) + movers(x) + contests(x);
    }

    /** What all looks, the digest, the buffer and the saved states of a scene's objects answer. */
    static String whole(Scenes.Scene scene) {
        return numbers(scene.made()) + movers(scene.made()) + contests(scene.made()) + later(scene.made())
                + overtakings(scene.made(), 0) + overtakings(scene.made(), 1) + trail(scene.made());
    }

    private static String numbers(LeadTimes x) {
        StringBuilder text = new StringBuilder("numbers");
        for (int what = 0; what <= 6; what++) {
            text.append(' ').append(x.count(what));
        }
        for (int what = 0; what <= 3; what++) {
            text.append(' ').append(x.nextTurn(what));
        }
        for (int span = 0; span <= 16; span++) {
            for (int what = 0; what <= 2; what++) {
                text.append(' ').append(x.span(span, what));
            }
        }
        text.append(' ').append(x.setting(0)).append(' ').append(x.setting(1));
        return text.append(' ').append(x.firstError()).append(' ').append(x.digest()).append('\n').toString();
    }

    private static String movers(LeadTimes x) {
        StringBuilder text = new StringBuilder("movers");
        for (int slot = 0; slot < 16; slot++) {
            if (has(x, slot)) {
                text.append(" slot ").append(slot);
                for (int what = 0; what <= 6; what++) {
                    text.append(' ').append(x.mover(slot, what));
                }
                text.append(' ').append(x.leadShare(slot));
            }
        }
        return text.append('\n').toString();
    }

    private static String contests(LeadTimes x) {
        StringBuilder text = new StringBuilder("contests");
        for (int contest = 1; contest <= 15; contest++) {
            for (int what = 0; what <= 5; what++) {
                text.append(' ').append(x.contest(contest, what));
            }
        }
        return text.append('\n').toString();
    }

    private static String later(LeadTimes x) {
        StringBuilder text = new StringBuilder("later");
        for (int by : new int[] {0, 1, 2, 3, 5, 10, 50, 999}) {
            text.append(' ').append(x.leaderAfter(by)).append(' ').append(x.turnsIn(by));
            for (int slot = 0; slot < 16; slot++) {
                if (has(x, slot)) {
                    text.append(' ').append(x.leastSpeed(slot, by));
                }
            }
        }
        return text.append(' ').append(x.leaderAfter(9999)).append('\n').toString();
    }

    private static String overtakings(LeadTimes x, int what) {
        boolean[] taken = new boolean[16];
        for (int slot = 0; slot < 16; slot++) {
            taken[slot] = has(x, slot);
        }
        StringBuilder text = new StringBuilder("overtakings");
        for (int pair = 0; pair < 256; pair++) {
            if (taken[pair / 16] && taken[pair % 16]) {
                text.append(' ').append(x.overtakes(pair / 16, pair % 16, what));
            }
        }
        return text.append('\n').toString();
    }

    /** The digests of the present and of all saved states, the latest one first; it uses them up. */
    private static String trail(LeadTimes x) {
        StringBuilder text = new StringBuilder("trail ").append(x.digest());
        for (int saved = x.count(6); saved > 0; saved--) {
            text.append(' ').append(x.undo()).append(' ').append(x.digest());
        }
        return text.append(' ').append(x.clearBuffer()).append('\n').toString();
    }

    /** The values of promise 26, in their order; the buffer is given, as no look shows it. */
    static List<Long> digested(LeadTimes x, String buffer) {
        List<Long> values = new ArrayList<>();
        for (int what = 0; what <= 6; what++) {
            values.add((long) x.count(what));
        }
        values.add((long) x.setting(0));
        values.add((long) x.setting(1));
        for (int slot = 0; slot < 16; slot++) {
            if (has(x, slot)) {
                values.add((long) slot);
                for (int what = 0; what <= 6; what++) {
                    values.add((long) x.mover(slot, what));
                }
                values.add((long) x.leastSpeed(slot, 10));
                values.add(Double.doubleToLongBits(x.leadShare(slot)));
            }
        }
        for (int contest = 1; contest <= 15; contest++) {
            for (int what = 0; what <= 5; what++) {
                values.add((long) x.contest(contest, what));
            }
        }
        for (int what = 0; what <= 3; what++) {
            values.add((long) x.nextTurn(what));
        }
        for (int span = 0; span < x.count(2); span++) {
            for (int what = 0; what <= 2; what++) {
                values.add((long) x.span(span, what));
            }
        }
        values.add((long) x.leaderAfter(x.setting(1)));
        values.add((long) x.turnsIn(x.setting(1)));
        values.add((long) buffer.length());
        for (int i = 0; i < buffer.length(); i++) {
            values.add((long) buffer.charAt(i));
        }
        return values;
    }

    /** The digest, made of the looks as promise 26 tells. */
    static long digest(LeadTimes x, String buffer) {
        long hash = 2557;
        for (long value : digested(x, buffer)) {
            hash = 31 * hash + value;
        }
        return hash;
    }
}
