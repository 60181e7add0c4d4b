/** All that can be seen of an object without changing it, as one text, and its digest by the document. */
final class Looks {
    private Looks() {
    }

    static boolean has(LeadTimes x, int slot) {
        try {
            x.mover(slot, 0);
            return true;
        } catch (IndexOutOfBoundsException e) {
            return false;
        }
    }

    static String all(LeadTimes x) {
        StringBuilder text = new StringBuilder();
        for (int what = 0; what <= 6; what++) {
            text.append(x.count(what)).append(' ');
        }
        text.append('|').append(x.setting(0)).append(' ').append(x.setting(1));
        for (int slot = 0; slot < 16; slot++) {
            if (has(x, slot)) {
                text.append('|').append(slot);
                for (int what = 0; what <= 6; what++) {
                    text.append(' ').append(x.mover(slot, what));
                }
                text.append(' ').append(x.leastSpeed(slot, 10)).append(' ').append(x.leadShare(slot));
            }
        }
        for (int contest = 1; contest <= 15; contest++) {
            text.append("|c").append(contest);
            for (int what = 0; what <= 5; what++) {
                text.append(' ').append(x.contest(contest, what));
            }
        }
        for (int what = 0; what <= 3; what++) {
            text.append(' ').append(x.nextTurn(what));
        }
        return text.append('|').append(x.firstError()).append('|').append(x.digest()).toString();
    }

    /** The digest, made of the looks as promise 26 tells; the buffer is given, as no look shows it. */
    static long digest(LeadTimes x, String buffer) {
        long hash = 2557;
        for (int what = 0; what <= 6; what++) {
            hash = 31 * hash + x.count(what);
        }
        hash = 31 * hash + x.setting(0);
        hash = 31 * hash + x.setting(1);
        for (int slot = 0; slot < 16; slot++) {
            if (has(x, slot)) {
                hash = 31 * hash + slot;
                for (int what = 0; what <= 6; what++) {
                    hash = 31 * hash + x.mover(slot, what);
                }
                hash = 31 * hash + x.leastSpeed(slot, 10);
                hash = 31 * hash + Double.doubleToLongBits(x.leadShare(slot));
            }
        }
        for (int contest = 1; contest <= 15; contest++) {
            for (int what = 0; what <= 5; what++) {
                hash = 31 * hash + x.contest(contest, what);
            }
        }
        for (int what = 0; what <= 3; what++) {
            hash = 31 * hash + x.nextTurn(what);
        }
        for (int span = 0; span < x.count(2); span++) {
            for (int what = 0; what <= 2; what++) {
                hash = 31 * hash + x.span(span, what);
            }
        }
        hash = 31 * hash + x.leaderAfter(x.setting(1));
        hash = 31 * hash + x.turnsIn(x.setting(1));
        hash = 31 * hash + buffer.length();
        for (int i = 0; i < buffer.length(); i++) {
            hash = 31 * hash + buffer.charAt(i);
        }
        return hash;
    }
}
