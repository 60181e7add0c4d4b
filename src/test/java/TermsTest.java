/** The sentences under "Terms" that name a boundary, each by itself, with the promise by which it shows. */
public final class TermsTest {
    private static final int NONE = -1;

    private TermsTest() {
    }

    public static void main(String[] args) {
        fractionsAreReduced();
        denominatorsAreAboveZero();
        presentIsTheTimeByOne();
        slots();
        valuesGrowWithTime();
        valuesGrowInPartsOfTime();
        whoIsAhead();
        whatHoldsAtAMomentHoldsBehindIt();
        contestsOfOneMover();
        contestsOfTwoMovers();
        contestsWithoutMovers();
        winnerIsAheadOfAllOthers();
        loserIsOneOfTheTwo();
        turnIsAnotherWinner();
        nextTurnIsLaterThanNow();
        turnsOfPassingTime();
        turnsAtTheSameMoment();
        nothingIsCountedWithoutTime();
        spansBeginNow();
        noMoverHasTwoSpans();
        lastCall();
        Check.end();
    }

    private static void fractionsAreReduced() {
        String name = "Terms, no common divisor above 1 (promise 16): ";
        LeadTimes half = Scenes.with(6, 0, 0, 4);
        Check.due(name + "6 by 4, numerator", half.contest(1, 2), 3);
        Check.due(name + "6 by 4, denominator", half.contest(1, 3), 2);
        half.pass(1);
        Check.due(name + "1 and 2 by 4, numerator", half.contest(1, 2), 3);
        Check.due(name + "1 and 2 by 4, denominator", half.contest(1, 3), 2);
        LeadTimes whole = Scenes.with(6, 0, 0, 3);
        Check.due(name + "6 by 3, numerator", whole.contest(1, 2), 2);
        Check.due(name + "6 by 3, denominator", whole.contest(1, 3), 1);
        LeadTimes prime = Scenes.with(7, 0, 0, 3);
        Check.due(name + "7 by 3, numerator", prime.contest(1, 2), 7);
        Check.due(name + "7 by 3, denominator", prime.contest(1, 3), 3);
        LeadTimes far = Scenes.with(9999, 0, -9999, 99);
        Check.dueEach(name + "19998 by 99", what -> far.overtakes(1, 0, what), 202, 1);
    }

    private static void denominatorsAreAboveZero() {
        String name = "Terms, the denominator is above 0 ";
        LeadTimes x = Scenes.with(1, -99, 0, 99);
        Check.dueEach(name + "(promise 22): the greatest one", what -> x.overtakes(1, 0, what), 1, 198);
        Check.dueEach(name + "(promise 17): the greatest one", x::nextTurn, 1, 198, 4, 1);
        Check.dueEach(name + "(promise 18): the greatest one", what -> x.span(1, what), 1, 1, 198);
        LeadTimes falling = Scenes.with(0, -3, -5, -2);
        Check.dueEach(name + "(promise 17): both fall", falling::nextTurn, 5, 1, 4, 1);
        LeadTimes below = Scenes.with(-10, -4, -13, 1);
        Check.dueEach(name + "(promise 17): below 0", below::nextTurn, 3, 5, 4, 1);
    }

    private static void presentIsTheTimeByOne() {
        String name = "Terms, the present moment is the time, by 1 ";
        LeadTimes first = Scenes.with(4, 0);
        Check.due(name + "(promise 19): at first 0", first.count(0), 0);
        Check.dueEach(name + "(promise 18): at 0", what -> first.span(0, what), 0, 0, 1);
        Check.due(name + "(promise 15): at 0, numerator", first.mover(0, 4), 0);
        Check.due(name + "(promise 15): at 0, denominator", first.mover(0, 5), 1);
        LeadTimes last = Scenes.at(9999, Scenes.with(4, 0, 4, 0));
        Check.dueEach(name + "(promise 18): at 9999", what -> last.span(0, what), 0, 9999, 1);
        Check.dueEach(name + "(promise 22): at 9999", what -> last.overtakes(0, 1, what), 9999, 1);
    }

    private static void slots() {
        LeadTimes x = new LeadTimes();
        for (int slot = 0; slot < 16; slot++) {
            Check.holds("Terms, a slot is free at first (promise 15): " + slot, !Looks.has(x, slot));
        }
        for (int slot = 0; slot < 16; slot++) {
            Check.due("Terms, 16 slots, numbered from 0 (promise 2)", x.add(slot, 0), slot);
            Check.holds("Terms, a slot has a mover (promise 15): " + slot, Looks.has(x, slot));
        }
    }

    private static void valuesGrowWithTime() {
        String name = "Terms, a value grows by its speed for each unit (promise 15): ";
        LeadTimes x = Scenes.with(7, 99, 7, -99, 7, 0, 7, 1);
        x.pass(1);
        int[] afterOne = {106, -92, 7, 8};
        int[] afterHundred = {9907, -9893, 7, 107};
        for (int slot = 0; slot < 4; slot++) {
            Check.due(name + "slot " + slot + " after 1", x.mover(slot, 0), afterOne[slot]);
        }
        x.pass(99);
        for (int slot = 0; slot < 4; slot++) {
            Check.due(name + "slot " + slot + " after 100", x.mover(slot, 0), afterHundred[slot]);
        }
    }

    private static void valuesGrowInPartsOfTime() {
        LeadTimes x = Scenes.with(1, 0, 0, 3, -1, 5);
        String name = "Terms, also for parts of a unit ";
        Check.dueEach(name + "(promise 18)", what -> x.span(1, what), 1, 1, 3);
        Check.dueEach(name + "(promise 18)", what -> x.span(2, what), 2, 1, 2);
        Check.dueEach(name + "(promise 22)", what -> x.overtakes(2, 0, what), 2, 5);
        Check.due(name + "(promise 23)", x.turnsIn(1), 7);
    }

    private static void whoIsAhead() {
        String name = "Terms, ahead (promise 15, the rank): ";
        LeadTimes byValue = Scenes.with(4, 99, 5, -99);
        Check.due(name + "the greater value", byValue.mover(1, 2), 0);
        Check.due(name + "the lower value", byValue.mover(0, 2), 1);
        LeadTimes bySpeed = Scenes.with(5, 1, 5, 2, 5, -2);
        Check.due(name + "the same value, the greatest speed", bySpeed.mover(1, 2), 0);
        Check.due(name + "the same value, the speed between", bySpeed.mover(0, 2), 1);
        Check.due(name + "the same value, the least speed", bySpeed.mover(2, 2), 2);
        LeadTimes bySlot = Scenes.with(5, 2, 5, 2, 5, 2);
        for (int slot = 0; slot < 3; slot++) {
            Check.due(name + "all the same, the lower number, slot " + slot, bySlot.mover(slot, 2), slot);
        }
        bySlot.set(0, 1);
        for (int slot = 0; slot < 3; slot++) {
            Check.due(name + "with setting 0 as 1, the greater number, slot " + slot, bySlot.mover(slot, 2), 2 - slot);
        }
        bySpeed.set(0, 1);
        Check.due(name + "with setting 0 as 1, the speed counts first", bySpeed.mover(1, 2), 0);
        byValue.set(0, 1);
        Check.due(name + "with setting 0 as 1, the value counts first", byValue.mover(1, 2), 0);
    }

    private static void whatHoldsAtAMomentHoldsBehindIt() {
        String name = "Terms, what holds at a moment holds just behind it ";
        LeadTimes x = Scenes.with(10, 0, 0, 5);
        Check.due(name + "(promise 21): ahead of the meeting", x.leaderAfter(1), 0);
        Check.due(name + "(promise 21): at the meeting, the faster one", x.leaderAfter(2), 1);
        x.pass(2);
        Check.due(name + "(promise 15): both have the same value", x.mover(0, 0) - x.mover(1, 0), 0);
        Check.due(name + "(promise 16): the faster one wins then", x.contest(1, 0), 1);
        Check.dueEach(name + "(promise 22): it is ahead now", what -> x.overtakes(1, 0, what), 2, 1);
        Check.dueEach(name + "(promise 22): the other one is not", what -> x.overtakes(0, 1, what), 0, 0);
    }

    /** The contests that a mover is in: that of its pair, and those up to the last one. */
    private static boolean isIn(int slot, int contest) {
        int in = (slot + 16) / 2;
        while (in > contest) {
            in /= 2;
        }
        return in == contest;
    }

    private static void contestsOfOneMover() {
        for (int slot = 0; slot < 16; slot++) {
            LeadTimes x = Scenes.alone(slot, 5, 1);
            for (int contest = 1; contest <= 15; contest++) {
                String name = "Terms, contests (promise 16): alone on " + slot + ", contest " + contest;
                boolean isIn = isIn(slot, contest);
                int asked = contest;
                Check.dueEach(name, what -> x.contest(asked, what), isIn ? slot : NONE, NONE, 0, 0, NONE, 0);
            }
            Check.due("Terms, contests (promise 15): those where nobody else is", x.mover(slot, 3), 4);
        }
    }

    /** The first slot of the one side against the last slot of the other one. */
    private static void contestsOfTwoMovers() {
        for (int contest = 1; contest <= 15; contest++) {
            int first = 0;
            while (!isIn(first, contest)) {
                first++;
            }
            int last = 15;
            while (!isIn(last, contest)) {
                last--;
            }
            LeadTimes x = new LeadTimes();
            x.add(1, 0);
            x.swap(0, last);
            x.add(2, 0);
            x.swap(0, first);
            String name = "Terms, contests (promise 16): " + first + " against " + last + " in " + contest;
            int asked = contest;
            Check.dueEach(name, what -> x.contest(asked, what), first, last, 0, 0, NONE, 0);
            x.jump(last, 2);
            Check.dueEach(name + ", the other way", what -> x.contest(asked, what), last, first, 0, 0, NONE, 0);
            for (int below = 2 * contest; below <= 15; below++) {
                Check.due(name + ": nobody loses in " + below, x.contest(below, 1), NONE);
            }
        }
    }

    private static void contestsWithoutMovers() {
        LeadTimes none = new LeadTimes();
        LeadTimes gone = Scenes.with(5, 1);
        gone.remove(0);
        for (int contest = 1; contest <= 15; contest++) {
            int asked = contest;
            String name = "Terms, a contest without movers has no winner (promise 16): " + contest;
            Check.dueEach(name, what -> none.contest(asked, what), NONE, NONE, 0, 0, NONE, 0);
            Check.dueEach(name + ", behind remove", what -> gone.contest(asked, what), NONE, NONE, 0, 0, NONE, 0);
        }
    }

    private static void winnerIsAheadOfAllOthers() {
        for (int best = 0; best < 16; best++) {
            LeadTimes x = Scenes.with(0, 0, 1, 0, 2, 0, 3, 0, 4, 0, 5, 0, 6, 0, 7, 0, 8, 0, 9, 0, 10, 0, 11, 0,
                    12, 0, 13, 0, 14, 0, 15, 0);
            x.jump(best, 100);
            for (int contest = 1; contest <= 15; contest++) {
                // of the values 0 to 15 the last slot of a contest has the greatest one
                int last = 15;
                while (!isIn(last, contest)) {
                    last--;
                }
                Check.due("Terms, the winner (promise 16): the best one on " + best + ", contest " + contest,
                        x.contest(contest, 0), isIn(best, contest) ? best : last);
            }
        }
    }

    private static void loserIsOneOfTheTwo() {
        String name = "Terms, the loser (promise 16): ";
        LeadTimes x = Scenes.with(10, 0, 9, 0, 5, 0, 4, 0);
        Check.due(name + "the other of the pair", x.contest(8, 1), 1);
        Check.due(name + "the winner of the other pair, not the second best", x.contest(4, 1), 2);
        Check.due(name + "none without two", x.contest(2, 1), NONE);
    }

    private static void turnIsAnotherWinner() {
        String name = "Terms, a turn ";
        LeadTimes three = Scenes.with(10, 0, 0, 5, -10, 10);
        Check.due(name + "(promise 16): three meet, and the fastest one wins at once", three.contest(1, 4), 2);
        Check.due(name + "(promise 23): that is one turn of 4, 2 and 1, and one of 8", three.turnsIn(999), 4);
        LeadTimes below = Scenes.with(99, 5, 1, 0, 0, 1);
        Check.dueEach(name + "(promise 17): who meet behind the leader turn nothing", below::nextTurn, 0, 0, 0, NONE);
        LeadTimes equal = Scenes.with(5, 1, 5, 1);
        Check.dueEach(name + "(promise 17): equals never turn", equal::nextTurn, 0, 0, 0, NONE);
        LeadTimes next = Scenes.with(5, 1, 4, 1);
        Check.dueEach(name + "(promise 17): the same speed never turns", next::nextTurn, 0, 0, 0, NONE);
        LeadTimes behind = Scenes.with(5, 1, 4, 2, 3, 1, 3, 1);
        Check.dueEach(name + "(promise 17): in its pair and above", behind::nextTurn, 1, 1, 4, 1);
    }

    private static void nextTurnIsLaterThanNow() {
        String name = "Terms, the next turn is later than now ";
        LeadTimes x = Scenes.with(10, 0, 0, 5, -10, 6);
        Check.due(name + "(promise 16): at first 2", x.contest(1, 2), 2);
        x.pass(2);
        Check.due(name + "(promise 16): at 2 not any more", x.contest(1, 2), 10);
        Check.due(name + "(promise 23): nor is it counted", x.turnsIn(0), 0);
        LeadTimes same = Scenes.with(5, 1, 5, 2);
        Check.dueEach(name + "(promise 17): who have the same value now", same::nextTurn, 0, 0, 0, NONE);
    }

    private static void turnsOfPassingTime() {
        String name = "Terms, passing time (promise 7): ";
        LeadTimes x = Scenes.with(10, 0, 0, 5);
        Check.due(name + "ahead of the turn", x.pass(1), 0);
        Check.due(name + "up to the turn, it is counted", x.pass(1), 4);
        Check.due(name + "behind the turn, not again", x.pass(1), 0);
        for (int gap : new int[] {1, 197, 198}) {
            Check.due(name + gap + " by 198 in 1", Scenes.with(gap, -99, 0, 99).pass(1), 4);
        }
        LeadTimes later = Scenes.with(199, -99, 0, 99);
        Check.due(name + "199 by 198 not in 1", later.pass(1), 0);
        Check.due(name + "but in 2", later.pass(1), 4);
        Check.due(name + "two moments in one unit", Scenes.with(1, 0, 0, 3, -2, 6).pass(1), 7);
    }

    /** Each slower one on an even slot is met at 10 by the faster one beside it. */
    private static LeadTimes allTurnAtTen() {
        LeadTimes x = new LeadTimes();
        for (int slot = 0; slot < 16; slot++) {
            x.add(slot % 2 == 0 ? 10 : 0, slot % 2);
        }
        return x;
    }

    private static void turnsAtTheSameMoment() {
        String name = "Terms, at the same moment one by one ";
        Check.dueEach(name + "(promise 17)", allTurnAtTen()::nextTurn, 10, 1, 15, 1);
        LeadTimes x = allTurnAtTen();
        Check.due(name + "(promise 7): ahead of it", x.pass(9), 0);
        Check.due(name + "(promise 7): all fifteen", x.pass(1), 15);
        for (int contest = 1; contest <= 15; contest++) {
            Check.due(name + "(promise 16): contest " + contest, x.contest(contest, 5), 1);
        }
    }

    private static void nothingIsCountedWithoutTime() {
        String name = "Terms, nothing is counted, whoever wins then (promise 19): ";
        LeadTimes x = Scenes.with(5, 0);
        x.add(6, 0);
        Check.due(name + "add", x.contest(1, 0) == 1 ? x.count(3) : NONE, 0);
        x.jump(0, 2);
        Check.due(name + "jump", x.contest(1, 0) == 0 ? x.count(3) : NONE, 0);
        x.jump(1, 1);
        x.speed(1, 3);
        Check.due(name + "speed", x.contest(1, 0) == 1 ? x.count(3) : NONE, 0);
        x.remove(1);
        Check.due(name + "remove", x.contest(1, 0) == 0 ? x.count(3) : NONE, 0);
        x.swap(0, 9);
        Check.due(name + "swap", x.contest(1, 0) == 9 ? x.count(3) : NONE, 0);
        Scenes.typed(x, "7+0").addAll();
        Check.due(name + "addAll", x.contest(1, 0) == 0 ? x.count(3) : NONE, 0);
        x.set(0, 1);
        Check.due(name + "set", x.contest(1, 0) == 9 ? x.count(3) : NONE, 0);
        x.undo();
        Check.due(name + "undo", x.contest(1, 0) == 0 ? x.count(3) : NONE, 0);
        for (int contest = 1; contest <= 15; contest++) {
            Check.due(name + "contest " + contest, x.contest(contest, 5), 0);
        }
    }

    private static void spansBeginNow() {
        String name = "Terms, spans (promise 18): ";
        Check.dueEach(name + "none without movers", what -> new LeadTimes().span(0, what), NONE, NONE, NONE);
        LeadTimes one = Scenes.alone(15, 0, 9);
        Check.dueEach(name + "one of one mover, from now", what -> one.span(0, what), 15, 0, 1);
        Check.dueEach(name + "it has no end", what -> one.span(1, what), NONE, NONE, NONE);
        LeadTimes x = Scenes.at(3, Scenes.with(10, 0, 0, 2));
        Check.dueEach(name + "the first one from the present", what -> x.span(0, what), 0, 3, 1);
        Check.dueEach(name + "up to the next one", what -> x.span(1, what), 1, 5, 1);
        Check.dueEach(name + "the last one has no end", what -> x.span(2, what), NONE, NONE, NONE);
        x.pass(2);
        Check.dueEach(name + "at the turn itself, the next one is the first", what -> x.span(0, what), 1, 5, 1);
        Check.dueEach(name + "and there is no other one", what -> x.span(1, what), NONE, NONE, NONE);
    }

    private static void noMoverHasTwoSpans() {
        LeadTimes x = Scenes.full();
        boolean[] seen = new boolean[16];
        for (int span = 0; span < 16; span++) {
            int leader = x.span(span, 0);
            Check.holds("Terms, no mover has two spans (promise 18): " + leader, leader >= 0 && !seen[leader]);
            seen[leader] = true;
            Check.due("Terms, spans of all movers (promise 18)", x.span(span, 1), span == 0 ? 0 : 2 * span - 1);
        }
        Check.due("Terms, not more spans than movers (promise 18)", x.span(16, 0), NONE);
        Check.due("Terms, not more spans than movers (promise 19)", x.count(2), 16);
    }

    private static void lastCall() {
        LeadTimes x = new LeadTimes();
        for (int call = 1; call <= 510; call += 2) {
            x.add(call, 1);
            x.undo();
        }
        Check.due("What it is: the 511th call (promise 2)", x.add(4, 2), 0);
        Check.due("What it is: the 512th call (promise 26)", x.digest(), Looks.digest(Scenes.with(4, 2), ""));
    }
}
