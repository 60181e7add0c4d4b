import java.math.BigInteger;

/** The boundaries that the promises 15 to 26 name, each by itself; what is refused stands in RefusalTest. */
public final class LookEdgesTest {
    private static final int NONE = -1;

    private LookEdgesTest() {
    }

    public static void main(String[] args) {
        moverOfTheLimits();
        moverRanks();
        moverFirstLeads();
        moverWasAdded();
        contestOfEachNumber();
        contestNeverTurns();
        contestTurnsBeyondTheLimitOfTime();
        contestCountsItsTurns();
        nextTurn();
        nextTurnIsTheSooner();
        span();
        countOfNothingOneAndAll();
        countOfSavedStates();
        setting();
        leaderAfterOfTheLimits();
        leaderAfterBeyondTheLimitOfTime();
        overtakesNowOrNever();
        overtakesLater();
        turnsIn();
        leastSpeedNow();
        leastSpeedOfTheLimits();
        leastSpeedLater();
        leadShareOfTheWholeHorizon();
        leadShareAtTheEndOfTheHorizon();
        leadShareOfWhoLedOnce();
        leadShareIsOfDoubles();
        digestOverflows();
        digestOfEachValue();
        digestOfBuffers();
        Check.end();
    }

    private static void moverOfTheLimits() {
        LeadTimes one = Scenes.with(4, 2);
        Check.dueEach("Promise 15: the only one", what -> one.mover(0, what), 4, 2, 0, 4, 0, 1, 0);
        LeadTimes full = Scenes.full();
        Check.dueEach("Promise 15: the first slot", what -> full.mover(0, what), 0, 0, 0, 4, 0, 1, 0);
        Check.dueEach("Promise 15: the last slot", what -> full.mover(15, what), -225, 15, 15, 0, 29, 1, 0);
        Check.dueEach("Promise 15: the slot beside", what -> full.mover(14, what), -196, 14, 14, 1, 27, 1, 0);
        LeadTimes far = Scenes.at(9999, Scenes.with(9999, 99, -9999, -99));
        Check.due("Promise 15: the greatest value without jump", far.mover(0, 0), 9999 + 99 * 9999);
        Check.due("Promise 15: the least value without jump", far.mover(1, 0), -9999 - 99 * 9999);
        LeadTimes farthest = Scenes.at(9999, Scenes.farApart(99, -99));
        Check.due("Promise 15: the greatest value", farthest.mover(0, 0), 1989901);
        Check.due("Promise 15: the least value", farthest.mover(1, 0), -1989901);
    }

    private static void moverRanks() {
        LeadTimes full = Scenes.full();
        LeadTimes same = new LeadTimes();
        for (int slot = 0; slot < 16; slot++) {
            Check.due("Promise 15: ranks from 0 to 15", full.mover(slot, 2), slot);
            same.add(7, 7);
        }
        int[] wins = {4, 0, 1, 0, 2, 0, 1, 0, 3, 0, 1, 0, 2, 0, 1, 0};
        for (int slot = 0; slot < 16; slot++) {
            Check.due("Promise 15: ranks of equals, " + slot, same.mover(slot, 2), slot);
            Check.due("Promise 15: wins of equals, from 0 to 4, " + slot, same.mover(slot, 3), wins[slot]);
        }
    }

    private static void moverFirstLeads() {
        LeadTimes x = Scenes.at(2, Scenes.with(12, 0, 1, 3, 0, 1, 11, 0));
        Check.dueEach("Promise 15: it leads now", what -> x.mover(0, what + 4), 2, 1);
        Check.dueEach("Promise 15: it leads later, at a part", what -> x.mover(1, what + 4), 11, 3);
        Check.dueEach("Promise 15: it never leads, too late", what -> x.mover(2, what + 4), 0, 0);
        Check.dueEach("Promise 15: it never leads, too slow", what -> x.mover(3, what + 4), 0, 0);
        x.pass(2);
        Check.dueEach("Promise 15: it does not lead any more", what -> x.mover(0, what + 4), 0, 0);
        Check.dueEach("Promise 15: it leads now, since earlier", what -> x.mover(1, what + 4), 4, 1);
        LeadTimes touch = Scenes.with(10, 0, 0, 5, -10, 10);
        Check.dueEach("Promise 15: it never leads, as a faster one is there", what -> touch.mover(1, what + 4), 0, 0);
        Check.dueEach("Promise 15: the faster one leads then", what -> touch.mover(2, what + 4), 2, 1);
        LeadTimes late = Scenes.at(9999, Scenes.farApart(0, 1));
        Check.dueEach("Promise 15: it leads far behind the limit of time", what -> late.mover(1, what + 4), 2000000, 1);
        LeadTimes above = Scenes.at(9999, Scenes.with(9999, 1, 9999, 0));
        Check.dueEach("Promise 15: it leads now, at 9999", what -> above.mover(0, what + 4), 9999, 1);
    }

    private static void moverWasAdded() {
        LeadTimes x = Scenes.at(9999, Scenes.with(1, 1));
        x.add(0, 0);
        Check.due("Promise 15: added at 0", x.mover(0, 6), 0);
        Check.due("Promise 15: added at 9999", x.mover(1, 6), 9999);
        x.swap(0, 15);
        x.jump(15, 1);
        x.speed(15, 1);
        Check.due("Promise 15: added at 0, and changed since then", x.mover(15, 6), 0);
        x.remove(1);
        x.add(5, 5);
        Check.due("Promise 15: added at 9999, on the slot of one that went", x.mover(0, 6), 9999);
    }

    private static void contestOfEachNumber() {
        LeadTimes x = Scenes.full();
        int[] winners = {0, 0, 8, 0, 4, 8, 12, 0, 2, 4, 6, 8, 10, 12, 14};
        int[] losers = {8, 4, 12, 2, 6, 10, 14, 1, 3, 5, 7, 9, 11, 13, 15};
        // the winner s of those from s to t loses to s + 1 at 2 * s + 1
        for (int contest = 1; contest <= 15; contest++) {
            int asked = contest;
            int winner = winners[contest - 1];
            Check.dueEach("Promise 16: contest " + contest, what -> x.contest(asked, what), winner,
                    losers[contest - 1], 2 * winner + 1, 1, winner + 1, 0);
        }
    }

    private static void contestNeverTurns() {
        LeadTimes none = new LeadTimes();
        Check.dueEach("Promise 16: nobody", what -> none.contest(15, what), NONE, NONE, 0, 0, NONE, 0);
        LeadTimes one = Scenes.alone(15, 3, 3);
        Check.dueEach("Promise 16: one", what -> one.contest(15, what), 15, NONE, 0, 0, NONE, 0);
        LeadTimes two = Scenes.with(4, 1, 3, 1);
        Check.dueEach("Promise 16: two of the same speed", what -> two.contest(8, what), 0, 1, 0, 0, NONE, 0);
        LeadTimes slower = Scenes.with(4, 1, 3, 0);
        Check.dueEach("Promise 16: the other one is slower", what -> slower.contest(8, what), 0, 1, 0, 0, NONE, 0);
        LeadTimes faster = Scenes.with(4, 1, 3, 2);
        Check.dueEach("Promise 16: the other one is faster", what -> faster.contest(8, what), 0, 1, 1, 1, 1, 0);
        LeadTimes same = Scenes.with(4, 1, 4, 2);
        Check.dueEach("Promise 16: the turn is now", what -> same.contest(8, what), 1, 0, 0, 0, NONE, 0);
    }

    private static void contestTurnsBeyondTheLimitOfTime() {
        LeadTimes x = Scenes.at(9999, Scenes.with(9999, 99, 0, 98));
        x.speed(0, 0);
        // 999900 against 979902 by 98 a unit, which is 204 and 6 by 98
        Check.dueEach("Promise 16: a turn above 9999", what -> x.contest(1, what), 0, NONE, 9999 * 49 + 9999, 49, 1, 0);
        LeadTimes far = Scenes.at(9999, Scenes.farApart(-1, 98));
        Check.dueEach("Promise 16: a turn far above 9999", what -> far.contest(8, what), 0, 1, 2000000, 99, 1, 0);
    }

    private static void contestCountsItsTurns() {
        LeadTimes x = Scenes.full();
        x.pass(29);
        int[] turns = {15, 7, 7, 3, 3, 3, 3, 1, 1, 1, 1, 1, 1, 1, 1};
        for (int contest = 1; contest <= 15; contest++) {
            Check.due("Promise 16: turned so far, contest " + contest, x.contest(contest, 5), turns[contest - 1]);
        }
        x.undo();
        for (int contest = 1; contest <= 15; contest++) {
            Check.due("Promise 14: what is counted is restored, contest " + contest, x.contest(contest, 5), 0);
        }
    }

    private static void nextTurn() {
        LeadTimes none = new LeadTimes();
        Check.dueEach("Promise 17: nobody", none::nextTurn, 0, 0, 0, NONE);
        LeadTimes one = Scenes.with(3, 3);
        Check.dueEach("Promise 17: one", one::nextTurn, 0, 0, 0, NONE);
        LeadTimes last = Scenes.with(9, 0);
        Scenes.typed(last, "0+0;".repeat(13) + "5+0").addAll();
        last.add(2, 1);
        Check.dueEach("Promise 17: the contest 15 alone, and 7 and 3 with it", last::nextTurn, 3, 1, 3, 3);
        last.jump(0, -9);
        last.jump(13, 6);
        Check.dueEach("Promise 17: the contest 15 alone", last::nextTurn, 3, 1, 1, 15);
        LeadTimes late = Scenes.at(9999, Scenes.with(9999, 0, -9999, 2));
        Check.dueEach("Promise 17: at 9999 it is now, so never", late::nextTurn, 0, 0, 0, NONE);
        late.jump(1, -1);
        Check.dueEach("Promise 17: a half above 9999", late::nextTurn, 19999, 2, 4, 1);
        LeadTimes near = Scenes.with(1, 0, 0, 98, 30, 0, -69, 99);
        Check.dueEach("Promise 17: 1/98 is earlier than 99/99", near::nextTurn, 1, 98, 1, 8);
    }

    /** Two that are faster than the winner: the one that gets ahead of it sooner wins next. */
    private static void nextTurnIsTheSooner() {
        LeadTimes last = Scenes.with(100, 5, 90, 7, 50, 20);
        Check.dueEach("Promise 16: 50 by 15 is sooner than 10 by 2", what -> last.contest(1, what + 2), 10, 3, 2);
        LeadTimes first = Scenes.with(100, 5, 98, 9, 50, 20);
        Check.dueEach("Promise 16: 2 by 4 is sooner than 50 by 15", what -> first.contest(1, what + 2), 1, 2, 1);
        LeadTimes thin = Scenes.with(9999, 0, 1, 98, -101, 99);
        Check.dueEach("Promise 16: 10100 by 99 is a little sooner than 9998 by 98",
                what -> thin.contest(1, what + 2), 10100, 99, 2);
    }

    private static void span() {
        LeadTimes full = Scenes.full();
        Check.dueEach("Promise 18: the first of 16", what -> full.span(0, what), 0, 0, 1);
        Check.dueEach("Promise 18: the last of 16", what -> full.span(15, what), 15, 29, 1);
        Check.dueEach("Promise 18: one more than the last", what -> full.span(16, what), NONE, NONE, NONE);
        Check.dueEach("Promise 18: much more", what -> full.span(Integer.MAX_VALUE, what), NONE, NONE, NONE);
        LeadTimes none = new LeadTimes();
        Check.dueEach("Promise 18: without movers", what -> none.span(0, what), NONE, NONE, NONE);
        LeadTimes far = Scenes.at(9999, Scenes.farApart(0, 1));
        Check.dueEach("Promise 18: far behind the limit of time", what -> far.span(1, what), 1, 2000000, 1);
    }

    private static void countOfNothingOneAndAll() {
        LeadTimes none = new LeadTimes();
        Check.dueEach("Promise 19: nothing", none::count, 0, 0, 0, 0, 0, 0, 0);
        LeadTimes one = Scenes.with(5, 5);
        Check.dueEach("Promise 19: one", one::count, 0, 1, 1, 0, 0, 0, 1);
        LeadTimes full = Scenes.full();
        Check.dueEach("Promise 19: all, and each leads", full::count, 0, 16, 16, 0, 0, 0, 6);
        full.pass(29);
        Check.dueEach("Promise 19: all, and one leads", full::count, 29, 16, 1, 49, 15, 15, 6);
        LeadTimes last = Scenes.at(9999, Scenes.with(9999, 0, 0, 1));
        Check.dueEach("Promise 19: the last time", last::count, 9999, 2, 1, 4, 1, 1, 6);
        LeadTimes pair = Scenes.with(9, 9, 3, 0, 2, 1);
        pair.pass(1);
        Check.dueEach("Promise 19: turns of another contest than 1", pair::count, 1, 3, 1, 0, 0, 2, 4);
        pair.swap(0, 15);
        pair.pass(1);
        Check.dueEach("Promise 19: of those that are counted, none of 1", pair::count, 2, 3, 1, 0, 0, 2, 6);
    }

    private static void countOfSavedStates() {
        LeadTimes x = new LeadTimes();
        for (int calls = 1; calls <= 9; calls++) {
            x.set(0, 0);
            Check.due("Promise 19: saved states, at most 6", x.count(6), Math.min(calls, 6));
        }
        x.undo();
        Check.due("Promise 19: saved states behind undo", x.count(6), 5);
    }

    private static void setting() {
        LeadTimes x = new LeadTimes();
        Check.dueEach("Promise 20: at first", x::setting, 0, 50);
        x.set(0, 1);
        x.set(1, 999);
        Check.dueEach("Promise 20: the greatest", x::setting, 1, 999);
        x.set(1, 1);
        x.set(0, 0);
        Check.dueEach("Promise 20: the least", x::setting, 0, 1);
    }

    private static void leaderAfterOfTheLimits() {
        LeadTimes none = new LeadTimes();
        Check.due("Promise 21: nobody, 0 later", none.leaderAfter(0), NONE);
        Check.due("Promise 21: nobody, 9999 later", none.leaderAfter(9999), NONE);
        LeadTimes far = Scenes.with(9999, 0, 0, 1);
        Check.due("Promise 21: 0 later", far.leaderAfter(0), 0);
        Check.due("Promise 21: ahead of a turn at 9999", far.leaderAfter(9998), 0);
        Check.due("Promise 21: at a turn at 9999", far.leaderAfter(9999), 1);
        Check.due("Promise 21: ahead of a turn at 10000", Scenes.with(9999, 0, -1, 1).leaderAfter(9999), 0);
        LeadTimes part = Scenes.with(1, 0, 0, 2);
        Check.due("Promise 21: ahead of a turn at a half", part.leaderAfter(0), 0);
        Check.due("Promise 21: behind a turn at a half", part.leaderAfter(1), 1);
        Check.due("Promise 21: the last slot of 16", Scenes.full().leaderAfter(29), 15);
        Check.due("Promise 21: the one beside it", Scenes.full().leaderAfter(28), 14);
    }

    private static void leaderAfterBeyondTheLimitOfTime() {
        LeadTimes x = Scenes.at(9999, Scenes.with(0, 1, 0, 0));
        x.speed(0, 0);
        x.speed(1, 1);
        Check.due("Promise 21: at 19998, where they meet", x.leaderAfter(9999), 1);
        Check.due("Promise 21: at 19997", x.leaderAfter(9998), 0);
        Check.due("Promise 21: nothing is changed", x.count(0), 9999);
        LeadTimes far = Scenes.at(9999, Scenes.farApart(99, -99));
        far.speed(0, -99);
        far.speed(1, 99);
        Check.due("Promise 21: the farthest values, 9999 later", far.leaderAfter(9999), 0);
    }

    private static void overtakesNowOrNever() {
        LeadTimes x = Scenes.at(6, Scenes.with(10, 2, 9, 2, 8, 2, 9, 1));
        Check.dueEach("Promise 22: ahead now", what -> x.overtakes(0, 1, what), 6, 1);
        Check.dueEach("Promise 22: never, the same speed", what -> x.overtakes(1, 0, what), 0, 0);
        Check.dueEach("Promise 22: never, slower", what -> x.overtakes(3, 1, what), 0, 0);
        LeadTimes slower = Scenes.with(9, 1, 8, 2);
        Check.dueEach("Promise 22: ahead now, though slower", what -> slower.overtakes(0, 1, what), 0, 1);
        for (int slot = 0; slot < 4; slot++) {
            int both = slot;
            Check.dueEach("Promise 22: itself, never", what -> x.overtakes(both, both, what), 0, 0);
        }
        LeadTimes equal = Scenes.with(3, 3, 3, 3);
        Check.dueEach("Promise 22: equal, ahead now by its number", what -> equal.overtakes(0, 1, what), 0, 1);
        Check.dueEach("Promise 22: equal, never by its number", what -> equal.overtakes(1, 0, what), 0, 0);
        equal.set(0, 1);
        Check.dueEach("Promise 22: setting 0 as 1, never", what -> equal.overtakes(0, 1, what), 0, 0);
        Check.dueEach("Promise 22: setting 0 as 1, ahead now", what -> equal.overtakes(1, 0, what), 0, 1);
        Check.dueEach("Promise 22: setting 0 as 1, itself, never", what -> equal.overtakes(1, 1, what), 0, 0);
        LeadTimes same = Scenes.with(3, 1, 3, 2);
        Check.dueEach("Promise 22: the same value, the faster one now", what -> same.overtakes(1, 0, what), 0, 1);
        Check.dueEach("Promise 22: the same value, the slower one never", what -> same.overtakes(0, 1, what), 0, 0);
    }

    private static void overtakesLater() {
        LeadTimes x = Scenes.with(1, -99, 0, 99);
        Check.dueEach("Promise 22: the earliest, 1 by 198", what -> x.overtakes(1, 0, what), 1, 198);
        LeadTimes late = Scenes.at(9999, Scenes.farApart(0, 0));
        late.speed(1, 1);
        Check.dueEach("Promise 22: far behind the limit of time", what -> late.overtakes(1, 0, what), 2009999, 1);
        late.speed(1, 97);
        Check.dueEach("Promise 22: a great numerator", what -> late.overtakes(1, 0, what), 9999 * 97 + 2000000, 97);
        LeadTimes last = Scenes.alone(15, 5, 0);
        last.add(3, 1);
        Check.dueEach("Promise 22: the first slot overtakes the last one", what -> last.overtakes(0, 15, what), 2, 1);
        Check.dueEach("Promise 22: the last slot is ahead of the first one", what -> last.overtakes(15, 0, what), 0, 1);
    }

    private static void turnsIn() {
        Check.due("Promise 23: nobody", new LeadTimes().turnsIn(999), 0);
        Check.due("Promise 23: in 0, as who meet now turned before", Scenes.with(5, 0, 5, 1).turnsIn(0), 0);
        LeadTimes far = Scenes.with(999, 0, 0, 1);
        Check.due("Promise 23: in 998", far.turnsIn(998), 0);
        Check.due("Promise 23: in 999, at the moment itself", far.turnsIn(999), 4);
        Check.due("Promise 23: a turn in 1000", Scenes.with(1000, 0, 0, 1).turnsIn(999), 0);
        LeadTimes part = Scenes.with(1, -99, 0, 99);
        Check.due("Promise 23: 1 by 198 not in 0", part.turnsIn(0), 0);
        Check.due("Promise 23: 1 by 198 in 1", part.turnsIn(1), 4);
        Check.due("Promise 23: 199 by 198 not in 1", Scenes.with(199, -99, 0, 99).turnsIn(1), 0);
        LeadTimes last = Scenes.at(9999, Scenes.with(0, 1, 0, 0));
        last.speed(0, 0);
        last.speed(1, 99);
        // 9999 by 99 a unit is 101
        Check.due("Promise 23: above the limit of time, a little too early", last.turnsIn(100), 0);
        Check.due("Promise 23: above the limit of time", last.turnsIn(101), 4);
        Check.due("Promise 23: all of a full object", Scenes.full().turnsIn(29), 49);
        Check.due("Promise 23: not the last ones of a full object", Scenes.full().turnsIn(28), 45);
    }

    private static void leastSpeedNow() {
        LeadTimes x = Scenes.with(7, 3, 7, 9, 6, 99);
        Check.due("Promise 24: in 0, equal to the next one with a lower number", x.leastSpeed(0, 0), 9);
        Check.due("Promise 24: in 0, one more with a greater number", x.leastSpeed(1, 0), 4);
        Check.due("Promise 24: in 0, a lower value", x.leastSpeed(2, 0), -100);
        x.set(0, 1);
        Check.due("Promise 24: setting 0 as 1, one more with a lower number", x.leastSpeed(0, 0), 10);
        Check.due("Promise 24: setting 0 as 1, equal with a greater number", x.leastSpeed(1, 0), 3);
        x.jump(0, 1);
        Check.due("Promise 24: in 0, a greater value", x.leastSpeed(0, 0), -99);
        Check.due("Promise 24: nothing is changed", x.mover(0, 1), 3);
    }

    private static void leastSpeedOfTheLimits() {
        LeadTimes alone = Scenes.alone(15, 3, 50);
        Check.due("Promise 24: alone, in 0", alone.leastSpeed(15, 0), -99);
        Check.due("Promise 24: alone, in 999", alone.leastSpeed(15, 999), -99);
        LeadTimes fast = Scenes.with(0, 99, 0, 0);
        Check.due("Promise 24: 99 is not enough by the number", fast.leastSpeed(1, 999), -100);
        Check.due("Promise 24: nor in 0", fast.leastSpeed(1, 0), -100);
        fast.set(0, 1);
        Check.due("Promise 24: 99 is just enough by the number", fast.leastSpeed(1, 999), 99);
        Check.due("Promise 24: and in 0", fast.leastSpeed(1, 0), 99);
        LeadTimes slow = Scenes.with(0, 0, 0, -99);
        Check.due("Promise 24: -99 is just enough by the number", slow.leastSpeed(0, 999), -99);
        Check.due("Promise 24: and in 0", slow.leastSpeed(0, 0), -99);
        slow.set(0, 1);
        Check.due("Promise 24: -99 is not enough by the number", slow.leastSpeed(0, 999), -98);
        Check.due("Promise 24: nor in 0", slow.leastSpeed(0, 0), -98);
        LeadTimes far = Scenes.farApart(-99, 99);
        Check.due("Promise 24: too far, in 999", far.leastSpeed(1, 999), -100);
        Check.due("Promise 24: far ahead, in 999", far.leastSpeed(0, 999), -99);
    }

    private static void leastSpeedLater() {
        LeadTimes x = Scenes.with(999, 0, 0, 50);
        Check.due("Promise 24: in 999, the same value, so the faster one", x.leastSpeed(1, 999), 1);
        Check.due("Promise 24: in 998, a little more", x.leastSpeed(1, 998), 2);
        Check.due("Promise 24: in 1, more than 99", x.leastSpeed(1, 1), -100);
        x.jump(0, -900);
        Check.due("Promise 24: in 1, just 99", x.leastSpeed(1, 1), 99);
        x.jump(0, 1);
        Check.due("Promise 24: in 1, one more than 99", x.leastSpeed(1, 1), -100);
        LeadTimes last = Scenes.at(9999, Scenes.with(5, 0, 0, 0));
        Check.due("Promise 24: above the limit of time", last.leastSpeed(1, 5), 1);
        Check.due("Promise 24: above the limit of time, a little too early", last.leastSpeed(1, 4), 2);
        LeadTimes others = Scenes.with(0, 7, 30, 0, 0, 4);
        Check.due("Promise 24: against the leader then, not the one now", others.leastSpeed(2, 10), 8);
    }

    private static void leadShareOfTheWholeHorizon() {
        for (int horizon : new int[] {1, 50, 999}) {
            LeadTimes x = Scenes.with(5, 1, 5, 1);
            x.set(1, horizon);
            Check.due("Promise 25: the whole horizon " + horizon, x.leadShare(0), 1.0);
            Check.due("Promise 25: no span " + horizon, x.leadShare(1), 0.0);
        }
        LeadTimes last = Scenes.at(9999, Scenes.with(0, 1, 0, 0));
        last.set(1, 999);
        Check.due("Promise 25: the whole horizon, above the limit of time", last.leadShare(0), 1.0);
        last.speed(0, 0);
        last.speed(1, 99);
        Check.due("Promise 25: a part of it, above the limit of time", last.leadShare(1), 898.0 / 999.0);
    }

    private static void leadShareAtTheEndOfTheHorizon() {
        int[] horizons = {9, 10, 11};
        double[] first = {1.0, 1.0, 10.0 / 11.0};
        double[] second = {0.0, 0.0, 1.0 / 11.0};
        for (int i = 0; i < 3; i++) {
            LeadTimes x = Scenes.at(4, Scenes.with(10, 0, -4, 1));
            x.set(1, horizons[i]);
            Check.due("Promise 25: a span that ends at 10, horizon " + horizons[i], x.leadShare(0), first[i]);
            Check.due("Promise 25: a span that begins at 10, horizon " + horizons[i], x.leadShare(1), second[i]);
        }
        LeadTimes far = Scenes.farApart(0, 1);
        Check.due("Promise 25: a span that begins far behind the horizon", far.leadShare(1), 0.0);
        LeadTimes full = Scenes.full();
        full.set(1, 30);
        for (int slot = 0; slot < 16; slot++) {
            double wanted = slot == 0 || slot == 15 ? 1.0 / 30.0 : 2.0 / 30.0;
            Check.due("Promise 25: each of 16 spans, slot " + slot, full.leadShare(slot), wanted);
        }
    }

    private static void leadShareOfWhoLedOnce() {
        LeadTimes slower = Scenes.with(10, 0, 0, 1);
        slower.speed(1, -1);
        Check.due("Promise 25: no span any more, as it is slower now", slower.leadShare(1), 0.0);
        LeadTimes behind = Scenes.with(10, 0, 0, 1);
        behind.pass(11);
        Check.due("Promise 25: no span any more, as it was overtaken", behind.leadShare(0), 0.0);
    }

    private static void leadShareIsOfDoubles() {
        LeadTimes x = Scenes.at(7, Scenes.with(1, 0, -21, 3, -43, 6));
        x.set(1, 3);
        // the leads change at 22/3
        Check.due("Promise 25: numerator by denominator, then less", x.leadShare(0), (22.0 / 3.0 - 7.0) / 3.0);
        Check.due("Promise 25: never, as the faster one is there, too", x.leadShare(1), 0.0);
        Check.due("Promise 25: up to the horizon", x.leadShare(2), (10.0 - 22.0 / 3.0) / 3.0);
        LeadTimes thin = Scenes.with(1, -99, 0, 99);
        thin.set(1, 999);
        Check.due("Promise 25: the thinnest first span", thin.leadShare(0), 1.0 / 198.0 / 999.0);
    }

    private static long digestInOtherArithmetic(LeadTimes x, String buffer) {
        BigInteger hash = BigInteger.valueOf(2557);
        for (long value : Looks.digested(x, buffer)) {
            hash = hash.multiply(BigInteger.valueOf(31)).add(BigInteger.valueOf(value));
        }
        return hash.longValue();
    }

    private static void digestOverflows() {
        Scenes.Scene[] scenes = {LeadTimes::new, Scenes::few, Scenes::busy, Scenes::crowded,
            () -> Scenes.at(9999, Scenes.busy()), () -> Scenes.farApart(-99, 99), () -> Scenes.text("~".repeat(60))};
        String[] buffers = {"", "7-", "12+3;-4", "1+1;2+2", "12+3;-4", "", "~".repeat(60)};
        for (int i = 0; i < scenes.length; i++) {
            Check.due("Promise 26: the last 64 bits without overflow, scene " + i, scenes[i].made().digest(),
                    digestInOtherArithmetic(scenes[i].made(), buffers[i]));
        }
        Check.due("Promise 26: of a new object", new LeadTimes().digest(), 3888670950990566204L);
    }

    /** Each value counts at its own place: what differs in one alone has another digest. */
    private static void digestOfEachValue() {
        LeadTimes saved = new LeadTimes();
        saved.set(1, 50);
        // behind count(6) come 99 values: 2 settings, 90 of contests, 4 of nextTurn, and 3
        Check.due("Promise 26: a saved state alone", saved.digest() - new LeadTimes().digest(), powerOf31(99));
        LeadTimes higher = new LeadTimes();
        higher.set(0, 1);
        Check.due("Promise 26: the setting 0 alone", higher.digest() - saved.digest(), powerOf31(98));
        LeadTimes longer = new LeadTimes();
        longer.set(1, 51);
        Check.due("Promise 26: the setting 1 alone", longer.digest() - saved.digest(), powerOf31(97));
        for (int horizon = 1; horizon <= 999; horizon += 499) {
            LeadTimes x = Scenes.full();
            x.set(1, horizon);
            Check.due("Promise 26: the horizon " + horizon, x.digest(), digestInOtherArithmetic(x, ""));
        }
    }

    private static long powerOf31(int exponent) {
        return BigInteger.valueOf(31).pow(exponent).longValue();
    }

    private static void digestOfBuffers() {
        long empty = new LeadTimes().digest();
        Check.due("Promise 26: one character", Scenes.text("!").digest(), (empty + 1) * 31 + 33);
        Check.due("Promise 26: two characters", Scenes.text("!~").digest(), ((empty + 2) * 31 + 33) * 31 + 126);
        Check.due("Promise 26: two characters in the other order", Scenes.text("~!").digest(),
                ((empty + 2) * 31 + 126) * 31 + 33);
        LeadTimes shorter = Scenes.text("12345");
        shorter.clearBuffer();
        shorter.append('1');
        Check.due("Promise 26: what was in the buffer once is not in it", shorter.digest(), Scenes.text("1").digest());
    }
}
