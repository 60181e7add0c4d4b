/** The boundaries that the promises 1 to 14 name, each by itself; what is refused stands in RefusalTest. */
public final class ChangeEdgesTest {
    private static final int NONE = -1;

    private ChangeEdgesTest() {
    }

    public static void main(String[] args) {
        newObject();
        addOfTheLimits();
        addOnTheLowestFreeSlot();
        remove();
        removeOfTheLastMover();
        speed();
        jumpByTheLimits();
        jumpToTheLimits();
        jumpFromBeyondTheLimits();
        swapOfTheLimits();
        swapOfFreeSlots();
        swapCountsOtherWinners();
        swapOfEquals();
        passOfTheLimits();
        passUpToTheLimitOfTime();
        passToTurnAtWholeMoments();
        passToTurnAheadOfWholeMoments();
        passToTurnUpToTheLimitOfTime();
        set();
        append();
        clearBuffer();
        textsLeaveTheRest();
        firstErrorOfEachCharacter();
        firstErrorOfNumbers();
        firstErrorOfFullBuffers();
        addAllOfOneAndOfMany();
        addAllOfTheLimits();
        addAllFillsTheFreeSlots();
        addAllAgain();
        undoOfTheOldest();
        undoIsOfEachUndoableCall();
        undoRestoresWhenOneWasAdded();
        undoLeavesTheBuffer();
        Check.end();
    }

    private static void newObject() {
        LeadTimes x = new LeadTimes();
        Check.dueEach("Promise 1: nothing there, count", x::count, 0, 0, 0, 0, 0, 0, 0);
        Check.dueEach("Promise 1: the settings", x::setting, 0, 50);
        Check.due("Promise 1: an empty buffer", x.clearBuffer(), 0);
        Check.due("Promise 1: no saved state", x.count(6), 0);
        Check.due("Promise 1: the slot 0 is free", x.add(0, 0), 0);
    }

    private static void addOfTheLimits() {
        int[][] pairs = {{-9999, -99}, {-9998, -98}, {9999, 99}, {9998, 98}, {-9999, 99}, {9999, -99}, {0, 0}};
        for (int[] pair : pairs) {
            String name = "Promise 2: " + pair[0] + " with " + pair[1];
            LeadTimes x = new LeadTimes();
            Check.due(name, x.add(pair[0], pair[1]), 0);
            Check.due(name + ", its value", x.mover(0, 0), pair[0]);
            Check.due(name + ", its speed", x.mover(0, 1), pair[1]);
            Check.due(name + ", saved", x.count(6), 1);
            x.undo();
            Check.due(name + ", undone", x.count(1), 0);
        }
    }

    private static void addOnTheLowestFreeSlot() {
        for (int free = 0; free < 16; free++) {
            LeadTimes x = Scenes.full();
            x.remove(free);
            Check.due("Promise 2: the only free slot", x.add(77, 7), free);
            Check.due("Promise 2: the mover on it", x.mover(free, 0), 77);
        }
        LeadTimes x = Scenes.full();
        x.remove(15);
        x.remove(0);
        x.remove(7);
        Check.due("Promise 2: the lowest of three", x.add(1, 1), 0);
        Check.due("Promise 2: the lowest of two", x.add(1, 1), 7);
        Check.due("Promise 2: the last one, so that all places are full", x.add(1, 1), 15);
        Check.due("Promise 2: all places are full", x.count(1), 16);
    }

    private static void remove() {
        LeadTimes x = Scenes.at(3, Scenes.full());
        Check.due("Promise 3: of the first slot, its value at present", x.remove(0), 0);
        Check.due("Promise 3: of the last slot, its value at present", x.remove(15), 45 - 225);
        Check.holds("Promise 3: the first slot is free", !Looks.has(x, 0));
        Check.holds("Promise 3: the last slot is free", !Looks.has(x, 15));
        Check.due("Promise 3: the others stay", x.count(1), 14);
        LeadTimes far = Scenes.farApart(99, -99);
        far.pass(99);
        Check.due("Promise 3: a value above the limit of jump", far.remove(0), 1009801);
        Check.due("Promise 3: a value below the limit of jump", far.remove(1), -1009801);
    }

    private static void removeOfTheLastMover() {
        LeadTimes x = Scenes.with(-3, 1);
        Check.due("Promise 3: of the only mover", x.remove(0), -3);
        Check.dueEach("Promise 3: nothing there any more, count", x::count, 0, 0, 0, 0, 0, 0, 2);
        Check.due("Promise 3: nobody leads then", x.leaderAfter(0), NONE);
        x.undo();
        Check.due("Promise 3: undone", x.mover(0, 0), -3);
    }

    private static void speed() {
        int[] speeds = {-99, -98, 0, 98, 99, 99};
        LeadTimes x = Scenes.at(2, Scenes.with(10, 3));
        int previous = 3;
        for (int speed : speeds) {
            Check.due("Promise 4: the previous speed, ahead of " + speed, x.speed(0, speed), previous);
            Check.due("Promise 4: the speed " + speed, x.mover(0, 1), speed);
            Check.due("Promise 4: the value at present stays", x.mover(0, 0), 16);
            previous = speed;
        }
        Check.due("Promise 4: saved, also the same speed again", x.count(6), 6);
        x.undo();
        Check.due("Promise 4: that is what was undone", x.mover(0, 1), 99);
        x.undo();
        Check.due("Promise 4: and that is the one before", x.mover(0, 1), 98);
        x.pass(1);
        Check.due("Promise 4: from now on", x.mover(0, 0), 114);
        LeadTimes full = Scenes.full();
        Check.due("Promise 4: of the first slot", full.speed(0, 5), 0);
        Check.due("Promise 4: of the last slot", full.speed(15, 5), 15);
    }

    private static void jumpByTheLimits() {
        int[] jumps = {-9999, -9998, -1, 0, 1, 9998, 9999};
        for (int by : jumps) {
            LeadTimes x = Scenes.with(3, 1);
            Check.due("Promise 5: its value then, by " + by, x.jump(0, by), 3 + by);
            Check.due("Promise 5: its value, by " + by, x.mover(0, 0), 3 + by);
            Check.due("Promise 5: its speed stays", x.mover(0, 1), 1);
            Check.due("Promise 5: saved, by " + by, x.count(6), 2);
        }
        LeadTimes full = Scenes.full();
        Check.due("Promise 5: of the first slot", full.jump(0, 1), 1);
        Check.due("Promise 5: of the last slot", full.jump(15, 1), -224);
    }

    private static void jumpToTheLimits() {
        LeadTimes x = Scenes.farApart(0, 0);
        Check.due("Promise 5: up to 1000000", x.mover(0, 0), 1000000);
        Check.due("Promise 5: down to -1000000", x.mover(1, 0), -1000000);
        Check.due("Promise 5: by 0 at 1000000", x.jump(0, 0), 1000000);
        Check.due("Promise 5: by 0 at -1000000", x.jump(1, 0), -1000000);
        Check.due("Promise 5: back from 1000000", x.jump(0, -1), 999999);
        Check.due("Promise 5: and there again", x.jump(0, 1), 1000000);
        Check.due("Promise 5: back from -1000000", x.jump(1, 1), -999999);
        Check.due("Promise 5: and there again", x.jump(1, -1), -1000000);
    }

    private static void jumpFromBeyondTheLimits() {
        LeadTimes x = Scenes.farApart(1, -1);
        Check.due("Promise 7: time leads beyond the limit of jump", x.pass(1), 0);
        Check.due("Promise 5: back to 1000000", x.jump(0, -1), 1000000);
        Check.due("Promise 5: back to -1000000", x.jump(1, 1), -1000000);
    }

    private static void swapOfTheLimits() {
        LeadTimes x = Scenes.full();
        Check.due("Promise 6: of 0 and 15: 8, 4, 2 and 15, 7, 3, but not 1", x.swap(0, 15), 6);
        Check.due("Promise 6: the first slot's value", x.mover(0, 0), -225);
        Check.due("Promise 6: the last slot's value", x.mover(15, 0), 0);
        Check.due("Promise 6: the first slot's speed", x.mover(0, 1), 15);
        Check.due("Promise 6: the last slot's speed", x.mover(15, 1), 0);
        Check.due("Promise 6: back", x.swap(15, 0), 6);
        Check.due("Promise 6: of a slot with itself", x.swap(15, 15), 0);
        Check.due("Promise 6: saved, also if it changes nothing", x.count(6), 6);
        x.undo();
        Check.due("Promise 6: that is what was undone", x.mover(0, 1), 0);
        x.undo();
        Check.due("Promise 6: and that is the one before", x.mover(0, 1), 15);
    }

    private static void swapOfFreeSlots() {
        LeadTimes x = Scenes.with(5, 2);
        Check.due("Promise 6: both are free", x.swap(14, 15), 0);
        Check.due("Promise 6: a free one with itself", x.swap(3, 3), 0);
        Check.due("Promise 6: one is free, in the same pair", x.swap(0, 1), 0);
        Check.holds("Promise 6: the first slot is free then", !Looks.has(x, 0));
        Check.due("Promise 6: the first one is free", x.swap(0, 1), 0);
        Check.holds("Promise 6: the second slot is free then", !Looks.has(x, 1));
        Check.due("Promise 6: saved each time", x.count(6), 5);
        LeadTimes late = Scenes.at(6, new LeadTimes());
        late.add(5, 2);
        late.swap(0, 15);
        Check.due("Promise 6: to a slot that was free, its value", late.mover(15, 0), 5);
        Check.due("Promise 6: to a slot that was free, its speed", late.mover(15, 1), 2);
        Check.due("Promise 6: to a slot that was free, when it was added", late.mover(15, 6), 6);
    }

    private static void swapCountsOtherWinners() {
        LeadTimes x = Scenes.with(9, 0, 8, 0, 7, 0, 6, 0, 5, 0);
        Check.due("Promise 6: none, as both slots are of one pair", x.swap(0, 1), 0);
        Check.due("Promise 6: the pair's winner is the same mover", x.contest(8, 0), 1);
        Check.due("Promise 6: a loser wins in the other pair", x.swap(0, 3), 1);
        Check.due("Promise 6: the winners of two pairs", x.swap(1, 2), 2);
        Check.due("Promise 6: the winners of 4 and 5, so that 9, 4 and 10, 5 have others", x.swap(2, 4), 4);
        Check.due("Promise 6: losers that lose again", Scenes.with(9, 0, 2, 0, 8, 0, 1, 0).swap(1, 3), 0);
    }

    private static void swapOfEquals() {
        LeadTimes pair = Scenes.with(5, 1, 5, 1);
        Check.due("Promise 6: equals of one pair: by the mover, not by the slot", pair.swap(0, 1), 4);
        LeadTimes ends = Scenes.with(5, 1, 5, 1);
        ends.swap(1, 15);
        Check.due("Promise 6: equals at both ends: all seven contests", ends.swap(0, 15), 7);
    }

    private static void passOfTheLimits() {
        LeadTimes x = Scenes.with(0, 1);
        Check.due("Promise 7: 1", x.pass(1), 0);
        Check.due("Promise 7: the time then", x.count(0), 1);
        Check.due("Promise 7: 99", x.pass(99), 0);
        Check.due("Promise 7: the time then", x.count(0), 100);
        Check.due("Promise 7: the value then", x.mover(0, 0), 100);
        Check.due("Promise 7: saved each time", x.count(6), 3);
        LeadTimes none = new LeadTimes();
        Check.due("Promise 7: without movers", none.pass(2), 0);
        Check.due("Promise 7: without movers, the time then", none.count(0), 2);
        Check.due("Promise 7: a turn at 99", Scenes.with(99, 0, 0, 1).pass(99), 4);
        Check.due("Promise 7: a turn behind 99", Scenes.with(100, 0, 0, 1).pass(99), 0);
        Check.due("Promise 7: all turns of a full object", Scenes.full().pass(29), 49);
        Check.due("Promise 7: but for the last one, of 15, 7, 3 and 1", Scenes.full().pass(28), 45);
    }

    private static void passUpToTheLimitOfTime() {
        LeadTimes one = Scenes.at(9998, Scenes.with(0, 1));
        Check.due("Promise 7: 1, up to 9999", one.pass(1), 0);
        Check.due("Promise 7: the time is 9999", one.count(0), 9999);
        Check.due("Promise 7: the value at 9999", one.mover(0, 0), 9999);
        LeadTimes most = Scenes.at(9900, Scenes.with(9999, 0, 0, 1));
        Check.due("Promise 7: 99, up to 9999, with a turn at 9999", most.pass(99), 4);
        Check.due("Promise 7: the time is 9999", most.count(0), 9999);
    }

    private static void passToTurnAtWholeMoments() {
        LeadTimes x = Scenes.with(10, 0, 0, 5);
        Check.due("Promise 8: at a whole moment", x.passToTurn(), 4);
        Check.due("Promise 8: the time then", x.count(0), 2);
        Check.due("Promise 8: saved", x.count(6), 3);
        LeadTimes one = Scenes.with(5, 0, 0, 5);
        Check.due("Promise 8: the least whole moment", one.passToTurn(), 4);
        Check.due("Promise 8: the time then", one.count(0), 1);
        // who have the same value now turned before, and meet nobody else until 5
        LeadTimes now = Scenes.with(5, 0, 5, 1, 0, 2);
        Check.due("Promise 8: later than now", now.passToTurn(), 3);
        Check.due("Promise 8: the time then", now.count(0), 5);
        LeadTimes far = Scenes.with(500, 0, 0, 1);
        Check.due("Promise 8: farther than pass goes", far.passToTurn(), 4);
        Check.due("Promise 8: the time then", far.count(0), 500);
        Check.due("Promise 8: the value then", far.mover(1, 0), 500);
    }

    private static void passToTurnAheadOfWholeMoments() {
        int[] gaps = {1, 197, 198, 199, 396, 397};
        int[] times = {1, 1, 1, 2, 2, 3};
        for (int i = 0; i < gaps.length; i++) {
            LeadTimes x = Scenes.with(gaps[i], -99, 0, 99);
            Check.due("Promise 8: at " + gaps[i] + " by 198", x.passToTurn(), 4);
            Check.due("Promise 8: the first whole moment then", x.count(0), times[i]);
        }
        LeadTimes two = Scenes.with(1, 0, 0, 3, -2, 6);
        Check.due("Promise 8: all turns ahead of the whole moment", two.passToTurn(), 7);
        Check.due("Promise 8: the time then", two.count(0), 1);
        // 4, 2 and 1 turn at 3/2, 8 turns at 2
        LeadTimes later = Scenes.with(2, 0, 0, 1, -3, 2, -1, 2);
        Check.due("Promise 8: those ahead of the whole moment, and those at it", later.passToTurn(), 4);
        Check.due("Promise 8: the time then", later.count(0), 2);
    }

    private static void passToTurnUpToTheLimitOfTime() {
        LeadTimes x = Scenes.with(9999, 0, 0, 1);
        Check.due("Promise 8: up to 9999", x.passToTurn(), 4);
        Check.due("Promise 8: the time is 9999", x.count(0), 9999);
        LeadTimes part = Scenes.with(9999, -1, -9998, 1);
        Check.due("Promise 8: 9998 and a half, up to 9999", part.passToTurn(), 4);
        Check.due("Promise 8: the time is 9999", part.count(0), 9999);
        LeadTimes late = Scenes.at(9998, Scenes.with(9999, 0, 0, 1));
        Check.due("Promise 8: 1 at 9998", late.passToTurn(), 4);
        Check.due("Promise 8: the time is 9999", late.count(0), 9999);
    }

    private static void set() {
        LeadTimes x = new LeadTimes();
        Check.due("Promise 9: setting 0, at first 0", x.set(0, 1), 0);
        Check.due("Promise 9: setting 0 is 1", x.set(0, 0), 1);
        Check.due("Promise 9: setting 0 is 0", x.set(0, 0), 0);
        Check.due("Promise 9: setting 1, at first 50", x.set(1, 1), 50);
        Check.due("Promise 9: setting 1 is 1", x.set(1, 999), 1);
        Check.due("Promise 9: setting 1 is 999", x.set(1, 998), 999);
        Check.due("Promise 9: setting 1 is 998", x.set(1, 998), 998);
        Check.due("Promise 9: setting 1 stays, as 0 is changed", x.set(0, 1) * 1000 + x.setting(1), 998);
        Check.due("Promise 9: saved, also without a change", x.count(6), 6);
        x.undo();
        Check.due("Promise 9: undone", x.setting(0), 0);
    }

    private static void append() {
        LeadTimes x = new LeadTimes();
        Check.due("Promise 10: the least code", x.append(33), 1);
        Check.due("Promise 10: the greatest code", x.append(126), 2);
        Check.due("Promise 10: the code beside the least", x.append(34), 3);
        Check.due("Promise 10: the code beside the greatest", x.append(125), 4);
        Check.due("Promise 10: they stand in the buffer", x.digest(), Looks.digest(new LeadTimes(), "!~\"}"));
        for (int length = 5; length <= 60; length++) {
            Check.due("Promise 10: up to 60 characters", x.append('9'), length);
        }
        Check.due("Promise 10: not undoable", x.count(6), 0);
        x.clearBuffer();
        Check.due("Promise 10: again from the first on", x.append('9'), 1);
    }

    private static void clearBuffer() {
        Check.due("Promise 11: of an empty buffer", new LeadTimes().clearBuffer(), 0);
        Check.due("Promise 11: of one character", Scenes.text("x").clearBuffer(), 1);
        LeadTimes x = Scenes.text("0".repeat(60));
        Check.due("Promise 11: of a full buffer", x.clearBuffer(), 60);
        Check.due("Promise 11: it is empty then", x.clearBuffer(), 0);
        Check.due("Promise 11: nothing stays in it", x.digest(), new LeadTimes().digest());
        Check.due("Promise 11: not undoable", x.count(6), 0);
    }

    private static void textsLeaveTheRest() {
        String before = Looks.whole(Scenes::busy);
        String behind = Looks.whole(() -> {
            LeadTimes x = Scenes.busy();
            x.clearBuffer();
            x.firstError();
            return Scenes.typed(x, "12+3;-4");
        });
        Check.holds("Promises 10 to 12: all but the buffer stays, also what is saved", before.equals(behind));
    }

    /** Behind each beginning, all characters from 33 to 126. */
    private static void firstErrorOfEachCharacter() {
        String[] beginnings = {"", "-", "0", "-0", "5", "-5", "10", "199", "9999", "-9999", "0+", "0-", "0+0",
            "0-0", "0+7", "0-99", "0+10", "0+0;", "0+0;-", "0+0;0", "0+0;12", "12-34;5+6;"};
        String digits = "0123456789";
        String[] rights = {digits + "-", digits, "+-", "+-", digits + "+-", digits + "+-", digits + "+-",
            digits + "+-", "+-", "+-", digits, digits, ";", ";", digits + ";", ";", ";", digits + "-", digits, "+-",
            digits + "+-", digits + "-"};
        for (int i = 0; i < beginnings.length; i++) {
            int length = beginnings[i].length();
            Check.due("Promise 12: no error in " + beginnings[i], Scenes.text(beginnings[i]).firstError(), length);
            for (char code = 33; code <= 126; code++) {
                boolean isRight = rights[i].indexOf(code) >= 0;
                Check.due("Promise 12: behind " + beginnings[i] + ", the character " + code,
                        Scenes.text(beginnings[i] + code).firstError(), isRight ? length + 1 : length);
            }
        }
    }

    private static void firstErrorOfNumbers() {
        Object[][] texts = {
            {"0+0", 3}, {"9999+99", 7}, {"-9999-99", 8}, {"10000+0", 4}, {"-10000+0", 5}, {"0+100", 4}, {"00+0", 1},
            {"-00+0", 2}, {"01+0", 1}, {"0+00", 3}, {"0+01", 3}, {"-0-0", 4}, {"--1+0", 1}, {"1--1", 2}, {"1+-1", 2},
            {"+1+1", 0}, {";", 0}, {"1+1;;", 4}, {"1;", 1}, {"1+;", 2}, {"1+1;+", 4}, {"1+1;-1+1", 8}, {"xx", 0},
            {"1+1x;00", 3}, {"", 0},
        };
        for (Object[] text : texts) {
            Check.due("Promise 12: of " + text[0], Scenes.text((String) text[0]).firstError(), (Integer) text[1]);
        }
    }

    private static void firstErrorOfFullBuffers() {
        String movers = "0+0;".repeat(15);
        Check.due("Promise 12: 60 characters, more may follow", Scenes.text(movers).firstError(), 60);
        String right = movers.substring(0, 59);
        Check.due("Promise 12: the last of 60 is an error", Scenes.text(right + "x").firstError(), 59);
        Check.due("Promise 12: the first of 60 is an error", Scenes.text("x" + right).firstError(), 0);
        LeadTimes x = Scenes.text(right);
        x.firstError();
        Check.due("Promise 12: the buffer stays", x.clearBuffer(), 59);
    }

    private static void addAllOfOneAndOfMany() {
        LeadTimes one = Scenes.text("7-3");
        Check.due("Promise 13: of one mover", one.addAll(), 1);
        Check.due("Promise 13: its value", one.mover(0, 0), 7);
        Check.due("Promise 13: its speed", one.mover(0, 1), -3);
        Check.due("Promise 13: the buffer is empty then", one.clearBuffer(), 0);
        LeadTimes many = Scenes.text("1+0;2+0;3+0;4+0;5+0;6+0;7+0;8+0;9+0;1+1;2+2;3+3;4+4;5+5;66+6");
        Check.due("Promise 13: of a full buffer", many.addAll(), 15);
        Check.due("Promise 13: the first one", many.mover(0, 0), 1);
        Check.due("Promise 13: the last one", many.mover(14, 0), 66);
        Check.due("Promise 13: undoable as one call", many.count(6), 1);
        many.undo();
        Check.due("Promise 13: all are gone", many.count(1), 0);
    }

    private static void addAllOfTheLimits() {
        LeadTimes x = Scenes.at(8, new LeadTimes());
        Scenes.typed(x, "-9999-99;9999+99;-0-0;0+0;10-10");
        Check.due("Promise 13: of the limits", x.addAll(), 5);
        int[] values = {-9999, 9999, 0, 0, 10};
        int[] speeds = {-99, 99, 0, 0, -10};
        for (int slot = 0; slot < 5; slot++) {
            Check.due("Promise 13: value on " + slot, x.mover(slot, 0), values[slot]);
            Check.due("Promise 13: speed on " + slot, x.mover(slot, 1), speeds[slot]);
            Check.due("Promise 13: added at, on " + slot, x.mover(slot, 6), 8);
        }
    }

    private static void addAllFillsTheFreeSlots() {
        LeadTimes x = Scenes.full();
        x.remove(0);
        x.remove(8);
        x.remove(15);
        Scenes.typed(x, "1+1;2+2;3+3");
        Check.due("Promise 13: as many as there are free slots", x.addAll(), 16);
        Check.due("Promise 13: the first free slot", x.mover(0, 0), 1);
        Check.due("Promise 13: the next free slot", x.mover(8, 0), 2);
        Check.due("Promise 13: the last free slot", x.mover(15, 0), 3);
        LeadTimes last = Scenes.with(5, 5);
        Scenes.typed(last, "0+0;".repeat(14) + "0+0");
        Check.due("Promise 13: fifteen to one", last.addAll(), 16);
    }

    private static void addAllAgain() {
        LeadTimes x = Scenes.text("12-34;5+6");
        x.addAll();
        Check.due("Promise 13: a second time", Scenes.typed(x, "7+8").addAll(), 3);
        Check.due("Promise 13: a second time, its value", x.mover(2, 0), 7);
        Check.due("Promise 13: a second time, its speed", x.mover(2, 1), 8);
    }

    private static void undoOfTheOldest() {
        for (int calls = 1; calls <= 8; calls++) {
            LeadTimes x = new LeadTimes();
            for (int i = 0; i < calls; i++) {
                x.add(i, 0);
            }
            int kept = Math.min(calls, 6);
            Check.due("Promise 14: saved states of " + calls + " calls", x.count(6), kept);
            for (int left = kept - 1; left >= 0; left--) {
                Check.due("Promise 14: how many are left", x.undo(), left);
                Check.due("Promise 14: the latest one is restored", x.count(1), calls - kept + left);
            }
            x.add(50, 5);
            Check.due("Promise 14: saved again from the first on", x.count(6), 1);
            Check.due("Promise 14: none is left", x.undo(), 0);
            Check.due("Promise 14: restored again", x.count(1), calls - kept);
        }
    }

    /** An object in which the seventh call behind drops what was saved; a change of its own is the last one. */
    private static LeadTimes ready() {
        LeadTimes x = Scenes.full();
        x.pass(3);
        x.set(1, 60);
        return Scenes.typed(x, "5+5");
    }

    private static void undoIsOfEachUndoableCall() {
        Scenes.Scene[] calls = {
            () -> behind(ready(), x -> x.remove(15)), () -> behind(ready(), x -> x.speed(2, 9)),
            () -> behind(ready(), x -> x.speed(2, 2)), () -> behind(ready(), x -> x.jump(2, 77)),
            () -> behind(ready(), x -> x.jump(2, 0)), () -> behind(ready(), x -> x.swap(2, 9)),
            () -> behind(ready(), x -> x.swap(4, 4)), () -> behind(ready(), x -> x.pass(20)),
            () -> behind(ready(), LeadTimes::passToTurn), () -> behind(ready(), x -> x.set(0, 1)),
            () -> behind(ready(), x -> x.set(0, 0)), () -> behind(ready(), x -> x.set(1, 7)),
            () -> behind(ready(), x -> x.set(1, 60)),
        };
        String before = Looks.all(dropOne(ready()));
        for (int i = 0; i < calls.length; i++) {
            LeadTimes x = calls[i].made();
            Check.due("Undo (promise 14): call " + i + " is saved, and the oldest state dropped", x.count(6), 6);
            Check.due("Undo (promise 14): how many are left, call " + i, x.undo(), 5);
            Check.holds("Undo (promise 14): all is as before call " + i, before.equals(Looks.all(x)));
        }
        LeadTimes text = Scenes.with(1, 1);
        Scenes.typed(text, "5+5;6+6").addAll();
        Check.due("Undo (promise 14): addAll is saved", text.count(6), 2);
        text.undo();
        Check.due("Undo (promise 14): all is as before addAll", text.digest(), Scenes.with(1, 1).digest());
    }

    private static LeadTimes behind(LeadTimes x, RefusalTest.Call call) {
        call.on(x);
        return x;
    }

    /** The same object with one saved state less, as there is behind a call and its undo(). */
    private static LeadTimes dropOne(LeadTimes x) {
        x.pass(1);
        x.undo();
        return x;
    }

    private static void undoRestoresWhenOneWasAdded() {
        LeadTimes x = Scenes.at(7, Scenes.with(1, 1));
        x.add(2, 2);
        x.remove(1);
        x.undo();
        Check.due("Undo (promise 14): of remove, when it was added", x.mover(1, 6), 7);
        x.swap(0, 1);
        x.undo();
        Check.due("Undo (promise 14): of swap, when the first one was added", x.mover(0, 6), 0);
        Check.due("Undo (promise 14): of swap, when the second one was added", x.mover(1, 6), 7);
    }

    private static void undoLeavesTheBuffer() {
        LeadTimes x = Scenes.text("1+");
        x.pass(4);
        x.append('7');
        x.undo();
        Check.due("Undo (promise 14): the buffer stays as it is", x.digest(), Scenes.text("1+7").digest());
        x.addAll();
        x.undo();
        Check.due("Undo (promise 14): it stays empty behind addAll", x.clearBuffer(), 0);
        Scenes.typed(x, "9+9").clearBuffer();
        Check.due("Promise 11: it is not undoable", x.count(6), 0);
        LeadTimes twice = Scenes.with(1, 1, 2, 2, 3, 3);
        twice.undo();
        twice.undo();
        Check.due("Promise 14: undo is not undoable", twice.count(6), 1);
        Check.due("Promise 14: two states back", twice.count(1), 1);
    }
}
