/** Each promise of the document by itself: ordinary inputs, the edges it names, and wrong inputs. */
public final class PromiseTest {
    private static final Class<IllegalArgumentException> ARGUMENT = IllegalArgumentException.class;
    private static final Class<IllegalStateException> STATE = IllegalStateException.class;
    private static final Class<IndexOutOfBoundsException> INDEX = IndexOutOfBoundsException.class;
    private static final int NONE = -1;

    private PromiseTest() {
    }

    public static void main(String[] args) {
        newObject();
        add();
        remove();
        speed();
        jump();
        swap();
        swapOfNoMover();
        pass();
        passToTurn();
        set();
        append();
        clearBuffer();
        firstError();
        addAll();
        undo();
        undoOfEachCall();
        mover();
        contest();
        nextTurn();
        span();
        count();
        setting();
        leaderAfter();
        overtakes();
        turnsIn();
        leastSpeed();
        leadShare();
        digest();
        Check.end();
    }

    /** What a look answers for what from 0 on. */
    private static void dueAll(String name, LeadTimes x, Check.Look look, int... wants) {
        for (int what = 0; what < wants.length; what++) {
            int asked = what;
            Check.dueLook(name + " " + what, x, wants[what], () -> look.answer(asked));
        }
    }

    /** Promise 1. */
    private static void newObject() {
        LeadTimes x = new LeadTimes();
        dueAll("new count", x, x::count, 0, 0, 0, 0, 0, 0, 0);
        dueAll("new nextTurn", x, x::nextTurn, 0, 0, 0, NONE);
        for (int slot = 0; slot < 16; slot++) {
            Check.holds("slot " + slot + " is free", !Looks.has(x, slot));
        }
        dueAll("new setting", x, x::setting, 0, 50);
        Check.due("new clearBuffer", x.clearBuffer(), 0);
        LeadTimes other = new LeadTimes();
        other.add(1, 1);
        Check.due("objects have nothing in common", x.count(1), 0);
    }

    /** Promise 2. */
    private static void add() {
        LeadTimes x = new LeadTimes();
        Check.due("add least", x.add(-9999, -99), 0);
        Check.due("add most", x.add(9999, 99), 1);
        Check.due("value 0", x.mover(0, 0), -9999);
        Check.due("speed 0", x.mover(0, 1), -99);
        Check.due("value 1", x.mover(1, 0), 9999);
        Check.due("speed 1", x.mover(1, 1), 99);
        for (int wrong : new int[] {-10000, 10000, Integer.MIN_VALUE, Integer.MAX_VALUE}) {
            Check.dueThrows("add value " + wrong, x, ARGUMENT, () -> x.add(wrong, 0));
        }
        for (int wrong : new int[] {-100, 100, Integer.MIN_VALUE, Integer.MAX_VALUE}) {
            Check.dueThrows("add speed " + wrong, x, ARGUMENT, () -> x.add(0, wrong));
        }
        x.add(0, 0);
        x.remove(1);
        Check.due("add on the lowest free slot", x.add(7, 7), 1);
        LeadTimes full = Scenes.full();
        Check.dueThrows("add without a slot", full, STATE, () -> full.add(0, 0));
        Check.dueThrows("add with a wrong value is told first", full, ARGUMENT, () -> full.add(10000, 0));
        full.remove(15);
        Check.due("add on the last slot", full.add(0, 0), 15);
    }

    /** Promise 3. */
    private static void remove() {
        LeadTimes x = Scenes.with(10, 3, 20, 1);
        x.pass(4);
        Check.due("remove", x.remove(0), 22);
        Check.holds("the slot is free", !Looks.has(x, 0));
        Check.due("movers", x.count(1), 1);
        Check.due("the leader then", x.contest(1, 0), 1);
        Check.due("nothing is counted", x.count(3), 0);
        Check.dueThrows("remove again", x, INDEX, () -> x.remove(0));
        for (int wrong : new int[] {-1, 16, Integer.MIN_VALUE, Integer.MAX_VALUE}) {
            Check.dueThrows("remove " + wrong, x, INDEX, () -> x.remove(wrong));
        }
    }

    /** Promise 4. */
    private static void speed() {
        LeadTimes x = Scenes.with(10, 3, 0, -4);
        x.pass(2);
        Check.due("speed", x.speed(0, -5), 3);
        Check.due("its value stays", x.mover(0, 0), 16);
        Check.due("the next turn is another one", x.nextTurn(0), 26);
        x.pass(1);
        Check.due("it has the new speed from then on", x.mover(0, 0), 11);
        Check.due("speed least", x.speed(0, -99), -5);
        Check.due("speed most", x.speed(0, 99), -99);
        Check.due("speed of the other one", x.speed(1, 0), -4);
        Check.dueThrows("speed 100", x, ARGUMENT, () -> x.speed(0, 100));
        Check.dueThrows("speed -100", x, ARGUMENT, () -> x.speed(0, -100));
        Check.dueThrows("speed of none", x, INDEX, () -> x.speed(2, 0));
        Check.dueThrows("speed of none is told first", x, INDEX, () -> x.speed(16, 100));
        Check.dueThrows("speed of -1", x, INDEX, () -> x.speed(-1, 0));
    }

    /** Promise 5. */
    private static void jump() {
        LeadTimes x = Scenes.with(10, 0, 12, 0);
        Check.due("jump", x.jump(0, 5), 15);
        Check.due("leader then", x.contest(1, 0), 0);
        Check.due("nothing is counted", x.count(3), 0);
        Check.due("jump down", x.jump(0, -9999), -9984);
        Check.due("jump by nothing", x.jump(1, 0), 12);
        Check.dueThrows("jump 10000", x, ARGUMENT, () -> x.jump(0, 10000));
        Check.dueThrows("jump -10000", x, ARGUMENT, () -> x.jump(0, -10000));
        Check.dueThrows("jump of none", x, INDEX, () -> x.jump(2, 0));
        Check.dueThrows("jump of none is told first", x, INDEX, () -> x.jump(16, 10000));
        jumpToTheLimits();
    }

    private static void jumpToTheLimits() {
        LeadTimes x = Scenes.with(9999, 0, -9999, 0);
        for (int i = 0; i < 99; i++) {
            x.jump(0, 9999);
            x.jump(1, -9999);
        }
        Check.due("jump up to the limit", x.jump(0, 100), 1000000);
        Check.due("jump down to the limit", x.jump(1, -100), -1000000);
        Check.dueThrows("jump above the limit", x, STATE, () -> x.jump(0, 1));
        Check.dueThrows("jump below the limit", x, STATE, () -> x.jump(1, -1));
        Check.dueThrows("a wrong by is told first", x, ARGUMENT, () -> x.jump(0, 10000));
        x.speed(0, 99);
        x.pass(99);
        Check.due("time goes above the limit", x.mover(0, 0), 1009801);
        Check.dueThrows("jump, but not back enough", x, STATE, () -> x.jump(0, -9800));
        Check.dueThrows("jump by nothing, above the limit", x, STATE, () -> x.jump(0, 0));
        Check.due("jump back to the limit", x.jump(0, -9801), 1000000);
    }

    /** Promise 6. */
    private static void swap() {
        LeadTimes x = Scenes.with(5, 0, 4, 0, 3, 0);
        x.pass(1);
        x.add(2, 0);
        Check.due("swap in a pair", x.swap(0, 1), 0);
        Check.due("value on 0", x.mover(0, 0), 4);
        Check.due("value on 1", x.mover(1, 0), 5);
        // the pairs are 5 with 3 and 4 with 2 then: 9 has another winner, 8 and all others have not
        Check.due("swap of two pairs", x.swap(0, 2), 1);
        Check.due("swap of pairs with their winners", x.swap(1, 3), 2);
        Check.due("time of adding goes along", x.mover(1, 6), 1);
        Check.due("swap with itself", x.swap(2, 2), 0);
        Check.due("nothing is counted", x.count(3), 0);
        Check.dueThrows("swap 16", x, INDEX, () -> x.swap(16, 0));
        Check.dueThrows("swap -1", x, INDEX, () -> x.swap(-1, 0));
        Check.dueThrows("swap with 16", x, INDEX, () -> x.swap(0, 16));
        Check.dueThrows("swap with -1", x, INDEX, () -> x.swap(0, -1));
        LeadTimes same = Scenes.with(5, 0, 5, 0);
        Check.due("as equals, the lower slot wins: all four contests", same.swap(0, 1), 4);
    }

    private static void swapOfNoMover() {
        LeadTimes x = Scenes.with(5, 0);
        Check.due("swap of free slots", x.swap(3, 4), 0);
        Check.due("it is saved", x.count(6), 2);
        Check.due("swap to a free slot of the pair", x.swap(0, 1), 0);
        Check.holds("the mover is gone from 0", !Looks.has(x, 0));
        Check.due("the mover is on 1", x.mover(1, 0), 5);
        // 2, 4, 8 have no winner any more, and 3, 7, 15 have the one that they had not
        Check.due("swap to the other end", x.swap(15, 1), 6);
        Check.due("the mover is on 15", x.mover(15, 0), 5);
        Check.due("its contests", x.mover(15, 3), 4);
    }

    /** Promise 7. */
    private static void pass() {
        LeadTimes x = Scenes.full();
        Check.due("pass 1: at the moment itself is counted", x.pass(1), 4);
        Check.due("pass 1: nothing is counted twice", x.pass(1), 0);
        Check.due("pass 97", x.pass(97), 45);
        Check.due("time", x.count(0), 99);
        Check.due("values grow", x.mover(15, 0), 15 * 99 - 225);
        Check.due("all turns", x.count(3), 49);
        Check.due("turns of the contest 1", x.count(4), 15);
        Check.due("pass 99", x.pass(99), 0);
        for (int wrong : new int[] {0, -1, 100, Integer.MIN_VALUE, Integer.MAX_VALUE}) {
            Check.dueThrows("pass " + wrong, x, ARGUMENT, () -> x.pass(wrong));
        }
        LeadTimes late = Scenes.with(0, 1);
        for (int i = 0; i < 100; i++) {
            late.pass(99);
        }
        Check.due("pass up to 9998", late.pass(98), 0);
        Check.dueThrows("pass above 9999", late, STATE, () -> late.pass(2));
        Check.dueThrows("a wrong by is told first", late, ARGUMENT, () -> late.pass(100));
        Check.due("pass up to 9999", late.pass(1), 0);
        Check.due("time 9999", late.count(0), 9999);
        Check.dueThrows("pass above 9999", late, STATE, () -> late.pass(1));
    }

    /** Promise 8. */
    private static void passToTurn() {
        LeadTimes x = Scenes.with(0, 3, -5, 4, 6, 0);
        Check.due("next turn", x.nextTurn(0), 2);
        Check.due("passToTurn to a whole moment: 4, 2 and 1 turn", x.passToTurn(), 3);
        Check.due("time", x.count(0), 2);
        Check.due("passToTurn to the next one: 8, 4, 2 and 1 turn", x.passToTurn(), 4);
        Check.due("time", x.count(0), 5);
        Check.dueThrows("passToTurn without a turn", x, STATE, x::passToTurn);
        LeadTimes part = Scenes.with(1, 0, 0, 3, -2, 6, -90, 7);
        // at 1/3 (8, 4, 2, 1) and at 2/3 (4, 2, 1): all are counted, as the first whole moment is 1
        Check.due("passToTurn behind two moments", part.passToTurn(), 7);
        Check.due("time", part.count(0), 1);
        LeadTimes far = Scenes.with(9999, 0, 0, 1);
        Check.due("passToTurn to 9999", far.passToTurn(), 4);
        Check.due("time", far.count(0), 9999);
        LeadTimes farther = Scenes.with(9999, 0, -1, 1);
        Check.dueThrows("passToTurn above 9999", farther, STATE, farther::passToTurn);
        LeadTimes later = Scenes.with(5000, 0, 0, 1);
        later.pass(1);
        later.jump(0, 5001);
        Check.dueThrows("passToTurn above 9999 from later", later, STATE, later::passToTurn);
        later.jump(0, -2);
        Check.due("passToTurn to 9999 from later", later.passToTurn(), 4);
    }

    /** Promise 9. */
    private static void set() {
        LeadTimes x = Scenes.with(5, 1, 5, 1, 5, 1);
        Check.due("set 0", x.set(0, 1), 0);
        Check.due("the greater number is ahead then", x.contest(1, 0), 2);
        Check.due("also in the pair", x.contest(8, 0), 1);
        Check.due("nothing is counted", x.count(3), 0);
        Check.due("set 0 again", x.set(0, 0), 1);
        Check.due("the lower number is ahead then", x.contest(1, 0), 0);
        Check.due("set 1", x.set(1, 999), 50);
        Check.due("set 1 again", x.set(1, 1), 999);
        Check.due("it stays", x.set(1, 1), 1);
        Check.due("it is saved also without a change", x.count(6), 6);
        Check.dueThrows("set 0 to 2", x, ARGUMENT, () -> x.set(0, 2));
        Check.dueThrows("set 0 to -1", x, ARGUMENT, () -> x.set(0, -1));
        Check.dueThrows("set 1 to 0", x, ARGUMENT, () -> x.set(1, 0));
        Check.dueThrows("set 1 to 1000", x, ARGUMENT, () -> x.set(1, 1000));
        Check.dueThrows("set 2", x, INDEX, () -> x.set(2, 1));
        Check.dueThrows("set -1 is told first", x, INDEX, () -> x.set(-1, 1000));
    }

    /** Promise 10. */
    private static void append() {
        LeadTimes x = new LeadTimes();
        Check.due("append 33", x.append(33), 1);
        Check.due("append 126", x.append(126), 2);
        for (int wrong : new int[] {32, 127, -1, 0, Integer.MIN_VALUE, Integer.MAX_VALUE}) {
            Check.dueThrows("append " + wrong, x, ARGUMENT, () -> x.append(wrong));
        }
        for (int length = 3; length <= 60; length++) {
            Check.due("append", x.append('0'), length);
        }
        Check.dueThrows("append to 60", x, STATE, () -> x.append('0'));
        Check.dueThrows("a wrong code is told first", x, ARGUMENT, () -> x.append(32));
        Check.due("nothing is saved", x.count(6), 0);
    }

    /** Promise 11. */
    private static void clearBuffer() {
        LeadTimes x = new LeadTimes();
        Check.due("clearBuffer of nothing", x.clearBuffer(), 0);
        Scenes.typed(x, "1+x");
        Check.due("clearBuffer", x.clearBuffer(), 3);
        Check.due("clearBuffer again", x.clearBuffer(), 0);
        Check.due("append then", x.append('1'), 1);
        Check.due("nothing is saved", x.count(6), 0);
    }

    /** Promise 12. */
    private static void firstError() {
        Object[] texts = {
            "", 0, "-", 1, "0", 1, "00", 1, "-0", 2, "-00", 2, "05", 1, "+5", 0, "--", 1, "-+", 1,
            "9999", 4, "99990", 4, "-9999", 5, "-99999", 5, "1234+", 5, "5+", 2, "5+0", 3, "5+00", 3,
            "5+05", 3, "5-99", 4, "5-999", 4, "5+-", 2, "5++", 2, "5-;", 2, "5;", 1, ";", 0, "5+1;", 4,
            "5+1;;", 4, "5+1;-0-0", 8, "5+1;+", 4, "5+1-", 3, "5+1;12-34;x", 10, "x", 0, "1x", 1,
            "-x", 1, "1+x", 2, "1+1x", 3, "1+11x", 4, "1/", 1, "1:", 1, "1+0;0+0;0-0", 11, "1000+10;1", 9,
        };
        for (int i = 0; i < texts.length; i += 2) {
            LeadTimes x = new LeadTimes();
            Scenes.typed(x, (String) texts[i]);
            Check.dueLook("firstError of " + texts[i], x, (Integer) texts[i + 1], x::firstError);
        }
        LeadTimes x = new LeadTimes();
        Scenes.typed(x, "0+0;0+0;0+0;0+0;0+0;0+0;0+0;0+0;0+0;0+0;0+0;0+0;0+0;0+0;0+0;");
        Check.dueLook("a full buffer has no error, as the text may be longer", x, 60, x::firstError);
        Check.dueThrows("but it is not complete", x, ARGUMENT, x::addAll);
    }

    /** Promise 13. */
    private static void addAll() {
        LeadTimes x = Scenes.with(1, 1, 2, 2, 3, 3);
        x.pass(1);
        x.remove(1);
        Scenes.typed(x, "-9999-99;0+0;9999+99;-0-0;10+5");
        Check.due("addAll", x.addAll(), 7);
        int[] values = {2, -9999, 6, 0, 9999, 0, 10};
        int[] speeds = {1, -99, 3, 0, 99, 0, 5};
        int[] added = {0, 1, 0, 1, 1, 1, 1};
        for (int slot = 0; slot < 7; slot++) {
            Check.due("value on " + slot, x.mover(slot, 0), values[slot]);
            Check.due("speed on " + slot, x.mover(slot, 1), speeds[slot]);
            Check.due("added on " + slot, x.mover(slot, 6), added[slot]);
        }
        Check.due("the leader then", x.contest(1, 0), 4);
        Check.due("the buffer is clear", x.clearBuffer(), 0);
        Check.due("nothing is counted", x.count(3), 0);
        Check.due("undo as one call", x.undo(), 5);
        Check.due("movers then", x.count(1), 2);
        Check.due("the buffer stays clear", x.clearBuffer(), 0);
        for (String text : new String[] {"", "-", "5", "-5", "5+", "5+3;", "5+3;x", "x", "5+3 ", "5+03", "05+3"}) {
            LeadTimes wrong = Scenes.full();
            Scenes.typed(wrong, text.replace(' ', '!'));
            Check.dueThrows("addAll of " + text + ", though no slot is free", wrong, ARGUMENT, wrong::addAll);
            Check.due("the buffer stays", wrong.clearBuffer(), text.length());
        }
        addAllOfManyMovers();
    }

    private static void addAllOfManyMovers() {
        LeadTimes x = Scenes.full();
        Scenes.typed(x, "1+1;2+2");
        Check.dueThrows("addAll without a slot", x, STATE, x::addAll);
        x.remove(3);
        Check.dueThrows("addAll with one slot", x, STATE, x::addAll);
        x.remove(9);
        Check.due("addAll with two slots", x.addAll(), 16);
        Check.due("value on 3", x.mover(3, 0), 1);
        Check.due("value on 9", x.mover(9, 0), 2);
        LeadTimes empty = new LeadTimes();
        Scenes.typed(empty, "1+0;1+0;1+0;1+0;1+0;1+0;1+0;1+0;1+0;1+0;1+0;1+0;1+0;1+0;1+0");
        Check.due("addAll of fifteen", empty.addAll(), 15);
        Check.due("saved as one", empty.count(6), 1);
    }

    /** Promise 14. */
    private static void undo() {
        LeadTimes x = new LeadTimes();
        Check.dueThrows("undo of nothing", x, STATE, x::undo);
        for (int i = 1; i <= 9; i++) {
            x.add(i, 0);
        }
        Check.due("six are saved", x.count(6), 6);
        for (int left = 5; left >= 0; left--) {
            Check.due("undo", x.undo(), left);
            Check.due("movers", x.count(1), left + 3);
        }
        Check.dueThrows("the oldest ones are dropped", x, STATE, x::undo);
        x.add(7, 7);
        Check.due("undo behind undo", x.undo(), 0);
        Check.due("movers", x.count(1), 3);
        Check.dueThrows("a call that throws saves nothing", x, ARGUMENT, () -> x.pass(0));
        Check.dueThrows("and so there is nothing", x, STATE, x::undo);
        Scenes.typed(x, "1+1");
        Check.dueThrows("append is not undoable", x, STATE, x::undo);
        x.pass(1);
        x.append('0');
        x.undo();
        Check.due("undo leaves the buffer", x.clearBuffer(), 4);
    }

    /** Each undoable call is taken back whole: time, values, settings, and what is counted. */
    private static void undoOfEachCall() {
        LeadTimes x = Scenes.full();
        x.pass(3);
        for (int i = 0; i < 6; i++) {
            x.set(1, 60);
        }
        x.undo();
        x.undo();
        Check.Call[] calls = {
            () -> x.remove(3), () -> x.speed(2, 9), () -> x.jump(2, 77), () -> x.swap(2, 9), () -> x.swap(4, 4),
            () -> x.pass(20), x::passToTurn, () -> x.set(0, 1), () -> x.set(1, 7), () -> x.set(1, 60),
        };
        for (int i = 0; i < calls.length; i++) {
            String before = Looks.all(x);
            calls[i].answer();
            Check.due("call " + i + " saves", x.count(6), 5);
            Check.due("undo of call " + i, x.undo(), 4);
            Check.holds("undo of call " + i + " restores all", before.equals(Looks.all(x)));
        }
    }

    /** Promise 15. */
    private static void mover() {
        LeadTimes x = Scenes.with(10, 0, 0, 3, -5, 4, 9, 1, 10, 0);
        dueAll("mover 0", x, what -> x.mover(0, what), 10, 0, 0, 4, 0, 1, 0);
        dueAll("mover 1", x, what -> x.mover(1, what), 0, 3, 3, 0, 9, 2, 0);
        dueAll("mover 2", x, what -> x.mover(2, what), -5, 4, 4, 0, 5, 1, 0);
        dueAll("mover 3", x, what -> x.mover(3, what), 9, 1, 2, 1, 1, 1, 0);
        dueAll("mover 4 never leads", x, what -> x.mover(4, what), 10, 0, 1, 2, 0, 0, 0);
        x.pass(4);
        x.add(1, 1);
        dueAll("mover 1 at 4", x, what -> x.mover(1, what), 12, 3, 1, 1, 9, 2, 0);
        dueAll("mover 3 at 4", x, what -> x.mover(3, what), 13, 1, 0, 4, 4, 1, 0);
        dueAll("mover 5 at 4", x, what -> x.mover(5, what), 1, 1, 5, 0, 0, 0, 4);
        Check.dueThrows("mover what 7", x, ARGUMENT, () -> x.mover(0, 7));
        Check.dueThrows("mover what -1", x, ARGUMENT, () -> x.mover(0, -1));
        Check.dueThrows("mover of none", x, INDEX, () -> x.mover(6, 0));
        Check.dueThrows("mover of none is told first", x, INDEX, () -> x.mover(16, 7));
        Check.dueThrows("mover -1", x, INDEX, () -> x.mover(-1, 0));
        LeadTimes tie = Scenes.with(5, 1, 5, 2);
        Check.dueLook("with the same value, the faster one is ahead", tie, 0, () -> tie.mover(1, 2));
    }

    /** Promise 16. */
    private static void contest() {
        LeadTimes x = Scenes.with(10, 0, 0, 3, -5, 4, 9, 1, 10, 0);
        dueAll("contest 1", x, what -> x.contest(1, what), 0, NONE, 1, 1, 3, 0);
        dueAll("contest 2", x, what -> x.contest(2, what), 0, 4, 1, 1, 3, 0);
        dueAll("contest 3", x, what -> x.contest(3, what), NONE, NONE, 0, 0, NONE, 0);
        dueAll("contest 8", x, what -> x.contest(8, what), 0, 1, 10, 3, 1, 0);
        dueAll("contest 9", x, what -> x.contest(9, what), 3, 2, 14, 3, 2, 0);
        dueAll("contest 10", x, what -> x.contest(10, what), 4, NONE, 0, 0, NONE, 0);
        x.pass(5);
        dueAll("contest 1 at 5", x, what -> x.contest(1, what), 2, NONE, 0, 0, NONE, 3);
        dueAll("contest 8 at 5", x, what -> x.contest(8, what), 1, 0, 0, 0, NONE, 1);
        Check.dueThrows("contest 0", x, INDEX, () -> x.contest(0, 0));
        Check.dueThrows("contest 16 is told first", x, INDEX, () -> x.contest(16, 6));
        Check.dueThrows("contest what 6", x, ARGUMENT, () -> x.contest(15, 6));
        Check.dueThrows("contest what -1", x, ARGUMENT, () -> x.contest(15, -1));
        LeadTimes meeting = Scenes.with(0, 1, -1, 2, -2, 3);
        Check.dueLook("of those that meet, the fastest wins", meeting, 2, () -> meeting.contest(1, 4));
        LeadTimes same = Scenes.with(5, 0, 0, 1, 0, 1);
        Check.dueLook("of equals, the lower slot wins", same, 1, () -> same.contest(1, 4));
        same.set(0, 1);
        Check.dueLook("of equals, the greater slot wins", same, 2, () -> same.contest(1, 4));
    }

    /** Promise 17. */
    private static void nextTurn() {
        LeadTimes x = Scenes.full();
        dueAll("nextTurn", x, x::nextTurn, 1, 1, 4, 1);
        x.pass(1);
        dueAll("nextTurn at 1 is later than now", x, x::nextTurn, 3, 1, 3, 1);
        LeadTimes last = new LeadTimes();
        for (int slot = 0; slot < 14; slot++) {
            last.add(0, 0);
        }
        last.add(4, 1);
        last.add(0, 7);
        dueAll("nextTurn of the last slots", last, last::nextTurn, 2, 3, 4, 1);
        LeadTimes pair = Scenes.with(9, 0, 5, 2, 0, 1, -3, 7);
        dueAll("nextTurn of a low pair alone", pair, pair::nextTurn, 1, 2, 1, 9);
        Check.dueThrows("nextTurn 4", x, ARGUMENT, () -> x.nextTurn(4));
        Check.dueThrows("nextTurn -1", x, ARGUMENT, () -> x.nextTurn(-1));
        LeadTimes none = Scenes.with(1, 2, 0, 2);
        dueAll("no turn", none, none::nextTurn, 0, 0, 0, NONE);
    }

    /** Promise 18. */
    private static void span() {
        LeadTimes x = Scenes.with(10, 0, 0, 3, -5, 4, 9, 1);
        dueAll("span 0", x, what -> x.span(0, what), 0, 0, 1);
        dueAll("span 1", x, what -> x.span(1, what), 3, 1, 1);
        dueAll("span 2", x, what -> x.span(2, what), 1, 9, 2);
        dueAll("span 3", x, what -> x.span(3, what), 2, 5, 1);
        dueAll("span 4", x, what -> x.span(4, what), NONE, NONE, NONE);
        dueAll("span 2147483647", x, what -> x.span(Integer.MAX_VALUE, what), NONE, NONE, NONE);
        x.pass(4);
        dueAll("span 0 at 4", x, what -> x.span(0, what), 3, 4, 1);
        dueAll("span 1 at 4", x, what -> x.span(1, what), 1, 9, 2);
        Check.dueThrows("span -1", x, ARGUMENT, () -> x.span(-1, 0));
        Check.dueThrows("span what 3", x, ARGUMENT, () -> x.span(0, 3));
        Check.dueThrows("span what -1", x, ARGUMENT, () -> x.span(0, -1));
        Check.dueThrows("span what 3 of no span", x, ARGUMENT, () -> x.span(99, 3));
    }

    /** Promise 19. */
    private static void count() {
        LeadTimes x = Scenes.with(10, 0, 0, 3, -5, 4, 9, 1, 10, 0);
        dueAll("count", x, x::count, 0, 5, 4, 0, 0, 1, 5);
        x.pass(1);
        dueAll("count at 1", x, x::count, 1, 5, 3, 3, 1, 2, 6);
        x.pass(4);
        dueAll("count at 5", x, x::count, 5, 5, 1, 11, 3, 4, 6);
        Check.dueThrows("count 7", x, ARGUMENT, () -> x.count(7));
        Check.dueThrows("count -1", x, ARGUMENT, () -> x.count(-1));
    }

    /** Promise 20. */
    private static void setting() {
        LeadTimes x = new LeadTimes();
        dueAll("setting", x, x::setting, 0, 50);
        x.set(0, 1);
        x.set(1, 8);
        dueAll("setting then", x, x::setting, 1, 8);
        Check.dueThrows("setting 2", x, INDEX, () -> x.setting(2));
        Check.dueThrows("setting -1", x, INDEX, () -> x.setting(-1));
    }

    /** Promise 21. */
    private static void leaderAfter() {
        LeadTimes x = Scenes.with(10, 0, 0, 3, -5, 4, 9, 1);
        int[] leaders = {0, 3, 3, 3, 3, 2, 2};
        dueAll("leaderAfter", x, x::leaderAfter, leaders);
        Check.dueLook("leaderAfter 9999", x, 2, () -> x.leaderAfter(9999));
        x.pass(3);
        Check.dueLook("leaderAfter, above the limit of time", x, 2, () -> x.leaderAfter(9999));
        Check.dueLook("leaderAfter 2 at 3", x, 2, () -> x.leaderAfter(2));
        Check.dueThrows("leaderAfter 10000", x, ARGUMENT, () -> x.leaderAfter(10000));
        Check.dueThrows("leaderAfter -1", x, ARGUMENT, () -> x.leaderAfter(-1));
        LeadTimes none = new LeadTimes();
        Check.dueLook("leaderAfter without movers", none, NONE, () -> none.leaderAfter(5));
    }

    /** Promise 22. */
    private static void overtakes() {
        LeadTimes x = Scenes.with(10, 0, 0, 4, 10, 0, 10, -1);
        x.pass(1);
        dueAll("1 overtakes 0", x, what -> x.overtakes(1, 0, what), 5, 2);
        dueAll("0 is ahead of 1 now", x, what -> x.overtakes(0, 1, what), 1, 1);
        dueAll("0 is ahead of 2 as equal", x, what -> x.overtakes(0, 2, what), 1, 1);
        dueAll("2 never overtakes 0", x, what -> x.overtakes(2, 0, what), 0, 0);
        dueAll("3 never overtakes 2", x, what -> x.overtakes(3, 2, what), 0, 0);
        dueAll("3 never overtakes 0", x, what -> x.overtakes(3, 0, what), 0, 0);
        dueAll("1 never overtakes itself", x, what -> x.overtakes(1, 1, what), 0, 0);
        dueAll("1 overtakes 3", x, what -> x.overtakes(1, 3, what), 2, 1);
        x.set(0, 1);
        dueAll("2 is ahead of 0 as equal", x, what -> x.overtakes(2, 0, what), 1, 1);
        dueAll("1 never overtakes itself", x, what -> x.overtakes(1, 1, what), 0, 0);
        Check.dueThrows("overtakes what 2", x, ARGUMENT, () -> x.overtakes(0, 1, 2));
        Check.dueThrows("overtakes what -1", x, ARGUMENT, () -> x.overtakes(0, 1, -1));
        Check.dueThrows("overtakes of none is told first", x, INDEX, () -> x.overtakes(4, 0, 2));
        Check.dueThrows("overtakes none", x, INDEX, () -> x.overtakes(0, 4, 0));
        Check.dueThrows("overtakes 16", x, INDEX, () -> x.overtakes(0, 16, 0));
        Check.dueThrows("overtakes of -1", x, INDEX, () -> x.overtakes(-1, 0, 0));
        LeadTimes same = Scenes.with(3, 1, 3, 2);
        dueAll("with the same value now, the faster one is ahead", same, what -> same.overtakes(1, 0, what), 0, 1);
        dueAll("and the other one never", same, what -> same.overtakes(0, 1, what), 0, 0);
    }

    /** Promise 23. */
    private static void turnsIn() {
        LeadTimes x = Scenes.full();
        dueAll("turnsIn", x, x::turnsIn, 0, 4, 4, 7, 7, 11);
        Check.dueLook("turnsIn 999", x, 49, () -> x.turnsIn(999));
        Check.dueThrows("turnsIn 1000", x, ARGUMENT, () -> x.turnsIn(1000));
        Check.dueThrows("turnsIn -1", x, ARGUMENT, () -> x.turnsIn(-1));
        LeadTimes far = Scenes.with(9999, 0, 0, 1);
        for (int i = 0; i < 95; i++) {
            far.pass(99);
        }
        Check.dueLook("turnsIn, a little later", far, 4, () -> far.turnsIn(594));
        Check.dueLook("turnsIn, a little too early", far, 0, () -> far.turnsIn(593));
        far.jump(0, 300);
        Check.dueLook("turnsIn, above the limit of time", far, 4, () -> far.turnsIn(999));
    }

    /** Promise 24. */
    private static void leastSpeed() {
        LeadTimes x = Scenes.with(10, 0, 0, 3, -5, 4, 9, 1, 10, 0);
        int[][] wants = {{0, 3, 4}, {-100, 4, 4}, {-100, 4, 4}, {-100, 3, 4}, {1, 3, 4}};
        int[] times = {0, 10, 999};
        for (int s = 0; s < wants.length; s++) {
            int slot = s;
            for (int t = 0; t < times.length; t++) {
                int by = times[t];
                Check.dueLook("leastSpeed " + slot + " " + by, x, wants[slot][t], () -> x.leastSpeed(slot, by));
            }
        }
        LeadTimes fast = Scenes.with(0, 99, 0, 0, -1, 0);
        Check.dueLook("leastSpeed as equal with the lower slot", fast, -100, () -> fast.leastSpeed(1, 5));
        fast.set(0, 1);
        Check.dueLook("leastSpeed 99", fast, 99, () -> fast.leastSpeed(1, 5));
        Check.dueLook("leastSpeed, even 99 is too slow", fast, -100, () -> fast.leastSpeed(2, 999));
        LeadTimes slow = Scenes.with(9999, 5, -9999, -99);
        Check.dueLook("leastSpeed, even -99 is enough", slow, -99, () -> slow.leastSpeed(0, 999));
        LeadTimes alone = Scenes.with(0, 50);
        Check.dueLook("leastSpeed alone", alone, -99, () -> alone.leastSpeed(0, 7));
        Check.dueThrows("leastSpeed in 1000", x, ARGUMENT, () -> x.leastSpeed(0, 1000));
        Check.dueThrows("leastSpeed in -1", x, ARGUMENT, () -> x.leastSpeed(0, -1));
        Check.dueThrows("leastSpeed of none is told first", x, INDEX, () -> x.leastSpeed(5, 1000));
        Check.dueThrows("leastSpeed of 16", x, INDEX, () -> x.leastSpeed(16, 0));
    }

    /** Promise 25. */
    private static void leadShare() {
        LeadTimes x = Scenes.with(10, 0, 0, 3, -5, 4, 9, 1, 10, 0);
        double[] wants = {0.02, 0.01, 0.9, 0.07, 0.0};
        for (int slot = 0; slot < 5; slot++) {
            Check.due("leadShare " + slot, x.leadShare(slot), wants[slot]);
        }
        x.pass(2);
        x.set(1, 3);
        Check.due("leadShare of the last one begins with the horizon's end", x.leadShare(2), 0.0);
        Check.due("leadShare between", x.leadShare(1), 0.5 / 3.0);
        Check.due("leadShare of the first one", x.leadShare(3), 2.5 / 3.0);
        x.set(1, 2);
        Check.due("leadShare up to the horizon", x.leadShare(3), 1.0);
        Check.due("leadShare behind the horizon", x.leadShare(1), 0.0);
        Check.due("leadShare far behind the horizon", x.leadShare(2), 0.0);
        x.set(1, 1);
        Check.due("leadShare of the least horizon", x.leadShare(3), 1.0);
        LeadTimes thirds = Scenes.with(1, 0, 0, 3);
        thirds.pass(7);
        thirds.jump(0, 22);
        Check.due("leadShare by the told moments", thirds.leadShare(0), ((double) 23 / 3 - 7.0) / 50.0);
        Check.dueThrows("leadShare of none", x, INDEX, () -> (long) x.leadShare(5));
        Check.dueThrows("leadShare of 16", x, INDEX, () -> (long) x.leadShare(16));
        Check.dueThrows("leadShare of -1", x, INDEX, () -> (long) x.leadShare(-1));
    }

    /** Promise 26. */
    private static void digest() {
        LeadTimes x = new LeadTimes();
        Check.due("digest of a new object", x.digest(), 3888670950990566204L);
        x.add(5, 5);
        x.append('7');
        Check.due("digest of one mover", x.digest(), -4071982606546009255L);
        x.clearBuffer();
        Scenes.typed(x, "0+3;-5+4;9+1;10+0;-70+9;3+3");
        Check.due("digest with a buffer", x.digest(), Looks.digest(x, "0+3;-5+4;9+1;10+0;-70+9;3+3"));
        x.addAll();
        for (int horizon = 1; horizon <= 60; horizon++) {
            x.set(1, horizon);
            Check.due("digest with horizon " + horizon, x.digest(), Looks.digest(x, ""));
        }
        Check.dueLook("digest twice", x, x.digest(), x::digest);
    }
}
