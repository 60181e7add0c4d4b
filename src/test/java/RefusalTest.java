/**
 * Each call that is refused: it throws what the document names, of several what it names first, and changes
 * nothing, neither what is seen nor what undo() restores.
 */
public final class RefusalTest {
    private static final Class<IllegalArgumentException> ARGUMENT = IllegalArgumentException.class;
    private static final Class<IllegalStateException> STATE = IllegalStateException.class;
    private static final Class<IndexOutOfBoundsException> INDEX = IndexOutOfBoundsException.class;
    private static final Scenes.Scene[] ANY = {LeadTimes::new, Scenes::few, Scenes::busy, Scenes::crowded};
    private static final Scenes.Scene[] WITH_MOVERS = {Scenes::few, Scenes::busy, Scenes::crowded};
    private static final Scenes.Scene[] WITH_FREE_SLOTS = {LeadTimes::new, Scenes::few, Scenes::busy};
    /** -1 and 16 are no slots, and on 9 there is no mover as long as one is free. */
    private static final int[] NO_SLOTS = {-1, 16, Integer.MIN_VALUE, Integer.MAX_VALUE};

    /** A call on an object. */
    interface Call {
        long on(LeadTimes x);
    }

    private RefusalTest() {
    }

    public static void main(String[] args) {
        add();
        slotsWithoutMover();
        speed();
        jump();
        jumpBeyondTheLimits();
        swap();
        pass();
        passToTurn();
        set();
        append();
        addAll();
        addAllWithoutSlots();
        undo();
        mover();
        contest();
        nextTurnSpanAndCount();
        setting();
        leaderAfterAndTurnsIn();
        overtakes();
        leastSpeed();
        looksChangeNothing();
        Check.end();
    }

    /** The numbers beside a range, and the farthest ones. */
    private static int[] outside(int low, int high) {
        return new int[] {low - 1, high + 1, Integer.MIN_VALUE, Integer.MAX_VALUE};
    }

    private static void refused(String name, Class<?> want, Call call, Scenes.Scene... scenes) {
        for (int i = 0; i < scenes.length; i++) {
            Scenes.Scene scene = scenes[i];
            Class<?> got = thrown(scene.made(), call);
            Check.holds(name + ", scene " + i + ": throws " + want + " (it threw " + got + ")", got == want);
            String before = Looks.whole(scene);
            String behind = Looks.whole(() -> {
                LeadTimes x = scene.made();
                thrown(x, call);
                return x;
            });
            Check.holds(name + ", scene " + i + ": changes nothing", before.equals(behind));
        }
    }

    private static Class<?> thrown(LeadTimes x, Call call) {
        try {
            call.on(x);
            return null;
        } catch (RuntimeException e) {
            return e.getClass();
        }
    }

    private static void add() {
        for (int wrong : outside(-9999, 9999)) {
            refused("Promise 2: add value " + wrong, ARGUMENT, x -> x.add(wrong, 0), ANY);
        }
        for (int wrong : outside(-99, 99)) {
            refused("Promise 2: add speed " + wrong, ARGUMENT, x -> x.add(0, wrong), ANY);
        }
        refused("Promise 2: add both wrong", ARGUMENT, x -> x.add(10000, -100), ANY);
        refused("Promise 2: add one more than all places", STATE, x -> x.add(0, 0), Scenes::full, Scenes::crowded);
    }

    /** The calls that ask for a mover, on slots that have none. */
    private static void slotsWithoutMover() {
        Object[][] calls = {
            {"Promise 3: remove", (SlotCall) LeadTimes::remove},
            {"Promise 4: speed", (SlotCall) (x, slot) -> x.speed(slot, 0)},
            {"Promise 4: speed, also wrong", (SlotCall) (x, slot) -> x.speed(slot, 100)},
            {"Promise 5: jump", (SlotCall) (x, slot) -> x.jump(slot, 0)},
            {"Promise 5: jump, also wrong", (SlotCall) (x, slot) -> x.jump(slot, -10000)},
            {"Promise 15: mover", (SlotCall) (x, slot) -> x.mover(slot, 0)},
            {"Promise 15: mover, what also wrong", (SlotCall) (x, slot) -> x.mover(slot, 7)},
            {"Promise 22: overtakes", (SlotCall) (x, slot) -> x.overtakes(slot, slot, 0)},
            {"Promise 22: overtakes, what also wrong", (SlotCall) (x, slot) -> x.overtakes(slot, slot, 2)},
            {"Promise 22: overtakes of a mover", (SlotCall) (x, slot) -> x.overtakes(0, slot, 1)},
            {"Promise 22: overtakes a mover", (SlotCall) (x, slot) -> x.overtakes(slot, 0, 1)},
            {"Promise 22: overtakes of a mover, what also wrong", (SlotCall) (x, slot) -> x.overtakes(0, slot, -1)},
            {"Promise 22: overtakes a mover, what also wrong", (SlotCall) (x, slot) -> x.overtakes(slot, 0, -1)},
            {"Promise 24: leastSpeed", (SlotCall) (x, slot) -> x.leastSpeed(slot, 0)},
            {"Promise 24: leastSpeed, by also wrong", (SlotCall) (x, slot) -> x.leastSpeed(slot, 1000)},
            {"Promise 25: leadShare", (SlotCall) (x, slot) -> (long) x.leadShare(slot)},
        };
        for (Object[] named : calls) {
            SlotCall call = (SlotCall) named[1];
            for (int slot : NO_SLOTS) {
                refused(named[0] + " " + slot, INDEX, x -> call.on(x, slot), ANY);
            }
            refused(named[0] + " on a free slot", INDEX, x -> call.on(x, 9), WITH_FREE_SLOTS);
            refused(named[0] + " on a slot whose mover went", INDEX, x -> call.on(x, 15), RefusalTest::left);
        }
    }

    private interface SlotCall {
        long on(LeadTimes x, int slot);
    }

    private static LeadTimes left() {
        LeadTimes x = Scenes.crowded();
        x.remove(15);
        return x;
    }

    private static void speed() {
        for (int wrong : outside(-99, 99)) {
            refused("Promise 4: speed " + wrong, ARGUMENT, x -> x.speed(0, wrong), WITH_MOVERS);
        }
    }

    private static void jump() {
        for (int wrong : outside(-9999, 9999)) {
            refused("Promise 5: jump " + wrong, ARGUMENT, x -> x.jump(0, wrong), WITH_MOVERS);
        }
    }

    private static void jumpBeyondTheLimits() {
        Scenes.Scene limits = () -> Scenes.farApart(1, -1);
        Scenes.Scene beyond = () -> Scenes.at(3, Scenes.farApart(1, -1));
        for (int by : new int[] {1, 2, 9999}) {
            refused("Promise 5: jump above 1000000, by " + by, STATE, x -> x.jump(0, by), limits, beyond);
            refused("Promise 5: jump below -1000000, by " + -by, STATE, x -> x.jump(1, -by), limits, beyond);
        }
        for (int wrong : new int[] {10000, Integer.MAX_VALUE}) {
            refused("Promise 5: jump above, and by wrong", ARGUMENT, x -> x.jump(0, wrong), limits, beyond);
            refused("Promise 5: jump below, and by wrong", ARGUMENT, x -> x.jump(1, -wrong), limits, beyond);
        }
        for (int by : new int[] {0, 1, 2}) {
            refused("Promise 5: jump, still above", STATE, x -> x.jump(0, -by), beyond);
            refused("Promise 5: jump, still below", STATE, x -> x.jump(1, by), beyond);
        }
    }

    private static void swap() {
        for (int wrong : NO_SLOTS) {
            refused("Promise 6: swap of " + wrong, INDEX, x -> x.swap(wrong, 0), ANY);
            refused("Promise 6: swap with " + wrong, INDEX, x -> x.swap(15, wrong), ANY);
            refused("Promise 6: swap of and with " + wrong, INDEX, x -> x.swap(wrong, wrong), ANY);
        }
    }

    private static void pass() {
        Scenes.Scene last = () -> Scenes.at(9999, Scenes.busy());
        Scenes.Scene almost = () -> Scenes.at(9901, Scenes.few());
        for (int wrong : outside(1, 99)) {
            refused("Promise 7: pass " + wrong, ARGUMENT, x -> x.pass(wrong), ANY);
            refused("Promise 7: pass " + wrong + ", above 9999", ARGUMENT, x -> x.pass(wrong), last, almost);
        }
        refused("Promise 7: pass 1 at 9999", STATE, x -> x.pass(1), last);
        refused("Promise 7: pass 99 at 9999", STATE, x -> x.pass(99), last);
        refused("Promise 7: pass 99 at 9901", STATE, x -> x.pass(99), almost);
    }

    private static void passToTurn() {
        refused("Promise 8: passToTurn without movers", STATE, LeadTimes::passToTurn, LeadTimes::new);
        refused("Promise 8: passToTurn of one mover", STATE, LeadTimes::passToTurn, () -> Scenes.with(1, 5));
        refused("Promise 8: passToTurn of no turn", STATE, LeadTimes::passToTurn,
                () -> Scenes.with(5, 2, 5, 2), () -> Scenes.with(5, 1, 5, 2), () -> Scenes.at(29, Scenes.full()));
        refused("Promise 8: passToTurn to 10000", STATE, LeadTimes::passToTurn,
                () -> Scenes.with(9999, 0, -1, 1), () -> Scenes.at(9999, Scenes.with(9999, 0, -1, 1)),
                () -> Scenes.at(9998, Scenes.with(9999, 0, -1, 1)));
        refused("Promise 8: passToTurn to 9999 and a half", STATE, LeadTimes::passToTurn, RefusalTest::halfLater);
        refused("Promise 8: passToTurn very far", STATE, LeadTimes::passToTurn, () -> Scenes.farApart(0, 1));
    }

    private static LeadTimes halfLater() {
        LeadTimes x = Scenes.with(9999, -1, -9999, 1);
        x.jump(0, 1);
        return x;
    }

    private static void set() {
        for (int wrong : outside(0, 1)) {
            refused("Promise 9: set " + wrong, INDEX, x -> x.set(wrong, 1), ANY);
            refused("Promise 9: set " + wrong + ", value also wrong", INDEX, x -> x.set(wrong, 1000), ANY);
            refused("Promise 9: set 0 to " + wrong, ARGUMENT, x -> x.set(0, wrong), ANY);
        }
        for (int wrong : outside(1, 999)) {
            refused("Promise 9: set 1 to " + wrong, ARGUMENT, x -> x.set(1, wrong), ANY);
        }
    }

    private static void append() {
        Scenes.Scene full = () -> Scenes.text("0".repeat(60));
        for (int wrong : outside(33, 126)) {
            refused("Promise 10: append " + wrong, ARGUMENT, x -> x.append(wrong), ANY);
            refused("Promise 10: append " + wrong + " as the 61st", ARGUMENT, x -> x.append(wrong), full);
        }
        // what is a right code, if a part of the number is cut off
        refused("Promise 10: append 65584", ARGUMENT, x -> x.append(65584), ANY);
        refused("Promise 10: append the 61st", STATE, x -> x.append('0'), full);
        refused("Promise 10: append the 61st, the least code", STATE, x -> x.append(33), full);
    }

    private static void addAll() {
        String[] texts = {"", "-", "5", "-5", "0", "-0", "9999", "5+", "5-", "5+3;", "5+3;-", "5+3;7", "5+3;7+", "x",
            "5+3x", "5+3;x", "05+3", "5+03", "5+100", "10000+1", ";5+3", "5+3;;6+3", "5+3!", "+5+3"};
        for (String text : texts) {
            refused("Promise 13: addAll of " + text, ARGUMENT, LeadTimes::addAll, () -> Scenes.text(text),
                    () -> Scenes.typed(Scenes.with(4, 1, 3, 2), text));
            refused("Promise 13: addAll of " + text + " without a slot", ARGUMENT, LeadTimes::addAll,
                    () -> Scenes.typed(Scenes.full(), text));
        }
        refused("Promise 13: addAll of 60 that are not complete", ARGUMENT, LeadTimes::addAll,
                () -> Scenes.text("0+0;".repeat(15)), () -> Scenes.typed(Scenes.full(), "0+0;".repeat(15)));
    }

    private static void addAllWithoutSlots() {
        refused("Promise 13: addAll of one without a slot", STATE, LeadTimes::addAll,
                () -> Scenes.typed(Scenes.full(), "1+1"));
        refused("Promise 13: addAll of two without a slot", STATE, LeadTimes::addAll, Scenes::crowded);
        refused("Promise 13: addAll of two with one slot", STATE, LeadTimes::addAll, RefusalTest::left);
        refused("Promise 13: addAll of fifteen with fourteen slots", STATE, LeadTimes::addAll,
                () -> Scenes.typed(Scenes.with(1, 1, 2, 2), "0+0;".repeat(14) + "0+0"));
    }

    private static void undo() {
        refused("Promise 14: undo of a new object", STATE, LeadTimes::undo, LeadTimes::new,
                () -> Scenes.text("1+1"));
        refused("Promise 14: undo behind the last one", STATE, LeadTimes::undo, () -> undone(Scenes.few(), 3),
                () -> undone(Scenes.busy(), 6));
    }

    private static LeadTimes undone(LeadTimes x, int times) {
        for (int i = 0; i < times; i++) {
            x.undo();
        }
        return x;
    }

    private static void mover() {
        for (int wrong : outside(0, 6)) {
            refused("Promise 15: mover 0, what " + wrong, ARGUMENT, x -> x.mover(0, wrong), WITH_MOVERS);
        }
    }

    private static void contest() {
        for (int wrong : outside(1, 15)) {
            refused("Promise 16: contest " + wrong, INDEX, x -> x.contest(wrong, 0), ANY);
            refused("Promise 16: contest " + wrong + ", what also wrong", INDEX, x -> x.contest(wrong, 6), ANY);
        }
        for (int wrong : outside(0, 5)) {
            refused("Promise 16: contest 1, what " + wrong, ARGUMENT, x -> x.contest(1, wrong), ANY);
            refused("Promise 16: contest 15, what " + wrong, ARGUMENT, x -> x.contest(15, wrong), ANY);
        }
    }

    private static void nextTurnSpanAndCount() {
        for (int wrong : outside(0, 3)) {
            refused("Promise 17: nextTurn " + wrong, ARGUMENT, x -> x.nextTurn(wrong), ANY);
        }
        for (int wrong : new int[] {-1, Integer.MIN_VALUE}) {
            refused("Promise 18: span " + wrong, ARGUMENT, x -> x.span(wrong, 0), ANY);
            refused("Promise 18: span " + wrong + ", what also wrong", ARGUMENT, x -> x.span(wrong, 3), ANY);
        }
        for (int wrong : outside(0, 2)) {
            refused("Promise 18: span 0, what " + wrong, ARGUMENT, x -> x.span(0, wrong), ANY);
            refused("Promise 18: no span, what " + wrong, ARGUMENT, x -> x.span(16, wrong), ANY);
        }
        for (int wrong : outside(0, 6)) {
            refused("Promise 19: count " + wrong, ARGUMENT, x -> x.count(wrong), ANY);
        }
    }

    private static void setting() {
        for (int wrong : outside(0, 1)) {
            refused("Promise 20: setting " + wrong, INDEX, x -> x.setting(wrong), ANY);
        }
    }

    private static void leaderAfterAndTurnsIn() {
        for (int wrong : outside(0, 9999)) {
            refused("Promise 21: leaderAfter " + wrong, ARGUMENT, x -> x.leaderAfter(wrong), ANY);
        }
        for (int wrong : outside(0, 999)) {
            refused("Promise 23: turnsIn " + wrong, ARGUMENT, x -> x.turnsIn(wrong), ANY);
        }
    }

    private static void overtakes() {
        for (int wrong : outside(0, 1)) {
            refused("Promise 22: overtakes, what " + wrong, ARGUMENT, x -> x.overtakes(0, 1, wrong), WITH_MOVERS);
            refused("Promise 22: overtakes back, what " + wrong, ARGUMENT, x -> x.overtakes(1, 0, wrong), WITH_MOVERS);
            refused("Promise 22: overtakes itself, what " + wrong, ARGUMENT, x -> x.overtakes(0, 0, wrong),
                    WITH_MOVERS);
        }
    }

    private static void leastSpeed() {
        for (int wrong : outside(0, 999)) {
            refused("Promise 24: leastSpeed in " + wrong, ARGUMENT, x -> x.leastSpeed(0, wrong), WITH_MOVERS);
        }
        refused("Promise 24: leastSpeed in 1000, alone", ARGUMENT, x -> x.leastSpeed(0, 1000), () -> Scenes.with(1, 1));
    }

    /** Looks that are not refused leave all as it is, too. */
    private static void looksChangeNothing() {
        for (int i = 0; i < ANY.length; i++) {
            Scenes.Scene scene = ANY[i];
            String before = Looks.whole(scene);
            String behind = Looks.whole(() -> {
                LeadTimes x = scene.made();
                lookOnce(x);
                return x;
            });
            Check.holds("Promises 15 to 20: looks change nothing, scene " + i, before.equals(behind));
            String then = Looks.whole(() -> {
                LeadTimes x = scene.made();
                whatWouldBe(x);
                return x;
            });
            Check.holds("Promises 21 to 26: what would be changes nothing, scene " + i, before.equals(then));
        }
    }

    private static void lookOnce(LeadTimes x) {
        for (int what = 0; what <= 6; what++) {
            x.count(what);
            if (Looks.has(x, 0)) {
                x.mover(0, what);
            }
        }
        for (int what = 0; what <= 5; what++) {
            x.contest(1, what);
            x.contest(15, what);
        }
        for (int what = 0; what <= 3; what++) {
            x.nextTurn(what);
        }
        for (int what = 0; what <= 2; what++) {
            x.span(0, what);
            x.span(16, what);
        }
        x.setting(0);
        x.setting(1);
    }

    private static void whatWouldBe(LeadTimes x) {
        x.leaderAfter(9999);
        x.turnsIn(999);
        x.digest();
        if (Looks.has(x, 0)) {
            x.overtakes(0, 1, 1);
            x.leastSpeed(0, 0);
            x.leastSpeed(1, 999);
            x.leadShare(0);
        }
    }
}
