/** Long runs of calls, the right and the wrong ones, compared with the model after each call. */
public final class ModelTest {
    private static final int RUNS = 100;
    private static final int CALLS = 120;

    private final Numbers numbers;
    private final String run;
    private final LeadTimes x = new LeadTimes();
    private final Model model = new Model();
    private final int valueRange;
    private final int speedRange;

    private ModelTest(int seed) {
        numbers = new Numbers(seed);
        run = "run " + seed + ": ";
        int kind = seed % 4;
        valueRange = kind == 0 ? 3 : kind == 1 ? 40 : kind == 2 ? 400 : 9999;
        speedRange = kind == 0 ? 2 : kind == 1 ? 6 : kind == 2 ? 99 : 12;
    }

    /** Numbers that look like chance, and are the same in every run of the tests. */
    private static final class Numbers {
        private long state;

        Numbers(int seed) {
            state = 88172645463325252L + 7919L * seed;
        }

        /** From low to high. */
        int within(int low, int high) {
            state ^= state << 13;
            state ^= state >>> 7;
            state ^= state << 17;
            return low + (int) Math.floorMod(state >>> 11, (long) high - low + 1);
        }
    }

    /** What a call answers, with the exception's name if it throws. */
    private static String told(Check.Call call) {
        try {
            return String.valueOf(call.answer());
        } catch (RuntimeException e) {
            return "throws." + e.getClass().getSimpleName();
        }
    }

    private void same(String call, Check.Call got, Check.Call want) {
        String answer = told(got);
        String due = told(want);
        if (!answer.equals(due)) {
            Check.tell(run + call + " answered " + answer + ", due is " + due);
        }
    }

    public static void main(String[] args) {
        for (int seed = 1; seed <= RUNS && Check.wrong() == 0; seed++) {
            ModelTest test = new ModelTest(seed);
            for (int call = 0; call < CALLS && Check.wrong() == 0; call++) {
                test.change();
                test.compareLooks();
            }
        }
        Check.end();
    }

    private int slot() {
        return numbers.within(0, 20) == 0 ? numbers.within(-2, 18) : numbers.within(0, 15);
    }

    private int speed() {
        return numbers.within(0, 20) == 0 ? numbers.within(-101, 101) : numbers.within(-speedRange, speedRange);
    }

    private int value() {
        return numbers.within(0, 20) == 0 ? numbers.within(-10001, 10001) : numbers.within(-valueRange, valueRange);
    }

    private void change() {
        int a = slot();
        int b = slot();
        int v = value();
        int s = speed();
        switch (numbers.within(0, 19)) {
            case 0: case 1: case 2: case 3: case 4:
                same("add " + v + " " + s, () -> x.add(v, s), () -> model.add(v, s));
                break;
            case 5:
                same("remove " + a, () -> x.remove(a), () -> model.remove(a));
                break;
            case 6: case 7:
                same("speed " + a + " " + s, () -> x.speed(a, s), () -> model.speed(a, s));
                break;
            case 8: case 9:
                same("jump " + a + " " + v, () -> x.jump(a, v), () -> model.jump(a, v));
                break;
            case 10: case 11:
                same("swap " + a + " " + b, () -> x.swap(a, b), () -> model.swap(a, b));
                break;
            case 12: case 13:
                pass();
                break;
            case 14: case 15:
                same("passToTurn", x::passToTurn, model::passToTurn);
                break;
            case 16:
                set();
                break;
            case 17: case 18:
                text();
                break;
            default:
                for (int times = numbers.within(1, 3); times > 0; times--) {
                    same("undo", x::undo, model::undo);
                }
        }
    }

    private void pass() {
        int by = numbers.within(0, 3) == 0 ? numbers.within(-1, 101) : numbers.within(1, 6);
        same("pass " + by, () -> x.pass(by), () -> model.pass(by));
    }

    private void set() {
        int setting = numbers.within(-1, 2);
        int value = setting == 1 ? numbers.within(-5, 60) * numbers.within(1, 18) : numbers.within(-1, 2);
        same("set " + setting + " " + value, () -> x.set(setting, value), () -> model.set(setting, value));
    }

    /** Texts are mostly right ones, now and then with a character that is put in by chance. */
    private void text() {
        StringBuilder text = new StringBuilder();
        for (int movers = numbers.within(1, 3); movers > 0; movers--) {
            int speed = numbers.within(-speedRange, speedRange);
            text.append(numbers.within(-valueRange, valueRange)).append(speed < 0 ? "" : "+").append(speed);
            text.append(movers > 1 ? ";" : "");
        }
        if (numbers.within(0, 2) == 0) {
            String codes = "+-;0019 x:/,";
            text.insert(numbers.within(0, text.length()), codes.charAt(numbers.within(0, codes.length() - 1)));
        }
        for (int i = 0; i < text.length(); i++) {
            char code = text.charAt(i);
            same("append " + code, () -> x.append(code), () -> model.append(code));
            same("firstError", x::firstError, model::firstError);
        }
        same("addAll of " + model.buffer(), x::addAll, model::addAll);
        if (numbers.within(0, 3) > 0) {
            same("clearBuffer", x::clearBuffer, model::clearBuffer);
        }
    }

    private void compareLooks() {
        for (int i = -1; i <= 16; i++) {
            int index = i;
            for (int w = -1; w <= 7; w++) {
                int what = w;
                same("mover " + index + " " + what, () -> x.mover(index, what), () -> model.mover(index, what));
                same("contest " + index + " " + what, () -> x.contest(index, what), () -> model.contest(index, what));
            }
            for (int w = -1; w <= 3; w++) {
                int what = w;
                same("span " + index + " " + what, () -> x.span(index, what), () -> model.span(index, what));
            }
            same("leadShare " + index, () -> Double.doubleToLongBits(x.leadShare(index)),
                    () -> Double.doubleToLongBits(model.leadShare(index)));
            comparePair(index, slot());
        }
        for (int w = -1; w <= 7; w++) {
            int what = w;
            same("count " + what, () -> x.count(what), () -> model.count(what));
            same("nextTurn " + what, () -> x.nextTurn(what), () -> model.nextTurn(what));
            same("setting " + what, () -> x.setting(what), () -> model.setting(what));
        }
        compareLater(numbers.within(0, 20));
        compareLater(numbers.within(-1, 10000));
        same("firstError", x::firstError, model::firstError);
        Check.due(run + "digest", x.digest(), Looks.digest(x, model.buffer()));
    }

    private void comparePair(int slot, int other) {
        for (int w = -1; w <= 2; w++) {
            int what = w;
            same("overtakes " + slot + " " + other + " " + what, () -> x.overtakes(slot, other, what),
                    () -> model.overtakes(slot, other, what));
        }
        int by = numbers.within(0, 3) > 0 ? numbers.within(0, 9) : numbers.within(-1, 1000);
        same("leastSpeed " + slot + " " + by, () -> x.leastSpeed(slot, by), () -> model.leastSpeed(slot, by));
    }

    private void compareLater(int by) {
        same("leaderAfter " + by, () -> x.leaderAfter(by), () -> model.leaderAfter(by));
        same("turnsIn " + by, () -> x.turnsIn(by), () -> model.turnsIn(by));
    }
}
