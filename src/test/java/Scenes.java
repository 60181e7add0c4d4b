/**
 * Objects in the states that the tests ask about. Each call makes a new object, as nothing is promised
 * about one after its 512th call.
 */
final class Scenes {
    /** Makes an object and brings it into a state, the same one each time. */
    interface Scene {
        LeadTimes made();
    }

    private Scenes() {
    }

    /** An object with these movers on the slots from 0, each a value and a speed. */
    static LeadTimes with(int... values) {
        LeadTimes x = new LeadTimes();
        for (int i = 0; i + 1 < values.length; i += 2) {
            x.add(values[i], values[i + 1]);
        }
        return x;
    }

    /** All slots have a mover, and each of them leads for a while. */
    static LeadTimes full() {
        LeadTimes x = new LeadTimes();
        for (int slot = 0; slot < 16; slot++) {
            x.add(-slot * slot, slot);
        }
        return x;
    }

    /** One mover, on this slot. */
    static LeadTimes alone(int slot, int value, int speed) {
        LeadTimes x = with(value, speed);
        x.swap(0, slot);
        return x;
    }

    /** Some movers, three saved states, and a buffer that is not complete. */
    static LeadTimes few() {
        LeadTimes x = with(5, 1, 3, 2);
        x.set(1, 9);
        return typed(x, "7-");
    }

    /** Movers on 0 to 3 and 15, turns behind and to come, six saved states (and more that were dropped). */
    static LeadTimes busy() {
        LeadTimes x = with(10, 0, 0, 3, -5, 4, 9, 1, 10, 0);
        x.pass(4);
        x.swap(4, 15);
        x.set(0, 1);
        x.set(1, 73);
        x.jump(3, 7);
        x.speed(1, 5);
        x.pass(1);
        return typed(x, "12+3;-4");
    }

    /** No free slot, six saved states, and a buffer with two movers. */
    static LeadTimes crowded() {
        LeadTimes x = full();
        x.pass(2);
        x.jump(3, 40);
        x.speed(4, -9);
        x.swap(0, 9);
        x.set(1, 20);
        x.pass(1);
        return typed(x, "1+1;2+2");
    }

    /** Two movers with the greatest and the least value that jump() can lead to, 1000000 and -1000000. */
    static LeadTimes farApart(int speed, int otherSpeed) {
        LeadTimes x = with(9999, speed, -9999, otherSpeed);
        for (int i = 0; i < 99; i++) {
            x.jump(0, 9999);
            x.jump(1, -9999);
        }
        x.jump(0, 100);
        x.jump(1, -100);
        return x;
    }

    /** Lets time pass up to this one. */
    static LeadTimes at(int time, LeadTimes x) {
        int left = time - x.count(0);
        for (; left > 99; left -= 99) {
            x.pass(99);
        }
        if (left > 0) {
            x.pass(left);
        }
        return x;
    }

    static LeadTimes typed(LeadTimes x, String text) {
        for (int i = 0; i < text.length(); i++) {
            x.append(text.charAt(i));
        }
        return x;
    }

    /** A new object with this buffer. */
    static LeadTimes text(String text) {
        return typed(new LeadTimes(), text);
    }
}
