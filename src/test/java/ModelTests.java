import java.util.Random;

/**
 * Runs of random calls, the same ones each time, which Voidrent and the model answer alike. No object
 * has more than the 512 calls that the document promises.
 */
public final class ModelTests {
    private static final int RUNS = 400;
    private static final int CALLS = 512;
    private static final String[] NAMES = {
        "setArea", "setIndex", "setCost", "let", "end", "step", "setTerms", "setService",
        "topUp", "draw", "held", "leases", "leaseOn", "rentOn", "bill", "billByDays", "bills",
        "nextChange", "voids", "part", "owners", "balance", "share",
    };

    private final Random random;
    private final Voidrent asked = new Voidrent();
    private final Model model = new Model();
    /** One in how many arguments is taken from anywhere. */
    private final int strange;
    private int calls = 0;
    private int[] starts = new int[0];
    private int[] ends = new int[0];

    private ModelTests(int seed) {
        random = new Random(seed);
        strange = seed % 3 == 0 ? 12 : seed % 3 == 1 ? 60 : 400;
    }

    public static void main(String[] args) {
        for (int seed = 1; seed <= RUNS; seed++) {
            ModelTests run = new ModelTests(seed);
            // Every other run is asked for all that there is room for at its end.
            int told = seed % 2 == 0 ? CALLS : CALLS / 2;
            for (int call = 1; call <= told; call++) {
                run.one("run " + seed + ", call " + call + ": ", call);
            }
            run.everything("run " + seed + ", at its end: ");
        }
        Check.close("ModelTests");
    }

    private void one(String where, int call) {
        // Many leases early in a run, so that what comes later has something to change.
        int kind = call < 40 && random.nextInt(2) == 0 ? 3 : random.nextInt(NAMES.length);
        int[] a = arguments(kind);
        StringBuilder text = new StringBuilder(where).append(NAMES[kind]);
        for (int value : a) {
            text.append(' ').append(value);
        }
        Object want = compare(text.toString(), kind, a);
        if (kind == 3 && want instanceof Integer) {
            starts = java.util.Arrays.copyOf(starts, starts.length + 1);
            ends = java.util.Arrays.copyOf(ends, ends.length + 1);
            starts[starts.length - 1] = a[1];
            ends[ends.length - 1] = a[2];
        }
    }

    private void everything(String where) {
        for (int turn = 0; turn < starts.length; turn++) {
            everythingOf(where, (turn + starts[0]) % starts.length);
        }
        for (int year = 0; year < 20; year++) {
            ask(where, 20, year);
            for (int unit = 0; unit < 6; unit++) {
                ask(where, 18, unit, year);
            }
        }
    }

    private void everythingOf(String where, int lease) {
        ask(where, 10, lease);
        for (int month = starts[lease] / 30; month <= ends[lease] / 30 && month < 240; month += 7) {
            ask(where, 14, lease, month);
            ask(where, 15, lease, month);
        }
        ask(where, 17, lease, random.nextInt(7200));
    }

    private void ask(String where, int kind, int... a) {
        if (calls < CALLS) {
            compare(where + NAMES[kind] + " " + java.util.Arrays.toString(a), kind, a);
        }
    }

    private Object compare(String what, int kind, int... a) {
        calls++;
        Object want = Check.answer(() -> modelled(kind, a));
        Check.due(what, want, Check.answer(() -> answered(kind, a)));
        return want;
    }

    private int[] arguments(int kind) {
        int lease = number(0, Math.max(0, starts.length - 1));
        switch (kind) {
            case 0: return new int[] {number(0, 5), number(0, 999)};
            case 1: return new int[] {number(0, 239), number(10, 999)};
            case 2: return new int[] {number(0, 19), number(0, 999999)};
            case 3: return letting();
            case 4: return new int[] {lease, dayOf(lease)};
            case 5: return new int[] {lease, dayOf(lease), number(1, 99999)};
            case 6: return new int[] {lease, number(0, random.nextBoolean() ? 30 : 720),
                    random.nextInt(4) == 0 ? 0 : number(30, random.nextBoolean() ? 99 : 1800)};
            case 7: return new int[] {lease, random.nextInt(4) == 0 ? -1 : number(0, 999999),
                    number(0, 9999)};
            case 8: return new int[] {lease, dayOf(lease), number(1, 6)};
            case 9: return new int[] {lease, number(1, 999999)};
            case 10: return new int[] {lease};
            case 11: return new int[0];
            case 12: return new int[] {number(0, 5), number(0, 7199)};
            case 13: return new int[] {lease, dayOf(lease)};
            case 14: return new int[] {lease, monthOf(lease)};
            case 15: return new int[] {lease, monthOf(lease)};
            case 16: return new int[] {lease, number(0, 239), number(0, 239)};
            case 17: return new int[] {lease, dayOf(lease)};
            case 18: return new int[] {number(0, 5), number(0, 19)};
            case 19: return new int[] {lease, yearOf(lease)};
            case 20: return new int[] {number(0, 19)};
            case 21: return new int[] {lease, yearOf(lease)};
            default: return new int[] {number(0, 5)};
        }
    }

    private int[] letting() {
        int from = number(0, 7199);
        int longest = random.nextBoolean() ? 60 : 3000;
        int to = random.nextInt(strange) == 0 ? number(0, 7200)
                : (int) Math.min(7200L, (long) from + 1 + random.nextInt(longest));
        return new int[] {number(0, 5), from, to, number(1, 99999)};
    }

    private int dayOf(int lease) {
        if (lease < 0 || lease >= starts.length || random.nextInt(20) == 0) {
            return number(0, 7199);
        }
        return number(starts[lease] - 1, ends[lease]);
    }

    private int monthOf(int lease) {
        int day = dayOf(lease);
        return day < 0 || day > 7199 ? day : day / 30;
    }

    private int yearOf(int lease) {
        int day = dayOf(lease);
        return day < 0 || day > 7199 ? day : day / 360;
    }

    /** Mostly from within, often at an edge, seldom just outside or from anywhere. */
    private int number(int least, int most) {
        if (random.nextInt(strange) == 0) {
            int[] odd = {least - 1, most + 1, -1, 0, Integer.MIN_VALUE, Integer.MAX_VALUE, random.nextInt()};
            return odd[random.nextInt(odd.length)];
        }
        switch (random.nextInt(10)) {
            case 0: return least;
            case 1: return most;
            default: return least + random.nextInt(most - least + 1);
        }
    }

    private Object answered(int kind, int[] a) {
        switch (kind) {
            case 0: return asked.setArea(a[0], a[1]);
            case 1: return asked.setIndex(a[0], a[1]);
            case 2: return asked.setCost(a[0], a[1]);
            case 3: return asked.let(a[0], a[1], a[2], a[3]);
            case 4: return asked.end(a[0], a[1]);
            case 5: return asked.step(a[0], a[1], a[2]);
            case 6: asked.setTerms(a[0], a[1], a[2]); return "set";
            case 7: asked.setService(a[0], a[1], a[2]); return "set";
            case 8: return asked.topUp(a[0], a[1], a[2]);
            case 9: return asked.draw(a[0], a[1]);
            case 10: return asked.held(a[0]);
            case 11: return asked.leases();
            case 12: return asked.leaseOn(a[0], a[1]);
            case 13: return asked.rentOn(a[0], a[1]);
            case 14: return asked.bill(a[0], a[1]);
            case 15: return asked.billByDays(a[0], a[1]);
            case 16: return asked.bills(a[0], a[1], a[2]);
            case 17: return asked.nextChange(a[0], a[1]);
            case 18: return asked.voids(a[0], a[1]);
            case 19: return asked.part(a[0], a[1]);
            case 20: return asked.owners(a[0]);
            case 21: return asked.balance(a[0], a[1]);
            default: return asked.share(a[0]);
        }
    }

    private Object modelled(int kind, int[] a) {
        switch (kind) {
            case 0: return model.setArea(a[0], a[1]);
            case 1: return model.setIndex(a[0], a[1]);
            case 2: return model.setCost(a[0], a[1]);
            case 3: return model.let(a[0], a[1], a[2], a[3]);
            case 4: return model.end(a[0], a[1]);
            case 5: return model.step(a[0], a[1], a[2]);
            case 6: model.setTerms(a[0], a[1], a[2]); return "set";
            case 7: model.setService(a[0], a[1], a[2]); return "set";
            case 8: return model.topUp(a[0], a[1], a[2]);
            case 9: return model.draw(a[0], a[1]);
            case 10: return model.held(a[0]);
            case 11: return model.leases();
            case 12: return model.leaseOn(a[0], a[1]);
            case 13: return model.rentOn(a[0], a[1]);
            case 14: return model.bill(a[0], a[1]);
            case 15: return model.bill(a[0], a[1]);
            case 16: return model.bills(a[0], a[1], a[2]);
            case 17: return model.nextChange(a[0], a[1]);
            case 18: return model.voids(a[0], a[1]);
            case 19: return model.part(a[0], a[1]);
            case 20: return model.owners(a[0]);
            case 21: return model.balance(a[0], a[1]);
            default: return model.share(a[0]);
        }
    }
}
