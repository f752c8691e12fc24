import java.util.ArrayList;
import java.util.List;

/** What can be asked of an object with some leases, to see whether two of them stand alike. */
final class Questions {
    private static final int[] MONTHS = {0, 1, 2, 3, 4, 5, 6, 7, 13, 236, 237, 238, 239};

    private final List<String> words = new ArrayList<>();
    private final List<Scene.Act> acts = new ArrayList<>();

    /** Of an object with leases that have these first days. */
    Questions(int[] firstDays) {
        ask("leases()", Voidrent::leases);
        for (int unit = 0; unit < 6; unit++) {
            askOfUnit(unit);
        }
        for (int year = 0; year < 20; year++) {
            int y = year;
            ask("owners(" + y + ")", x -> x.owners(y));
        }
        for (int lease = 0; lease < firstDays.length; lease++) {
            askOfDays(lease);
            askOfMonths(lease);
            askOfYears(lease);
        }
        askByTelling();
        for (int lease = 0; lease < firstDays.length; lease++) {
            askByTelling(lease, firstDays[lease]);
        }
    }

    int count() {
        return acts.size();
    }

    String words(int place) {
        return words.get(place);
    }

    Object answer(int place, Voidrent x) {
        return Check.answer(() -> acts.get(place).on(x));
    }

    private void ask(String what, Scene.Act act) {
        words.add(what);
        acts.add(act);
    }

    /** Every day of the first months and of the last one, and the first day of each month. */
    private static boolean isAsked(int day) {
        return day < 220 || day >= 7170 || day % 30 == 0;
    }

    private void askOfUnit(int unit) {
        ask("share(" + unit + ")", x -> x.share(unit));
        for (int day = 0; day < 7200; day++) {
            if (isAsked(day)) {
                int d = day;
                ask("leaseOn(" + unit + ", " + d + ")", x -> x.leaseOn(unit, d));
            }
        }
        for (int year = 0; year < 20; year++) {
            int y = year;
            ask("voids(" + unit + ", " + y + ")", x -> x.voids(unit, y));
        }
    }

    private void askOfDays(int lease) {
        ask("held(" + lease + ")", x -> x.held(lease));
        for (int day = 0; day < 7200; day++) {
            if (isAsked(day)) {
                int d = day;
                ask("rentOn(" + lease + ", " + d + ")", x -> x.rentOn(lease, d));
            }
            if (day % 45 == 0) {
                int d = day;
                ask("nextChange(" + lease + ", " + d + ")", x -> x.nextChange(lease, d));
            }
        }
    }

    private void askOfMonths(int lease) {
        for (int month : MONTHS) {
            ask("bill(" + lease + ", " + month + ")", x -> x.bill(lease, month));
            ask("billByDays(" + lease + ", " + month + ")", x -> x.billByDays(lease, month));
        }
        ask("bills(" + lease + ", 0, 239)", x -> x.bills(lease, 0, 239));
    }

    private void askOfYears(int lease) {
        for (int year = 0; year < 20; year++) {
            int y = year;
            ask("part(" + lease + ", " + y + ")", x -> x.part(lease, y));
            ask("balance(" + lease + ", " + y + ")", x -> x.balance(lease, y));
        }
    }

    /** The calls that answer what was told before; they come last, as they change it. */
    private void askByTelling() {
        for (int month = 0; month < 240; month++) {
            int m = month;
            ask("setIndex(" + m + ", 100)", x -> x.setIndex(m, 100));
        }
        for (int year = 0; year < 20; year++) {
            int y = year;
            ask("setCost(" + y + ", 0)", x -> x.setCost(y, 0));
        }
        for (int unit = 0; unit < 6; unit++) {
            int u = unit;
            ask("setArea(" + u + ", 0)", x -> x.setArea(u, 0));
        }
        ask("let(5, 600, 601, 1)", x -> x.let(5, 600, 601, 1));
    }

    /** How many steps a lease has, and where it ends. */
    private void askByTelling(int lease, int firstDay) {
        ask("step(" + lease + ", " + (firstDay + 1) + ", 1)", x -> x.step(lease, firstDay + 1, 1));
        ask("end(" + lease + ", " + (firstDay + 1) + ")", x -> x.end(lease, firstDay + 1));
    }
}
