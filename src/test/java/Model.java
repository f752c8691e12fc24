import java.math.BigInteger;
import java.util.ArrayList;
import java.util.List;
import java.util.TreeMap;

/** The document word by word and day by day, however long it takes, to compare Voidrent with. */
final class Model {
    private static final class Let {
        int unit;
        int from;
        int to;
        int rent;
        int free;
        int every;
        Integer cap;
        int prepaid;
        int held;
        final TreeMap<Integer, Integer> steps = new TreeMap<>();
    }

    private final int[] areas = new int[6];
    private final int[] indices = new int[240];
    private final int[] costs = new int[20];
    private final int[][] taken = new int[6][7200];
    private final List<Let> lets = new ArrayList<>();

    Model() {
        java.util.Arrays.fill(indices, 100);
        for (int[] days : taken) {
            java.util.Arrays.fill(days, -1);
        }
    }

    private static void place(boolean there) {
        if (!there) {
            throw new IndexOutOfBoundsException();
        }
    }

    private static void argument(boolean fits) {
        if (!fits) {
            throw new IllegalArgumentException();
        }
    }

    private static void state(boolean fits) {
        if (!fits) {
            throw new IllegalStateException();
        }
    }

    private static boolean in(int value, int least, int most) {
        return least <= value && value <= most;
    }

    private Let lease(int number) {
        place(in(number, 0, lets.size() - 1));
        return lets.get(number);
    }

    int setArea(int unit, int area) {
        place(in(unit, 0, 5));
        argument(in(area, 0, 999));
        int had = areas[unit];
        areas[unit] = area;
        return had;
    }

    int setIndex(int month, int index) {
        place(in(month, 0, 239));
        argument(in(index, 10, 999));
        int had = indices[month];
        indices[month] = index;
        return had;
    }

    int setCost(int year, int cost) {
        place(in(year, 0, 19));
        argument(in(cost, 0, 999999));
        int had = costs[year];
        costs[year] = cost;
        return had;
    }

    int let(int unit, int from, int to, int rent) {
        place(in(unit, 0, 5));
        argument(in(from, 0, 7199) && to > from && to <= 7200 && in(rent, 1, 99999));
        state(lets.size() < 24);
        for (int day = from; day < to; day++) {
            state(taken[unit][day] < 0);
        }
        Let let = new Let();
        let.unit = unit;
        let.from = from;
        let.to = to;
        let.rent = rent;
        for (int day = from; day < to; day++) {
            taken[unit][day] = lets.size();
        }
        lets.add(let);
        return lets.size() - 1;
    }

    int end(int number, int to) {
        Let let = lease(number);
        argument(to > let.from && to < let.to);
        int was = let.to;
        for (int day = to; day < was; day++) {
            taken[let.unit][day] = -1;
        }
        let.to = to;
        return was;
    }

    int step(int number, int day, int rent) {
        Let let = lease(number);
        argument(day > let.from && day < let.to && in(rent, 1, 99999));
        state(let.steps.size() < 6 || let.steps.containsKey(day));
        let.steps.put(day, rent);
        return let.steps.size();
    }

    void setTerms(int number, int free, int every) {
        Let let = lease(number);
        argument(in(free, 0, 720) && (every == 0 || in(every, 30, 1800)));
        let.free = free;
        let.every = every;
    }

    void setService(int number, int cap, int prepaid) {
        Let let = lease(number);
        argument((cap == -1 || in(cap, 0, 999999)) && in(prepaid, 0, 9999));
        let.cap = cap == -1 ? null : cap;
        let.prepaid = prepaid;
    }

    int topUp(int number, int day, int rents) {
        Let let = lease(number);
        argument(day >= let.from && day < let.to && in(rents, 1, 6));
        int before = let.held;
        let.held = Math.max(before, rents * rent(number, day));
        return let.held - before;
    }

    int draw(int number, int amount) {
        Let let = lease(number);
        argument(in(amount, 1, 999999));
        state(let.held >= amount);
        let.held -= amount;
        return let.held;
    }

    int held(int number) {
        return lease(number).held;
    }

    int leases() {
        return lets.size();
    }

    int leaseOn(int unit, int day) {
        place(in(unit, 0, 5) && in(day, 0, 7199));
        return taken[unit][day];
    }

    int rentOn(int number, int day) {
        lease(number);
        place(in(day, 0, 7199));
        return rent(number, day);
    }

    private int rent(int number, int day) {
        Let let = lets.get(number);
        if (taken[let.unit][day] != number || day - let.from < let.free) {
            return 0;
        }
        Integer step = let.steps.floorKey(day);
        int agreed = step == null ? let.rent : let.steps.get(step);
        int greatest = agreed;
        if (let.every > 0) {
            for (int review = let.from + let.every; review <= day; review += let.every) {
                long reviewed = (long) agreed * indices[review / 30] / indices[let.from / 30];
                greatest = (int) Math.max(greatest, reviewed);
            }
        }
        return greatest;
    }

    int bill(int number, int month) {
        lease(number);
        place(in(month, 0, 239));
        long sum = 0;
        for (int day = 30 * month; day <= 30 * month + 29; day++) {
            sum += rent(number, day);
        }
        return (int) (sum / 30);
    }

    long bills(int number, int from, int to) {
        lease(number);
        place(in(from, 0, 239) && in(to, 0, 239));
        argument(to >= from);
        long sum = 0;
        for (int month = from; month <= to; month++) {
            sum += bill(number, month);
        }
        return sum;
    }

    int nextChange(int number, int day) {
        lease(number);
        place(in(day, 0, 7199));
        for (int next = day + 1; next <= 7199; next++) {
            if (rent(number, next) != rent(number, next - 1)) {
                return next;
            }
        }
        return -1;
    }

    int voids(int unit, int year) {
        place(in(unit, 0, 5) && in(year, 0, 19));
        int days = 0;
        for (int day = 360 * year; day <= 360 * year + 359; day++) {
            days += taken[unit][day] < 0 ? 1 : 0;
        }
        return days;
    }

    private int daysIn(int number, int year) {
        int days = 0;
        for (int day = 360 * year; day <= 360 * year + 359; day++) {
            days += taken[lets.get(number).unit][day] == number ? 1 : 0;
        }
        return days;
    }

    private int allAreas() {
        return areas[0] + areas[1] + areas[2] + areas[3] + areas[4] + areas[5];
    }

    int part(int number, int year) {
        Let let = lease(number);
        place(in(year, 0, 19));
        if (allAreas() == 0) {
            return 0;
        }
        BigInteger days = BigInteger.valueOf(daysIn(number, year));
        BigInteger part = BigInteger.valueOf(costs[year]).multiply(BigInteger.valueOf(areas[let.unit]))
                .multiply(days).divide(BigInteger.valueOf(allAreas()).multiply(BigInteger.valueOf(360)));
        if (let.cap != null) {
            part = part.min(BigInteger.valueOf(let.cap).multiply(days).divide(BigInteger.valueOf(360)));
        }
        return part.intValueExact();
    }

    int owners(int year) {
        place(in(year, 0, 19));
        int rest = costs[year];
        for (int number = 0; number < lets.size(); number++) {
            rest -= part(number, year);
        }
        return rest;
    }

    int balance(int number, int year) {
        int part = part(number, year);
        return part - lets.get(number).prepaid * daysIn(number, year) / 30;
    }

    double share(int unit) {
        place(in(unit, 0, 5));
        return allAreas() == 0 ? 0.0 : (double) areas[unit] / allAreas();
    }
}
