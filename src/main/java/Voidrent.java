/** A rent roll: leases of units, their rents, service costs and deposits. */
public final class Voidrent {
    public static final int NONE = -1;

    private static final int UNITS = 6;
    private static final int LEASES = 24;
    private static final int STEPS = 6;

    private static final int YEARS = 20;
    private static final int MONTHS = 240;
    private static final int DAYS = 7200;
    private static final int DAYS_OF_MONTH = 30;
    private static final int DAYS_OF_YEAR = 360;

    private static final int MOST_AREA = 999;
    private static final int FIRST_INDEX = 100;
    private static final int LEAST_INDEX = 10;
    private static final int MOST_INDEX = 999;
    private static final int MOST_MONEY = 999999;
    private static final int MOST_RENT = 99999;
    private static final int MOST_FREE = 720;
    private static final int LEAST_EVERY = 30;
    private static final int MOST_EVERY = 1800;
    private static final int MOST_PREPAID = 9999;
    private static final int MOST_RENTS = 6;

    private final int[] areas = new int[UNITS];
    private final int[] indices = new int[MONTHS];
    private final int[] costs = new int[YEARS];
    private final Lease[] roll = new Lease[LEASES];
    private int count = 0;

    public Voidrent() {
        for (int month = 0; month < indices.length; month++) {
            indices[month] = FIRST_INDEX;
        }
    }

    // ---- units, indices, costs

    public int setArea(int unit, int area)
            throws IndexOutOfBoundsException, IllegalArgumentException {
        checkNumber(unit, areas.length);
        checkRange(area, 0, MOST_AREA);
        int before = areas[unit];
        areas[unit] = area;
        return before;
    }

    public int setIndex(int month, int index)
            throws IndexOutOfBoundsException, IllegalArgumentException {
        checkNumber(month, indices.length);
        checkRange(index, LEAST_INDEX, MOST_INDEX);
        int before = indices[month];
        indices[month] = index;
        return before;
    }

    public int setCost(int year, int cost)
            throws IndexOutOfBoundsException, IllegalArgumentException {
        checkNumber(year, costs.length);
        checkRange(cost, 0, MOST_MONEY);
        int before = costs[year];
        costs[year] = cost;
        return before;
    }

    // ---- leases

    public int let(int unit, int from, int to, int rent)
            throws IndexOutOfBoundsException, IllegalArgumentException, IllegalStateException {
        checkNumber(unit, areas.length);
        checkRange(from, 0, DAYS - 1);
        checkRange(to, from + 1, DAYS);
        checkRange(rent, 1, MOST_RENT);
        if (count >= roll.length) {
            throw new IllegalStateException("no more leases");
        }
        if (daysLet(unit, from, to) > 0) {
            throw new IllegalStateException("the unit is let on one of these days");
        }
        int number = count;
        roll[number] = new Lease(unit, from, to, rent);
        count = number + 1;
        return number;
    }

    public int end(int lease, int to)
            throws IndexOutOfBoundsException, IllegalArgumentException {
        Lease ended = find(lease);
        checkRange(to, ended.from + 1, ended.to - 1);
        int before = ended.to;
        ended.to = to;
        return before;
    }

    public int step(int lease, int day, int rent)
            throws IndexOutOfBoundsException, IllegalArgumentException, IllegalStateException {
        Lease stepped = find(lease);
        checkRange(day, stepped.from + 1, stepped.to - 1);
        checkRange(rent, 1, MOST_RENT);
        if (!stepped.putStep(day, rent)) {
            throw new IllegalStateException("no more steps");
        }
        return stepped.steps;
    }

    public void setTerms(int lease, int free, int every)
            throws IndexOutOfBoundsException, IllegalArgumentException {
        Lease changed = find(lease);
        checkRange(free, 0, MOST_FREE);
        if (every != 0) {
            checkRange(every, LEAST_EVERY, MOST_EVERY);
        }
        changed.free = free;
        changed.every = every;
    }

    public void setService(int lease, int cap, int prepaid)
            throws IndexOutOfBoundsException, IllegalArgumentException {
        Lease changed = find(lease);
        if (cap != NONE) {
            checkRange(cap, 0, MOST_MONEY);
        }
        checkRange(prepaid, 0, MOST_PREPAID);
        changed.cap = cap;
        changed.prepaid = prepaid;
    }

    // ---- deposits

    public int topUp(int lease, int day, int rents)
            throws IndexOutOfBoundsException, IllegalArgumentException {
        Lease topped = find(lease);
        checkRange(day, topped.from, topped.to - 1);
        checkRange(rents, 1, MOST_RENTS);
        int missing = Math.max(0, rents * rentFor(topped, day) - topped.deposit);
        topped.deposit += missing;
        return missing;
    }

    public int draw(int lease, int amount)
            throws IndexOutOfBoundsException, IllegalArgumentException, IllegalStateException {
        Lease drawn = find(lease);
        checkRange(amount, 1, MOST_MONEY);
        if (drawn.deposit < amount) {
            throw new IllegalStateException("less is held");
        }
        drawn.deposit -= amount;
        return drawn.deposit;
    }

    public int held(int lease) throws IndexOutOfBoundsException {
        return find(lease).deposit;
    }

    // ---- what is asked: rents

    public int leases() {
        return count;
    }

    public int leaseOn(int unit, int day) throws IndexOutOfBoundsException {
        checkNumber(unit, areas.length);
        checkNumber(day, DAYS);
        for (int number = 0; number < roll.length; number++) {
            Lease lease = roll[number];
            if (lease != null && lease.unit == unit && lease.runsOn(day)) {
                return number;
            }
        }
        return NONE;
    }

    public int rentOn(int lease, int day) throws IndexOutOfBoundsException {
        Lease asked = find(lease);
        checkNumber(day, DAYS);
        return rentFor(asked, day);
    }

    public int bill(int lease, int month) throws IndexOutOfBoundsException {
        Lease asked = find(lease);
        checkNumber(month, MONTHS);
        return billFor(asked, month);
    }

    public int billByDays(int lease, int month) throws IndexOutOfBoundsException {
        Lease asked = find(lease);
        checkNumber(month, MONTHS);
        int first = month * DAYS_OF_MONTH;
        int sum = 0;
        for (int day = first; day < first + DAYS_OF_MONTH; day++) {
            sum += rentFor(asked, day);
        }
        return sum / DAYS_OF_MONTH;
    }

    public long bills(int lease, int from, int to)
            throws IndexOutOfBoundsException, IllegalArgumentException {
        Lease asked = find(lease);
        checkNumber(from, MONTHS);
        checkNumber(to, MONTHS);
        checkRange(to, from, MONTHS - 1);
        long sum = 0;
        for (int month = from; month <= to; month++) {
            sum += billFor(asked, month);
        }
        return sum;
    }

    public int nextChange(int lease, int day) throws IndexOutOfBoundsException {
        Lease asked = find(lease);
        checkNumber(day, DAYS);
        int turn = asked.nextTurn(day);
        // Each turn is a later day, so there are fewer turns than days.
        for (int turns = 0; turns < DAYS && turn < DAYS; turns++) {
            if (rentFor(asked, turn) != rentFor(asked, turn - 1)) {
                return turn;
            }
            turn = asked.nextTurn(turn);
        }
        return NONE;
    }

    // ---- what is asked: service

    public int voids(int unit, int year) throws IndexOutOfBoundsException {
        checkNumber(unit, areas.length);
        checkNumber(year, YEARS);
        int first = year * DAYS_OF_YEAR;
        return DAYS_OF_YEAR - daysLet(unit, first, first + DAYS_OF_YEAR);
    }

    public int part(int lease, int year) throws IndexOutOfBoundsException {
        Lease asked = find(lease);
        checkNumber(year, costs.length);
        return partOf(asked, year, costs[year]);
    }

    public int owners(int year) throws IndexOutOfBoundsException {
        checkNumber(year, costs.length);
        int rest = costs[year];
        for (Lease lease : roll) {
            if (lease != null) {
                rest -= partOf(lease, year, costs[year]);
            }
        }
        return rest;
    }

    public int balance(int lease, int year) throws IndexOutOfBoundsException {
        Lease asked = find(lease);
        checkNumber(year, costs.length);
        int prepaid = asked.prepaid * asked.daysIn(year) / DAYS_OF_MONTH;
        return partOf(asked, year, costs[year]) - prepaid;
    }

    public double share(int unit) throws IndexOutOfBoundsException {
        checkNumber(unit, areas.length);
        int all = allAreas();
        return all > 0 ? (double) areas[unit] / all : 0.0;
    }

    // ---- what the calls share

    private static void checkNumber(int number, int bound) throws IndexOutOfBoundsException {
        if (number < 0 || number >= bound) {
            throw new IndexOutOfBoundsException("no such number");
        }
    }

    private static void checkRange(int value, int least, int most)
            throws IllegalArgumentException {
        if (value < least || value > most) {
            throw new IllegalArgumentException("out of range");
        }
    }

    private Lease find(int number) throws IndexOutOfBoundsException {
        checkNumber(number, roll.length);
        Lease lease = roll[number];
        if (lease == null) {
            throw new IndexOutOfBoundsException("no such lease");
        }
        return lease;
    }

    private int daysLet(int unit, int first, int behind) {
        int days = 0;
        for (Lease lease : roll) {
            if (lease != null && lease.unit == unit) {
                days += lease.daysWithin(first, behind);
            }
        }
        return days;
    }

    private int allAreas() {
        int sum = 0;
        for (int area : areas) {
            sum += area;
        }
        return sum;
    }

    private static int valueAt(int[] row, int place) {
        return place >= 0 && place < row.length ? row[place] : 0;
    }

    private int rentFor(Lease lease, int day) {
        if (!lease.runsOn(day) || lease.isFreeOn(day)) {
            return 0;
        }
        int agreed = lease.agreedOn(day);
        int base = valueAt(indices, lease.from / DAYS_OF_MONTH);
        if (base <= 0) {
            return agreed;
        }
        // All reviews count the rent agreed on this day, so the highest index decides.
        return Math.max(agreed, agreed * highestIndex(lease, day) / base);
    }

    private int highestIndex(Lease lease, int day) {
        int highest = 0;
        int reviews = lease.reviewsUpTo(day);
        for (int review = 1; review <= reviews; review++) {
            int month = (lease.from + review * lease.every) / DAYS_OF_MONTH;
            highest = Math.max(highest, valueAt(indices, month));
        }
        return highest;
    }

    private int billFor(Lease lease, int month) {
        int day = month * DAYS_OF_MONTH;
        int behind = day + DAYS_OF_MONTH;
        int sum = 0;
        // The rent stays as it is up to the next turn; each round takes a day at least.
        for (int round = 0; round < DAYS_OF_MONTH && day < behind; round++) {
            int turn = Math.min(lease.nextTurn(day), behind);
            sum += (turn - day) * rentFor(lease, day);
            day = turn;
        }
        return sum / DAYS_OF_MONTH;
    }

    private int partOf(Lease lease, int year, int cost) {
        int all = allAreas();
        if (all <= 0) {
            return 0;
        }
        int days = lease.daysIn(year);
        // The product can pass the range of int.
        long part = (long) cost * valueAt(areas, lease.unit) * days / ((long) all * DAYS_OF_YEAR);
        if (lease.cap == NONE) {
            return (int) part;
        }
        return Math.min((int) part, lease.cap * days / DAYS_OF_YEAR);
    }

    private static final class Lease {
        private final int unit;
        private final int from;
        private final int firstRent;
        private int to;
        private int free = 0;
        private int every = 0;
        private int cap = NONE;
        private int prepaid = 0;
        private int deposit = 0;
        private final int[] stepDays = new int[STEPS];
        private final int[] stepRents = new int[STEPS];
        private int steps = 0;

        Lease(int unit, int from, int to, int rent) {
            this.unit = unit;
            this.from = from;
            this.to = to;
            this.firstRent = rent;
        }

        boolean runsOn(int day) {
            return day >= from && day < to;
        }

        boolean isFreeOn(int day) {
            return day < from + free;
        }

        int daysWithin(int first, int behind) {
            return Math.max(0, Math.min(to, behind) - Math.max(from, first));
        }

        int daysIn(int year) {
            int first = year * DAYS_OF_YEAR;
            return daysWithin(first, first + DAYS_OF_YEAR);
        }

        /** Tells whether there was room for the step, in place of one of its day or as another. */
        boolean putStep(int day, int rent) {
            int place = 0;
            while (place < steps && place < STEPS && stepDays[place] != day) {
                place++;
            }
            if (place >= STEPS) {
                return false;
            }
            stepDays[place] = day;
            stepRents[place] = rent;
            steps = Math.max(steps, place + 1);
            return true;
        }

        int agreedOn(int day) {
            int latest = from;
            int rent = firstRent;
            for (int place = 0; place < steps && place < STEPS; place++) {
                if (stepDays[place] <= day && stepDays[place] > latest) {
                    latest = stepDays[place];
                    rent = stepRents[place];
                }
            }
            return rent;
        }

        int reviewsUpTo(int day) {
            return every > 0 && day > from ? (day - from) / every : 0;
        }

        /** The next day behind a day on which the rent may be another one; DAYS if there is none. */
        int nextTurn(int day) {
            int turn = sooner(day, from, DAYS);
            turn = sooner(day, from + free, turn);
            turn = sooner(day, to, turn);
            for (int place = 0; place < steps && place < STEPS; place++) {
                turn = sooner(day, stepDays[place], turn);
            }
            if (every > 0) {
                turn = sooner(day, from + (reviewsUpTo(day) + 1) * every, turn);
            }
            return turn;
        }

        private static int sooner(int day, int other, int turn) {
            return other > day && other < turn ? other : turn;
        }
    }
}
