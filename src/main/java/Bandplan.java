import java.util.ArrayList;
import java.util.NoSuchElementException;

/** The airwaves of a land, as ../shared/DOC.md promises them. */
public final class Bandplan {
    private static final int SIDE = 20;
    private static final int MOST_GROUND = 99;
    private static final int MOST_SITES = 10;
    private static final int MOST_HEIGHT = 99;
    private static final int MOST_STATIONS = 8;
    private static final int MOST_POWER = 500;
    private static final int FIRST_RATIO = 170;
    private static final int MOST_RATIO = 500;
    private static final int CHANNELS = 8;
    private static final int OFF = -1;
    private static final int NONE = -1;
    // Far below each harm there can be.
    private static final int NO_HARM = -1000000;
    private static final int HARMLESS_APART = 3;
    private static final int BORDER_COLUMN = 15;
    private static final int DAYS_UNTIL_YES = 3;
    private static final int MOST_DAYS = 99;
    // Two changes on two days have a call of goOn between them: half of 512 calls.
    private static final int MOST_ENTRIES = 256;
    private static final int MOST_PRICE = 9999;
    private static final int MOST_STEP = 999;
    private static final int MOST_BIDDERS = 4;
    private static final int WORTHS = 3;
    private static final int MOST_WORTH = 9999;
    private static final int MOST_CREWS = 4;

    private final Air air = new Air();
    private final Register register = new Register();
    private final Border border = new Border();
    private final Packer packer = new Packer();
    private final Selling selling = new Selling();
    private final Buying buying = new Buying();
    private final Moving moving = new Moving();
    private final Row trial = new Row(MOST_STATIONS, OFF);

    public Bandplan() {
    }

    public int setGround(int column, int row, int ground)
            throws IndexOutOfBoundsException, IllegalArgumentException, IllegalStateException {
        needCell(column, row);
        needRange(ground, 0, MOST_GROUND);
        needSilence();
        return air.land.changeGround(column, row, ground);
    }

    public int addSite(int column, int row, int height)
            throws IndexOutOfBoundsException, IllegalArgumentException, IllegalStateException {
        needCell(column, row);
        needRange(height, 0, MOST_HEIGHT);
        if (air.land.sites.size() >= MOST_SITES) {
            throw new IllegalStateException("no more sites");
        }
        return air.land.found(new Site(column, row, height));
    }

    public int loss(int site, int other) throws IndexOutOfBoundsException {
        needSite(site);
        needSite(other);
        return air.land.lossBetween(site, other);
    }

    public int addStation(int sends, int receives, int power, boolean isProtected)
            throws IndexOutOfBoundsException, IllegalArgumentException, IllegalStateException {
        needSite(sends);
        needSite(receives);
        if (sends == receives) {
            throw new IllegalArgumentException("one site for both");
        }
        needRange(power, 0, MOST_POWER);
        int number = air.stations.size();
        if (number >= MOST_STATIONS) {
            throw new IllegalStateException("no more stations");
        }
        air.stations.add(new Station(number, sends, receives, power, isProtected));
        return number;
    }

    public int setRatio(int ratio) throws IllegalArgumentException, IllegalStateException {
        needRange(ratio, 0, MOST_RATIO);
        needSilence();
        int before = air.ratio;
        air.ratio = ratio;
        return before;
    }

    public int level(int station) throws IndexOutOfBoundsException {
        return air.levelOf(stationAt(station));
    }

    public int harm(int station)
            throws IndexOutOfBoundsException, UnsupportedOperationException, NoSuchElementException {
        int all = air.allHarm(stationOnAir(station), register.now);
        if (all == NO_HARM) {
            throw new NoSuchElementException("nothing harms it");
        }
        return all;
    }

    public boolean keeps(int station) throws IndexOutOfBoundsException, UnsupportedOperationException {
        return air.keepsLevel(stationOnAir(station), register.now);
    }

    public boolean bars(int station, int channel, int other, int otherChannel)
            throws IndexOutOfBoundsException, IllegalArgumentException {
        Station one = stationAt(station);
        Station another = stationAt(other);
        if (one == another) {
            throw new IllegalArgumentException("one station for both");
        }
        needChannel(channel);
        needChannel(otherChannel);
        return air.barEachOther(one, another, Math.abs(channel - otherChannel));
    }

    public int putOn(int station, int channel)
            throws IndexOutOfBoundsException, IllegalArgumentException, IllegalStateException,
            UnsupportedOperationException {
        Station wanted = stationAt(station);
        needChannel(channel);
        if (border.isForeign(channel) && air.isNearBorder(wanted)
                && !border.yesCounts(station, channel, register.today)) {
            throw new IllegalStateException("a yes is needed");
        }
        trial.copyFrom(register.now);
        trial.put(station, channel);
        int gone = wanted.isProtected ? silenceSecondaries(wanted) : 0;
        if (!air.allKeep(trial)) {
            throw new UnsupportedOperationException("a protected one would not keep its level");
        }
        for (int i = 0; i < air.stations.size(); i++) {
            register.change(i, trial.at(i));
        }
        return gone;
    }

    public int putOff(int station) throws IndexOutOfBoundsException {
        Station wanted = stationAt(station);
        int before = register.now.at(wanted.number);
        register.change(wanted.number, OFF);
        return before;
    }

    public int channelOf(int station, int day) throws IndexOutOfBoundsException, IllegalArgumentException {
        Station wanted = stationAt(station);
        needRange(day, 0, register.today);
        return register.channelAt(wanted.number, day);
    }

    public boolean setForeign(int channel, boolean is) throws IllegalArgumentException {
        needChannel(channel);
        boolean before = border.isForeign(channel);
        border.makeForeign(channel, is);
        return before;
    }

    public int askAbroad(int station, int channel) throws IndexOutOfBoundsException, IllegalArgumentException {
        Station wanted = stationAt(station);
        needChannel(channel);
        return border.ask(wanted.number, channel, register.today);
    }

    public boolean object(int station, int channel)
            throws IndexOutOfBoundsException, IllegalArgumentException, NoSuchElementException {
        Station wanted = stationAt(station);
        needChannel(channel);
        if (!border.wasAsked(wanted.number, channel)) {
            throw new NoSuchElementException("no yes was asked for");
        }
        return border.protest(wanted.number, channel, register.today);
    }

    public boolean hasYes(int station, int channel) throws IndexOutOfBoundsException, IllegalArgumentException {
        Station wanted = stationAt(station);
        needChannel(channel);
        return border.yesCounts(wanted.number, channel, register.today);
    }

    public int goOn(int days) throws IllegalArgumentException {
        needRange(days, 1, MOST_DAYS);
        register.today += days;
        return register.today;
    }

    public boolean canPack(int channels) throws IllegalArgumentException {
        needRange(channels, 1, CHANNELS);
        packer.prepare(air, channels);
        return packer.findFirst(air.protectedOnes());
    }

    public int packed(int channels, int station)
            throws IllegalArgumentException, IndexOutOfBoundsException, UnsupportedOperationException,
            NoSuchElementException {
        needRange(channels, 1, CHANNELS);
        Station wanted = stationAt(station);
        if (!wanted.isProtected) {
            throw new UnsupportedOperationException("it is secondary");
        }
        packer.prepare(air, channels);
        if (!packer.findFirst(air.protectedOnes())) {
            throw new NoSuchElementException("there is no packing");
        }
        return packer.places.at(wanted.number);
    }

    public int setAsked(int station, int price) throws IndexOutOfBoundsException, IllegalArgumentException {
        Station wanted = stationAt(station);
        needRange(price, 0, MOST_PRICE);
        int before = wanted.asked;
        wanted.asked = price;
        return before;
    }

    public int sell(int price, int step, int channels)
            throws IllegalArgumentException, UnsupportedOperationException {
        needRange(price, 1, MOST_PRICE);
        needRange(step, 1, MOST_STEP);
        needRange(channels, 1, CHANNELS);
        int takePart = air.protectedOnes() & register.onesOn();
        if (takePart == 0) {
            throw new UnsupportedOperationException("no protected station is on");
        }
        packer.prepare(air, channels);
        int stayAtOnce = takePart & air.askingMoreThan(price);
        if (!packer.fits(stayAtOnce)) {
            throw new UnsupportedOperationException("those that stay at once cannot be packed");
        }
        selling.begin(channels, stayAtOnce);
        int sold = selling.run(air, packer, takePart & ~stayAtOnce, price, step);
        for (int i = 0; i < air.stations.size(); i++) {
            if (isIn(i, sold)) {
                register.change(i, OFF);
            }
        }
        return Integer.bitCount(sold);
    }

    public int priceOf(int station) throws IndexOutOfBoundsException, NoSuchElementException {
        Station wanted = stationAt(station);
        int price = selling.prices.at(wanted.number);
        if (price == NONE) {
            throw new NoSuchElementException("it was not bought");
        }
        return price;
    }

    public int rounds() {
        return selling.roundCount;
    }

    public int addBidder(int first, int second, int third)
            throws IllegalArgumentException, IllegalStateException {
        needRange(first, 0, MOST_WORTH);
        needRange(second, 0, first);
        needRange(third, 0, second);
        if (buying.bidders >= MOST_BIDDERS) {
            throw new IllegalStateException("no more bidders");
        }
        return buying.admit(first, second, third);
    }

    public int buy(int channels) throws IllegalArgumentException {
        needRange(channels, 0, CHANNELS);
        return buying.run(channels);
    }

    public int bought(int bidder) throws IndexOutOfBoundsException {
        needBidder(bidder);
        return buying.won.at(bidder);
    }

    public long pays(int bidder) throws IndexOutOfBoundsException {
        needBidder(bidder);
        return buying.dues.at(bidder);
    }

    public int move(int crews) throws IllegalArgumentException, UnsupportedOperationException {
        needRange(crews, 1, MOST_CREWS);
        if (!selling.wasHeld) {
            throw new UnsupportedOperationException("there was no selling");
        }
        int movers = selling.stayed & register.onesOn();
        packer.prepare(air, selling.channels);
        if (!packer.findFirst(movers)) {
            throw new UnsupportedOperationException("there is no packing");
        }
        moving.begin(movers, packer, register);
        return moving.run(air, packer, register, crews);
    }

    public int phaseOf(int station) throws IndexOutOfBoundsException, NoSuchElementException {
        Station wanted = stationAt(station);
        int phase = moving.phases.at(wanted.number);
        if (phase == NONE) {
            throw new NoSuchElementException("it did not move");
        }
        return phase;
    }

    public int dark() {
        return moving.darkOnes;
    }

    public float onShare() throws ArithmeticException {
        int all = air.stations.size();
        if (all == 0) {
            throw new ArithmeticException("there are no stations");
        }
        return (float) Integer.bitCount(register.onesOn()) / (float) all;
    }

    public double meanLevel() throws ArithmeticException {
        int on = Integer.bitCount(register.onesOn());
        if (on == 0) {
            throw new ArithmeticException("no station is on");
        }
        int sum = 0;
        for (int i = 0; i < air.stations.size(); i++) {
            if (register.now.at(i) != OFF) {
                sum += air.levelOf(air.stations.get(i));
            }
        }
        return (double) sum / (double) on;
    }

    public boolean isSound() {
        // Behind a move, two that do not bar a third one may harm it together.
        boolean levelsHold = moving.wasDone || air.allKeep(register.now);
        return levelsHold && register.holdsToday() && buying.isFair() && selling.isFair();
    }

    private void needCell(int column, int row) {
        if (column < 0 || column >= SIDE || row < 0 || row >= SIDE) {
            throw new IndexOutOfBoundsException("no such cell");
        }
    }

    private void needSite(int site) {
        if (site < 0 || site >= air.land.sites.size()) {
            throw new IndexOutOfBoundsException("no such site");
        }
    }

    private void needBidder(int bidder) {
        if (bidder < 0 || bidder >= buying.bidders) {
            throw new IndexOutOfBoundsException("no such bidder");
        }
    }

    private void needChannel(int channel) {
        needRange(channel, 0, CHANNELS - 1);
    }

    private void needRange(int value, int least, int most) {
        if (value < least || value > most) {
            throw new IllegalArgumentException("out of range");
        }
    }

    private void needSilence() {
        if (register.onesOn() != 0) {
            throw new IllegalStateException("a station is on");
        }
    }

    private Station stationAt(int number) {
        if (number < 0 || number >= air.stations.size()) {
            throw new IndexOutOfBoundsException("no such station");
        }
        return air.stations.get(number);
    }

    private Station stationOnAir(int number) {
        Station station = stationAt(number);
        if (register.now.at(number) == OFF) {
            throw new UnsupportedOperationException("it is off");
        }
        return station;
    }

    private int silenceSecondaries(Station wanted) {
        int gone = 0;
        for (int i = air.stations.size() - 1; i >= 0; i--) {
            Station other = air.stations.get(i);
            int apart = Math.abs(trial.at(i) - trial.at(wanted.number));
            if (!other.isProtected && trial.at(i) != OFF && air.barEachOther(wanted, other, apart)) {
                trial.put(i, OFF);
                gone++;
            }
        }
        return gone;
    }

    private static boolean isIn(int number, int set) {
        return (set >> number & 1) == 1;
    }

    /** Whole numbers in a row of fixed length; each index is looked at before it is used. */
    private static final class Row {
        private final int[] cells;

        Row(int length, int first) {
            cells = new int[length < 0 ? 0 : length];
            for (int i = 0; i < cells.length; i++) {
                cells[i] = first;
            }
        }

        int at(int index) {
            return index >= 0 && index < cells.length ? cells[index] : 0;
        }

        void put(int index, int value) {
            if (index >= 0 && index < cells.length) {
                cells[index] = value;
            }
        }

        void fillWith(int value) {
            for (int i = 0; i < cells.length; i++) {
                cells[i] = value;
            }
        }

        void copyFrom(Row other) {
            for (int i = 0; i < cells.length; i++) {
                cells[i] = other.at(i);
            }
        }
    }

    private static final class Site {
        final int column;
        final int row;
        final int height;

        Site(int column, int row, int height) {
            this.column = column;
            this.row = row;
            this.height = height;
        }
    }

    private static final class Station {
        final int number;
        final int sends;
        final int receives;
        final int power;
        final boolean isProtected;
        int asked;

        Station(int number, int sends, int receives, int power, boolean isProtected) {
            this.number = number;
            this.sends = sends;
            this.receives = receives;
            this.power = power;
            this.isProtected = isProtected;
        }
    }

    /** Ground and sites. Losses are kept ready, since each question about harm needs many. */
    private static final class Land {
        private static final int BASE_LOSS = 200;
        private static final int LOSS_BY_DISTANCE = 8;
        private static final int LOSS_BY_BLOCK = 60;
        // 100 * (19 * 19 + 19 * 19) has a root below 2 * 256.
        private static final int HIGHEST_ROOT_BIT = 256;

        final ArrayList<Site> sites = new ArrayList<Site>();
        private final Row grounds = new Row(SIDE * SIDE, 0);
        private final Row losses = new Row(MOST_SITES * MOST_SITES, 0);

        int changeGround(int column, int row, int ground) {
            int before = groundAt(column, row);
            grounds.put(column * SIDE + row, ground);
            measureAll();
            return before;
        }

        int found(Site site) {
            sites.add(site);
            measureAll();
            return sites.size() - 1;
        }

        int lossBetween(int site, int other) {
            return losses.at(site * MOST_SITES + other);
        }

        private int groundAt(int column, int row) {
            return grounds.at(column * SIDE + row);
        }

        private void measureAll() {
            for (int second = 1; second < sites.size(); second++) {
                for (int first = 0; first < second; first++) {
                    int loss = measure(sites.get(first), sites.get(second));
                    losses.put(first * MOST_SITES + second, loss);
                    losses.put(second * MOST_SITES + first, loss);
                }
            }
        }

        private int measure(Site first, Site second) {
            int columns = second.column - first.column;
            int rows = second.row - first.row;
            int distance = rootOf(100 * (columns * columns + rows * rows));
            return BASE_LOSS + LOSS_BY_DISTANCE * distance + LOSS_BY_BLOCK * blocksBetween(first, second);
        }

        private static int rootOf(int square) {
            int root = 0;
            for (int bit = HIGHEST_ROOT_BIT; bit > 0; bit >>= 1) {
                int next = root + bit;
                if (next * next <= square) {
                    root = next;
                }
            }
            return root;
        }

        private int blocksBetween(Site first, Site second) {
            int columns = second.column - first.column;
            int rows = second.row - first.row;
            int steps = Math.max(Math.abs(columns), Math.abs(rows));
            if (steps < 2) {
                return 0;
            }
            int top = first.height + groundAt(first.column, first.row);
            int otherTop = second.height + groundAt(second.column, second.row);
            int blocks = 0;
            for (int k = 1; k < steps; k++) {
                int column = first.column + Math.floorDiv(k * columns, steps);
                int row = first.row + Math.floorDiv(k * rows, steps);
                int line = (top * (steps - k) + otherTop * k) / steps;
                if (groundAt(column, row) > line) {
                    blocks++;
                }
            }
            return blocks;
        }
    }

    /** What stations do to each other. */
    private static final class Air {
        final Land land = new Land();
        final ArrayList<Station> stations = new ArrayList<Station>();
        int ratio = FIRST_RATIO;

        int levelOf(Station station) {
            return station.power - land.lossBetween(station.sends, station.receives);
        }

        int allHarm(Station harmed, Row channels) {
            int all = NO_HARM;
            for (int i = 0; i < stations.size(); i++) {
                Station other = stations.get(i);
                int apart = Math.abs(channels.at(i) - channels.at(harmed.number));
                if (other != harmed && channels.at(i) != OFF && apart < HARMLESS_APART) {
                    int harm = harmOf(other, harmed, apart);
                    all = all == NO_HARM ? harm : together(all, harm);
                }
            }
            return all;
        }

        boolean keepsLevel(Station station, Row channels) {
            int all = allHarm(station, channels);
            return all == NO_HARM || levelOf(station) - all >= ratio;
        }

        boolean allKeep(Row channels) {
            for (int i = 0; i < stations.size(); i++) {
                Station station = stations.get(i);
                if (station.isProtected && channels.at(i) != OFF && !keepsLevel(station, channels)) {
                    return false;
                }
            }
            return true;
        }

        boolean barEachOther(Station one, Station another, int apart) {
            return suffers(one, another, apart) || suffers(another, one, apart);
        }

        boolean isNearBorder(Station station) {
            return isBeyond(station.sends) || isBeyond(station.receives);
        }

        int protectedOnes() {
            int set = 0;
            for (int i = 0; i < stations.size(); i++) {
                if (stations.get(i).isProtected) {
                    set |= 1 << i;
                }
            }
            return set;
        }

        int askingMoreThan(int price) {
            int set = 0;
            for (int i = 0; i < stations.size(); i++) {
                if (stations.get(i).asked > price) {
                    set |= 1 << i;
                }
            }
            return set;
        }

        private boolean isBeyond(int site) {
            return site >= 0 && site < land.sites.size() && land.sites.get(site).column >= BORDER_COLUMN;
        }

        private boolean suffers(Station harmed, Station other, int apart) {
            return harmed.isProtected && apart < HARMLESS_APART
                    && levelOf(harmed) - harmOf(other, harmed, apart) < ratio;
        }

        private int harmOf(Station other, Station harmed, int apart) {
            int weaker = apart == 0 ? 0 : apart == 1 ? 300 : 500;
            return other.power - land.lossBetween(other.sends, harmed.receives) - weaker;
        }

        private static int together(int one, int another) {
            int more = 30 - Math.abs(one - another) / 4;
            return Math.max(one, another) + Math.max(more, 0);
        }
    }

    /** Who is on which channel, now and at the end of each day. */
    private static final class Register {
        final Row now = new Row(MOST_STATIONS, OFF);
        int today;
        private final Row entries = new Row(MOST_STATIONS, 0);
        private final Row days = new Row(MOST_STATIONS * MOST_ENTRIES, 0);
        private final Row channels = new Row(MOST_STATIONS * MOST_ENTRIES, OFF);

        void change(int station, int channel) {
            if (now.at(station) != channel) {
                now.put(station, channel);
                write(station, channel);
            }
        }

        int channelAt(int station, int day) {
            for (int i = entries.at(station) - 1; i >= 0; i--) {
                if (days.at(lineOf(station, i)) <= day) {
                    return channels.at(lineOf(station, i));
                }
            }
            return OFF;
        }

        int onesOn() {
            int set = 0;
            for (int i = 0; i < MOST_STATIONS; i++) {
                if (now.at(i) != OFF) {
                    set |= 1 << i;
                }
            }
            return set;
        }

        boolean holdsToday() {
            for (int i = 0; i < MOST_STATIONS; i++) {
                if (channelAt(i, today) != now.at(i)) {
                    return false;
                }
            }
            return true;
        }

        private void write(int station, int channel) {
            int count = entries.at(station);
            boolean isAgainToday = count > 0 && days.at(lineOf(station, count - 1)) == today;
            // A full register can only be met behind the 512th call: there the last line is free.
            if (!isAgainToday && count < MOST_ENTRIES) {
                count++;
                entries.put(station, count);
            }
            days.put(lineOf(station, count - 1), today);
            channels.put(lineOf(station, count - 1), channel);
        }

        private static int lineOf(int station, int entry) {
            return station * MOST_ENTRIES + entry;
        }
    }

    /** Foreign channels, and the yeses asked for abroad. */
    private static final class Border {
        private final Row foreign = new Row(CHANNELS, 0);
        private final Row askedOn = new Row(MOST_STATIONS * CHANNELS, NONE);
        private final Row protested = new Row(MOST_STATIONS * CHANNELS, 0);

        boolean isForeign(int channel) {
            return foreign.at(channel) == 1;
        }

        void makeForeign(int channel, boolean is) {
            foreign.put(channel, is ? 1 : 0);
        }

        int ask(int station, int channel, int today) {
            askedOn.put(station * CHANNELS + channel, today);
            protested.put(station * CHANNELS + channel, 0);
            return today + DAYS_UNTIL_YES;
        }

        boolean wasAsked(int station, int channel) {
            return askedOn.at(station * CHANNELS + channel) != NONE;
        }

        boolean protest(int station, int channel, int today) {
            boolean isInTime = today < askedOn.at(station * CHANNELS + channel) + DAYS_UNTIL_YES;
            if (isInTime) {
                protested.put(station * CHANNELS + channel, 1);
            }
            return isInTime;
        }

        boolean yesCounts(int station, int channel, int today) {
            return wasAsked(station, channel) && protested.at(station * CHANNELS + channel) == 0
                    && today >= askedOn.at(station * CHANNELS + channel) + DAYS_UNTIL_YES;
        }
    }

    /** Finds the first packing of a set of stations, given as bits. */
    private static final class Packer {
        // All bits: more than any set of stations in conflict.
        private static final int DONE = -1;
        private static final int UNKNOWN = 0;
        private static final int FITS = 1;
        private static final int FITS_NOT = 2;

        final Row places = new Row(MOST_STATIONS, OFF);
        private final Row spacing = new Row(MOST_STATIONS * MOST_STATIONS, 0);
        private final Row known = new Row(1 << MOST_STATIONS, UNKNOWN);
        private int channels;
        private int members;

        void prepare(Air air, int channels) {
            this.channels = channels;
            known.fillWith(UNKNOWN);
            for (int i = 0; i < air.stations.size(); i++) {
                for (int j = 0; j < i; j++) {
                    int least = leastSpacing(air, air.stations.get(i), air.stations.get(j));
                    spacing.put(i * MOST_STATIONS + j, least);
                    spacing.put(j * MOST_STATIONS + i, least);
                }
            }
        }

        boolean areTooNear(int station, int channel, int other, int otherChannel) {
            return Math.abs(channel - otherChannel) < spacing.at(station * MOST_STATIONS + other);
        }

        boolean fits(int set) {
            if (known.at(set) == UNKNOWN) {
                known.put(set, findFirst(set) ? FITS : FITS_NOT);
            }
            return known.at(set) == FITS;
        }

        boolean findFirst(int set) {
            members = set;
            places.fillWith(OFF);
            return place(this, 0) == DONE;
        }

        // Answers DONE, or which lower stations together stand in the way: a station that is
        // not among them need not try its other channels, which keeps the search short.
        private static int place(Packer packer, int station) {
            if (station >= MOST_STATIONS) {
                return DONE;
            }
            if (!isIn(station, packer.members)) {
                return place(packer, station + 1);
            }
            int inTheWay = 0;
            for (int channel = 0; channel < packer.channels; channel++) {
                int lower = packer.lowerTooNear(station, channel);
                if (lower != NONE) {
                    inTheWay |= 1 << lower;
                    continue;
                }
                packer.places.put(station, channel);
                int above = place(packer, station + 1);
                if (above == DONE || !isIn(station, above)) {
                    return above;
                }
                inTheWay |= above & ~(1 << station);
            }
            return inTheWay;
        }

        private int lowerTooNear(int station, int channel) {
            for (int i = 0; i < station; i++) {
                int apart = Math.abs(channel - places.at(i));
                if (isIn(i, members) && apart < spacing.at(station * MOST_STATIONS + i)) {
                    return i;
                }
            }
            return NONE;
        }

        private static int leastSpacing(Air air, Station one, Station another) {
            int apart = 0;
            while (apart < HARMLESS_APART && air.barEachOther(one, another, apart)) {
                apart++;
            }
            return apart;
        }
    }

    /** The last selling. */
    private static final class Selling {
        final Row prices = new Row(MOST_STATIONS, NONE);
        boolean wasHeld;
        int channels;
        int stayed;
        int roundCount;
        private final Row askedThen = new Row(MOST_STATIONS, 0);

        void begin(int channels, int stayAtOnce) {
            this.channels = channels;
            wasHeld = true;
            stayed = stayAtOnce;
            roundCount = 0;
            prices.fillWith(NONE);
        }

        /** Answers who is sold. */
        int run(Air air, Packer packer, int all, int firstPrice, int step) {
            int stillIn = all;
            int price = firstPrice;
            for (int round = 0; round < MOST_PRICE && stillIn != 0 && price >= step; round++) {
                stillIn = holdRound(air, packer, stillIn, price, price - step);
                price -= step;
                roundCount++;
            }
            for (int i = 0; i < air.stations.size(); i++) {
                if (isIn(i, stillIn)) {
                    take(air.stations.get(i), price);
                }
            }
            return all & ~stayed;
        }

        boolean isFair() {
            for (int i = 0; i < MOST_STATIONS; i++) {
                if (prices.at(i) != NONE && prices.at(i) < askedThen.at(i)) {
                    return false;
                }
            }
            return true;
        }

        private int holdRound(Air air, Packer packer, int before, int price, int nextPrice) {
            int stillIn = before;
            for (int i = 0; i < air.stations.size(); i++) {
                if (!isIn(i, before)) {
                    continue;
                }
                Station station = air.stations.get(i);
                int bit = 1 << i;
                if (!packer.fits(stayed | bit)) {
                    take(station, price);
                    stillIn &= ~bit;
                } else if (station.asked > nextPrice) {
                    stayed |= bit;
                    stillIn &= ~bit;
                }
            }
            return stillIn;
        }

        private void take(Station station, int price) {
            prices.put(station.number, price);
            askedThen.put(station.number, station.asked);
        }
    }

    /** Bidders, and what they bought last. */
    private static final class Buying {
        final Row won = new Row(MOST_BIDDERS, 0);
        final Row dues = new Row(MOST_BIDDERS, 0);
        int bidders;
        private final Row worths = new Row(MOST_BIDDERS * WORTHS, 0);
        private final Row wonWithout = new Row(MOST_BIDDERS, 0);

        int admit(int first, int second, int third) {
            worths.put(bidders * WORTHS, first);
            worths.put(bidders * WORTHS + 1, second);
            worths.put(bidders * WORTHS + 2, third);
            bidders++;
            return bidders - 1;
        }

        int run(int channels) {
            int sold = deal(channels, NONE, won);
            for (int i = 0; i < bidders; i++) {
                deal(channels, i, wonWithout);
                dues.put(i, worthOfOthers(i, wonWithout) - worthOfOthers(i, won));
            }
            return sold;
        }

        boolean isFair() {
            for (int i = 0; i < bidders; i++) {
                if (dues.at(i) > worthOf(i, won)) {
                    return false;
                }
            }
            return true;
        }

        private int deal(int channels, int without, Row taken) {
            taken.fillWith(0);
            for (int sold = 0; sold < channels; sold++) {
                int best = highestBidder(without, taken);
                if (best == NONE) {
                    return sold;
                }
                taken.put(best, taken.at(best) + 1);
            }
            return channels;
        }

        private int highestBidder(int without, Row taken) {
            int best = NONE;
            int highest = 0;
            for (int i = 0; i < bidders; i++) {
                int next = taken.at(i) < WORTHS ? worths.at(i * WORTHS + taken.at(i)) : 0;
                if (i != without && next > highest) {
                    best = i;
                    highest = next;
                }
            }
            return best;
        }

        private int worthOf(int bidder, Row taken) {
            int sum = 0;
            for (int i = 0; i < WORTHS && i < taken.at(bidder); i++) {
                sum += worths.at(bidder * WORTHS + i);
            }
            return sum;
        }

        private int worthOfOthers(int bidder, Row taken) {
            int sum = 0;
            for (int i = 0; i < bidders; i++) {
                if (i != bidder) {
                    sum += worthOf(i, taken);
                }
            }
            return sum;
        }
    }

    /** The last move. */
    private static final class Moving {
        // Each phase moves one or puts one off, and each station does both at most once.
        private static final int MOST_PHASES = 2 * MOST_STATIONS;

        final Row phases = new Row(MOST_STATIONS, NONE);
        boolean wasDone;
        int darkOnes;
        private int waiting;

        void begin(int movers, Packer packer, Register register) {
            wasDone = true;
            darkOnes = 0;
            waiting = movers;
            phases.fillWith(NONE);
            for (int i = 0; i < MOST_STATIONS; i++) {
                if (isIn(i, movers) && register.now.at(i) == packer.places.at(i)) {
                    phases.put(i, 0);
                    waiting &= ~(1 << i);
                }
            }
        }

        /** Answers how many phases there were. */
        int run(Air air, Packer packer, Register register, int crews) {
            int phase = 0;
            while (phase < MOST_PHASES && waiting != 0) {
                if (!holdPhase(air, packer, register, crews, phase + 1)) {
                    int lowest = lowestWaitingOn(register);
                    if (lowest == NONE) {
                        return phase;
                    }
                    register.change(lowest, OFF);
                    darkOnes++;
                }
                phase++;
            }
            return phase;
        }

        private boolean holdPhase(Air air, Packer packer, Register register, int crews, int phase) {
            int moved = 0;
            for (int i = 0; i < air.stations.size() && moved < crews; i++) {
                if (isIn(i, waiting) && isFree(i, air, packer, register)) {
                    register.change(i, packer.places.at(i));
                    silenceSecondariesNear(i, air, packer, register);
                    phases.put(i, phase);
                    waiting &= ~(1 << i);
                    moved++;
                }
            }
            return moved > 0;
        }

        private static boolean isFree(int station, Air air, Packer packer, Register register) {
            int place = packer.places.at(station);
            for (int i = 0; i < air.stations.size(); i++) {
                int channel = register.now.at(i);
                if (i != station && air.stations.get(i).isProtected && channel != OFF
                        && packer.areTooNear(station, place, i, channel)) {
                    return false;
                }
            }
            return true;
        }

        private static void silenceSecondariesNear(int station, Air air, Packer packer, Register register) {
            int place = packer.places.at(station);
            for (int i = 0; i < air.stations.size(); i++) {
                int channel = register.now.at(i);
                if (!air.stations.get(i).isProtected && channel != OFF
                        && packer.areTooNear(station, place, i, channel)) {
                    register.change(i, OFF);
                }
            }
        }

        private int lowestWaitingOn(Register register) {
            for (int i = 0; i < MOST_STATIONS; i++) {
                if (isIn(i, waiting) && register.now.at(i) != OFF) {
                    return i;
                }
            }
            return NONE;
        }
    }
}
